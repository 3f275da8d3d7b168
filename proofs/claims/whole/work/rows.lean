section
-- ===== PART A: goes FIRST, ahead of the names: the tables' words, and 'selects' of the private methods out of them =====
/-- a private method of a class that the tables say can be made, by its rows of tables_1 -/
def lw_okq (q : MethodName × Nat) : Prop := (q.1.cls ≠ "java/lang/invoke/MethodHandle" ∧ q.1.cls ≠ "java/lang/invoke/VarHandle") ∧ Cond.instantiable q.1.cls q.2 ∈ tables_1 ∧ Cond.privateMethod q.1 ∈ tables_1 ∧ Cond.instanceMethod q.1 ∈ tables_1
theorem lw_p0 : lw_okq (⟨"Stagecargo", "costByPieces", "(LStagecargo$Rig;)I"⟩, 13) := ⟨⟨by decide +kernel, by decide +kernel⟩, List.mem_of_getElem? (i := 21) (by decide +kernel), List.mem_of_getElem? (i := 234) (by decide +kernel), List.mem_of_getElem? (i := 235) (by decide +kernel)⟩
theorem lw_p1 : lw_okq (⟨"Stagecargo", "costMinuteByMinute", "()J"⟩, 13) := ⟨⟨by decide +kernel, by decide +kernel⟩, List.mem_of_getElem? (i := 21) (by decide +kernel), List.mem_of_getElem? (i := 248) (by decide +kernel), List.mem_of_getElem? (i := 249) (by decide +kernel)⟩
theorem lw_p2 : lw_okq (⟨"Stagecargo", "findBest", "()V"⟩, 13) := ⟨⟨by decide +kernel, by decide +kernel⟩, List.mem_of_getElem? (i := 21) (by decide +kernel), List.mem_of_getElem? (i := 260) (by decide +kernel), List.mem_of_getElem? (i := 261) (by decide +kernel)⟩
theorem lw_p3 : lw_okq (⟨"Stagecargo", "isBetter", "(LStagecargo$Rig;LStagecargo$Rig;)Z"⟩, 13) := ⟨⟨by decide +kernel, by decide +kernel⟩, List.mem_of_getElem? (i := 21) (by decide +kernel), List.mem_of_getElem? (i := 271) (by decide +kernel), List.mem_of_getElem? (i := 272) (by decide +kernel)⟩
theorem lw_p4 : lw_okq (⟨"Stagecargo", "mayLeadToBetter", "(LStagecargo$Town;)Z"⟩, 13) := ⟨⟨by decide +kernel, by decide +kernel⟩, List.mem_of_getElem? (i := 21) (by decide +kernel), List.mem_of_getElem? (i := 275) (by decide +kernel), List.mem_of_getElem? (i := 276) (by decide +kernel)⟩
theorem lw_p5 : lw_okq (⟨"Stagecargo", "mayComeLater", "(LStagecargo$Piece;LStagecargo$Town;)Z"⟩, 13) := ⟨⟨by decide +kernel, by decide +kernel⟩, List.mem_of_getElem? (i := 21) (by decide +kernel), List.mem_of_getElem? (i := 282) (by decide +kernel), List.mem_of_getElem? (i := 283) (by decide +kernel)⟩
theorem lw_p6 : lw_okq (⟨"Stagecargo", "overloads", "(LStagecargo$Rig;LStagecargo$Piece;LStagecargo$Town;)Z"⟩, 13) := ⟨⟨by decide +kernel, by decide +kernel⟩, List.mem_of_getElem? (i := 21) (by decide +kernel), List.mem_of_getElem? (i := 290) (by decide +kernel), List.mem_of_getElem? (i := 291) (by decide +kernel)⟩
theorem lw_p7 : lw_okq (⟨"Stagecargo", "reasonAgainst", "(LStagecargo$Rig;I)C"⟩, 13) := ⟨⟨by decide +kernel, by decide +kernel⟩, List.mem_of_getElem? (i := 21) (by decide +kernel), List.mem_of_getElem? (i := 298) (by decide +kernel), List.mem_of_getElem? (i := 299) (by decide +kernel)⟩
theorem lw_p8 : lw_okq (⟨"Stagecargo", "beginNext", "(LStagecargo$Rig;LStagecargo$Piece;LStagecargo$Town;)I"⟩, 13) := ⟨⟨by decide +kernel, by decide +kernel⟩, List.mem_of_getElem? (i := 21) (by decide +kernel), List.mem_of_getElem? (i := 302) (by decide +kernel), List.mem_of_getElem? (i := 303) (by decide +kernel)⟩
theorem lw_p9 : lw_okq (⟨"Stagecargo", "workCarried", "(LStagecargo$Rig;LStagecargo$Piece;LStagecargo$Town;)I"⟩, 13) := ⟨⟨by decide +kernel, by decide +kernel⟩, List.mem_of_getElem? (i := 21) (by decide +kernel), List.mem_of_getElem? (i := 306) (by decide +kernel), List.mem_of_getElem? (i := 307) (by decide +kernel)⟩
theorem lw_p10 : lw_okq (⟨"Stagecargo", "putOn", "(LStagecargo$Rig;ILStagecargo$Town;)V"⟩, 13) := ⟨⟨by decide +kernel, by decide +kernel⟩, List.mem_of_getElem? (i := 21) (by decide +kernel), List.mem_of_getElem? (i := 310) (by decide +kernel), List.mem_of_getElem? (i := 311) (by decide +kernel)⟩
theorem lw_p11 : lw_okq (⟨"Stagecargo", "workNext", "(LStagecargo$Rig;LStagecargo$Piece;LStagecargo$Town;)I"⟩, 13) := ⟨⟨by decide +kernel, by decide +kernel⟩, List.mem_of_getElem? (i := 21) (by decide +kernel), List.mem_of_getElem? (i := 314) (by decide +kernel), List.mem_of_getElem? (i := 315) (by decide +kernel)⟩
theorem lw_p12 : lw_okq (⟨"Stagecargo", "takeLastOff", "(LStagecargo$Rig;)V"⟩, 13) := ⟨⟨by decide +kernel, by decide +kernel⟩, List.mem_of_getElem? (i := 21) (by decide +kernel), List.mem_of_getElem? (i := 318) (by decide +kernel), List.mem_of_getElem? (i := 319) (by decide +kernel)⟩
theorem lw_p13 : lw_okq (⟨"Stagecargo", "tryAllCompletions", "()V"⟩, 13) := ⟨⟨by decide +kernel, by decide +kernel⟩, List.mem_of_getElem? (i := 21) (by decide +kernel), List.mem_of_getElem? (i := 326) (by decide +kernel), List.mem_of_getElem? (i := 327) (by decide +kernel)⟩
theorem lw_p14 : lw_okq (⟨"Stagecargo", "noPointOverloaded", "(LStagecargo$Town;)Z"⟩, 13) := ⟨⟨by decide +kernel, by decide +kernel⟩, List.mem_of_getElem? (i := 21) (by decide +kernel), List.mem_of_getElem? (i := 357) (by decide +kernel), List.mem_of_getElem? (i := 358) (by decide +kernel)⟩
theorem lw_p15 : lw_okq (⟨"Stagecargo", "leftAt", "(ILStagecargo$Town;)I"⟩, 13) := ⟨⟨by decide +kernel, by decide +kernel⟩, List.mem_of_getElem? (i := 21) (by decide +kernel), List.mem_of_getElem? (i := 361) (by decide +kernel), List.mem_of_getElem? (i := 362) (by decide +kernel)⟩
def lw_privs_1 : List (MethodName × Nat) := [(⟨"Stagecargo", "costByPieces", "(LStagecargo$Rig;)I"⟩, 13), (⟨"Stagecargo", "costMinuteByMinute", "()J"⟩, 13), (⟨"Stagecargo", "findBest", "()V"⟩, 13), (⟨"Stagecargo", "isBetter", "(LStagecargo$Rig;LStagecargo$Rig;)Z"⟩, 13), (⟨"Stagecargo", "mayLeadToBetter", "(LStagecargo$Town;)Z"⟩, 13), (⟨"Stagecargo", "mayComeLater", "(LStagecargo$Piece;LStagecargo$Town;)Z"⟩, 13), (⟨"Stagecargo", "overloads", "(LStagecargo$Rig;LStagecargo$Piece;LStagecargo$Town;)Z"⟩, 13), (⟨"Stagecargo", "reasonAgainst", "(LStagecargo$Rig;I)C"⟩, 13), (⟨"Stagecargo", "beginNext", "(LStagecargo$Rig;LStagecargo$Piece;LStagecargo$Town;)I"⟩, 13), (⟨"Stagecargo", "workCarried", "(LStagecargo$Rig;LStagecargo$Piece;LStagecargo$Town;)I"⟩, 13), (⟨"Stagecargo", "putOn", "(LStagecargo$Rig;ILStagecargo$Town;)V"⟩, 13), (⟨"Stagecargo", "workNext", "(LStagecargo$Rig;LStagecargo$Piece;LStagecargo$Town;)I"⟩, 13), (⟨"Stagecargo", "takeLastOff", "(LStagecargo$Rig;)V"⟩, 13), (⟨"Stagecargo", "tryAllCompletions", "()V"⟩, 13), (⟨"Stagecargo", "noPointOverloaded", "(LStagecargo$Town;)Z"⟩, 13), (⟨"Stagecargo", "leftAt", "(ILStagecargo$Town;)I"⟩, 13)]
theorem lw_r1 : ∀ q ∈ lw_privs_1, lw_okq q := List.forall_mem_cons.mpr ⟨lw_p0, List.forall_mem_cons.mpr ⟨lw_p1, List.forall_mem_cons.mpr ⟨lw_p2, List.forall_mem_cons.mpr ⟨lw_p3, List.forall_mem_cons.mpr ⟨lw_p4, List.forall_mem_cons.mpr ⟨lw_p5, List.forall_mem_cons.mpr ⟨lw_p6, List.forall_mem_cons.mpr ⟨lw_p7, List.forall_mem_cons.mpr ⟨lw_p8, List.forall_mem_cons.mpr ⟨lw_p9, List.forall_mem_cons.mpr ⟨lw_p10, List.forall_mem_cons.mpr ⟨lw_p11, List.forall_mem_cons.mpr ⟨lw_p12, List.forall_mem_cons.mpr ⟨lw_p13, List.forall_mem_cons.mpr ⟨lw_p14, List.forall_mem_cons.mpr ⟨lw_p15, fun _ h => absurd h List.not_mem_nil⟩⟩⟩⟩⟩⟩⟩⟩⟩⟩⟩⟩⟩⟩⟩⟩
theorem lw_p16 : lw_okq (⟨"Stagecargo", "needsHungBefore", "()Z"⟩, 13) := ⟨⟨by decide +kernel, by decide +kernel⟩, List.mem_of_getElem? (i := 21) (by decide +kernel), List.mem_of_getElem? (i := 365) (by decide +kernel), List.mem_of_getElem? (i := 366) (by decide +kernel)⟩
theorem lw_p17 : lw_okq (⟨"java/lang/Throwable", "fillInStackTrace", "(I)Ljava/lang/Throwable;"⟩, 6) := ⟨⟨by decide +kernel, by decide +kernel⟩, List.mem_of_getElem? (i := 423) (by decide +kernel), List.mem_of_getElem? (i := 421) (by decide +kernel), List.mem_of_getElem? (i := 422) (by decide +kernel)⟩
theorem lw_p18 : lw_okq (⟨"Stagecargo", "checkPiece", "(I)V"⟩, 13) := ⟨⟨by decide +kernel, by decide +kernel⟩, List.mem_of_getElem? (i := 21) (by decide +kernel), List.mem_of_getElem? (i := 510) (by decide +kernel), List.mem_of_getElem? (i := 511) (by decide +kernel)⟩
theorem lw_p19 : lw_okq (⟨"Stagecargo", "checkPoint", "(I)V"⟩, 13) := ⟨⟨by decide +kernel, by decide +kernel⟩, List.mem_of_getElem? (i := 21) (by decide +kernel), List.mem_of_getElem? (i := 530) (by decide +kernel), List.mem_of_getElem? (i := 531) (by decide +kernel)⟩
theorem lw_p20 : lw_okq (⟨"Stagecargo", "checkNotHung", "(I)V"⟩, 13) := ⟨⟨by decide +kernel, by decide +kernel⟩, List.mem_of_getElem? (i := 21) (by decide +kernel), List.mem_of_getElem? (i := 548) (by decide +kernel), List.mem_of_getElem? (i := 549) (by decide +kernel)⟩
theorem lw_p21 : lw_okq (⟨"Stagecargo", "allNeedsOf", "(I)I"⟩, 13) := ⟨⟨by decide +kernel, by decide +kernel⟩, List.mem_of_getElem? (i := 21) (by decide +kernel), List.mem_of_getElem? (i := 565) (by decide +kernel), List.mem_of_getElem? (i := 566) (by decide +kernel)⟩
theorem lw_p22 : lw_okq (⟨"Stagecargo", "isInUse", "(I)Z"⟩, 13) := ⟨⟨by decide +kernel, by decide +kernel⟩, List.mem_of_getElem? (i := 21) (by decide +kernel), List.mem_of_getElem? (i := 600) (by decide +kernel), List.mem_of_getElem? (i := 601) (by decide +kernel)⟩
theorem lw_p23 : lw_okq (⟨"Stagecargo", "checkTown", "(I)V"⟩, 13) := ⟨⟨by decide +kernel, by decide +kernel⟩, List.mem_of_getElem? (i := 21) (by decide +kernel), List.mem_of_getElem? (i := 621) (by decide +kernel), List.mem_of_getElem? (i := 622) (by decide +kernel)⟩
theorem lw_p24 : lw_okq (⟨"StagecargoModel", "fails", "(I)Z"⟩, 35) := ⟨⟨by decide +kernel, by decide +kernel⟩, List.mem_of_getElem? (i := 763) (by decide +kernel), List.mem_of_getElem? (i := 887) (by decide +kernel), List.mem_of_getElem? (i := 888) (by decide +kernel)⟩
theorem lw_p25 : lw_okq (⟨"StagecargoModel", "isNoPiece", "(I)Z"⟩, 35) := ⟨⟨by decide +kernel, by decide +kernel⟩, List.mem_of_getElem? (i := 763) (by decide +kernel), List.mem_of_getElem? (i := 899) (by decide +kernel), List.mem_of_getElem? (i := 900) (by decide +kernel)⟩
theorem lw_p26 : lw_okq (⟨"StagecargoModel", "isNoPoint", "(I)Z"⟩, 35) := ⟨⟨by decide +kernel, by decide +kernel⟩, List.mem_of_getElem? (i := 763) (by decide +kernel), List.mem_of_getElem? (i := 903) (by decide +kernel), List.mem_of_getElem? (i := 904) (by decide +kernel)⟩
theorem lw_p27 : lw_okq (⟨"StagecargoModel", "isFixing", "(IIII)Z"⟩, 35) := ⟨⟨by decide +kernel, by decide +kernel⟩, List.mem_of_getElem? (i := 763) (by decide +kernel), List.mem_of_getElem? (i := 907) (by decide +kernel), List.mem_of_getElem? (i := 908) (by decide +kernel)⟩
theorem lw_p28 : lw_okq (⟨"StagecargoModel", "inRig", "(I)I"⟩, 35) := ⟨⟨by decide +kernel, by decide +kernel⟩, List.mem_of_getElem? (i := 763) (by decide +kernel), List.mem_of_getElem? (i := 911) (by decide +kernel), List.mem_of_getElem? (i := 912) (by decide +kernel)⟩
theorem lw_p29 : lw_okq (⟨"StagecargoModel", "partOfRight", "(I)I"⟩, 35) := ⟨⟨by decide +kernel, by decide +kernel⟩, List.mem_of_getElem? (i := 763) (by decide +kernel), List.mem_of_getElem? (i := 915) (by decide +kernel), List.mem_of_getElem? (i := 916) (by decide +kernel)⟩
theorem lw_p30 : lw_okq (⟨"StagecargoModel", "needsAtLast", "(II)Z"⟩, 35) := ⟨⟨by decide +kernel, by decide +kernel⟩, List.mem_of_getElem? (i := 763) (by decide +kernel), List.mem_of_getElem? (i := 923) (by decide +kernel), List.mem_of_getElem? (i := 924) (by decide +kernel)⟩
theorem lw_p31 : lw_okq (⟨"StagecargoModel", "isBusy", "(I)Z"⟩, 35) := ⟨⟨by decide +kernel, by decide +kernel⟩, List.mem_of_getElem? (i := 763) (by decide +kernel), List.mem_of_getElem? (i := 931) (by decide +kernel), List.mem_of_getElem? (i := 932) (by decide +kernel)⟩
def lw_privs_2 : List (MethodName × Nat) := [(⟨"Stagecargo", "needsHungBefore", "()Z"⟩, 13), (⟨"java/lang/Throwable", "fillInStackTrace", "(I)Ljava/lang/Throwable;"⟩, 6), (⟨"Stagecargo", "checkPiece", "(I)V"⟩, 13), (⟨"Stagecargo", "checkPoint", "(I)V"⟩, 13), (⟨"Stagecargo", "checkNotHung", "(I)V"⟩, 13), (⟨"Stagecargo", "allNeedsOf", "(I)I"⟩, 13), (⟨"Stagecargo", "isInUse", "(I)Z"⟩, 13), (⟨"Stagecargo", "checkTown", "(I)V"⟩, 13), (⟨"StagecargoModel", "fails", "(I)Z"⟩, 35), (⟨"StagecargoModel", "isNoPiece", "(I)Z"⟩, 35), (⟨"StagecargoModel", "isNoPoint", "(I)Z"⟩, 35), (⟨"StagecargoModel", "isFixing", "(IIII)Z"⟩, 35), (⟨"StagecargoModel", "inRig", "(I)I"⟩, 35), (⟨"StagecargoModel", "partOfRight", "(I)I"⟩, 35), (⟨"StagecargoModel", "needsAtLast", "(II)Z"⟩, 35), (⟨"StagecargoModel", "isBusy", "(I)Z"⟩, 35)]
theorem lw_r2 : ∀ q ∈ lw_privs_2, lw_okq q := List.forall_mem_cons.mpr ⟨lw_p16, List.forall_mem_cons.mpr ⟨lw_p17, List.forall_mem_cons.mpr ⟨lw_p18, List.forall_mem_cons.mpr ⟨lw_p19, List.forall_mem_cons.mpr ⟨lw_p20, List.forall_mem_cons.mpr ⟨lw_p21, List.forall_mem_cons.mpr ⟨lw_p22, List.forall_mem_cons.mpr ⟨lw_p23, List.forall_mem_cons.mpr ⟨lw_p24, List.forall_mem_cons.mpr ⟨lw_p25, List.forall_mem_cons.mpr ⟨lw_p26, List.forall_mem_cons.mpr ⟨lw_p27, List.forall_mem_cons.mpr ⟨lw_p28, List.forall_mem_cons.mpr ⟨lw_p29, List.forall_mem_cons.mpr ⟨lw_p30, List.forall_mem_cons.mpr ⟨lw_p31, fun _ h => absurd h List.not_mem_nil⟩⟩⟩⟩⟩⟩⟩⟩⟩⟩⟩⟩⟩⟩⟩⟩
theorem lw_p32 : lw_okq (⟨"StagecargoModel", "isNoTown", "(I)Z"⟩, 35) := ⟨⟨by decide +kernel, by decide +kernel⟩, List.mem_of_getElem? (i := 763) (by decide +kernel), List.mem_of_getElem? (i := 943) (by decide +kernel), List.mem_of_getElem? (i := 944) (by decide +kernel)⟩
theorem lw_p33 : lw_okq (⟨"StagecargoModel", "load", "(II)I"⟩, 35) := ⟨⟨by decide +kernel, by decide +kernel⟩, List.mem_of_getElem? (i := 763) (by decide +kernel), List.mem_of_getElem? (i := 959) (by decide +kernel), List.mem_of_getElem? (i := 960) (by decide +kernel)⟩
theorem lw_p34 : lw_okq (⟨"StagecargoModel", "may", "(I)I"⟩, 35) := ⟨⟨by decide +kernel, by decide +kernel⟩, List.mem_of_getElem? (i := 763) (by decide +kernel), List.mem_of_getElem? (i := 967) (by decide +kernel), List.mem_of_getElem? (i := 968) (by decide +kernel)⟩
theorem lw_p35 : lw_okq (⟨"StagecargoModel", "borne", "(I)I"⟩, 35) := ⟨⟨by decide +kernel, by decide +kernel⟩, List.mem_of_getElem? (i := 763) (by decide +kernel), List.mem_of_getElem? (i := 975) (by decide +kernel), List.mem_of_getElem? (i := 976) (by decide +kernel)⟩
theorem lw_p36 : lw_okq (⟨"StagecargoModel", "why", "(I)C"⟩, 35) := ⟨⟨by decide +kernel, by decide +kernel⟩, List.mem_of_getElem? (i := 763) (by decide +kernel), List.mem_of_getElem? (i := 983) (by decide +kernel), List.mem_of_getElem? (i := 984) (by decide +kernel)⟩
theorem lw_p37 : lw_okq (⟨"StagecargoModel", "lacks", "(I)Z"⟩, 35) := ⟨⟨by decide +kernel, by decide +kernel⟩, List.mem_of_getElem? (i := 763) (by decide +kernel), List.mem_of_getElem? (i := 987) (by decide +kernel), List.mem_of_getElem? (i := 988) (by decide +kernel)⟩
theorem lw_p38 : lw_okq (⟨"StagecargoModel", "isTooMuch", "(I)Z"⟩, 35) := ⟨⟨by decide +kernel, by decide +kernel⟩, List.mem_of_getElem? (i := 763) (by decide +kernel), List.mem_of_getElem? (i := 991) (by decide +kernel), List.mem_of_getElem? (i := 992) (by decide +kernel)⟩
theorem lw_p39 : lw_okq (⟨"StagecargoModel", "beginNext", "(I)I"⟩, 35) := ⟨⟨by decide +kernel, by decide +kernel⟩, List.mem_of_getElem? (i := 763) (by decide +kernel), List.mem_of_getElem? (i := 995) (by decide +kernel), List.mem_of_getElem? (i := 996) (by decide +kernel)⟩
theorem lw_p40 : lw_okq (⟨"StagecargoModel", "lastEnd", "()I"⟩, 35) := ⟨⟨by decide +kernel, by decide +kernel⟩, List.mem_of_getElem? (i := 763) (by decide +kernel), List.mem_of_getElem? (i := 999) (by decide +kernel), List.mem_of_getElem? (i := 1000) (by decide +kernel)⟩
theorem lw_p41 : lw_okq (⟨"StagecargoModel", "endOf", "(I)I"⟩, 35) := ⟨⟨by decide +kernel, by decide +kernel⟩, List.mem_of_getElem? (i := 763) (by decide +kernel), List.mem_of_getElem? (i := 1003) (by decide +kernel), List.mem_of_getElem? (i := 1004) (by decide +kernel)⟩
theorem lw_p42 : lw_okq (⟨"StagecargoModel", "isAnew", "(I)Z"⟩, 35) := ⟨⟨by decide +kernel, by decide +kernel⟩, List.mem_of_getElem? (i := 763) (by decide +kernel), List.mem_of_getElem? (i := 1007) (by decide +kernel), List.mem_of_getElem? (i := 1008) (by decide +kernel)⟩
theorem lw_p43 : lw_okq (⟨"StagecargoModel", "lastWork", "()I"⟩, 35) := ⟨⟨by decide +kernel, by decide +kernel⟩, List.mem_of_getElem? (i := 763) (by decide +kernel), List.mem_of_getElem? (i := 1011) (by decide +kernel), List.mem_of_getElem? (i := 1012) (by decide +kernel)⟩
theorem lw_p44 : lw_okq (⟨"StagecargoModel", "hangs", "(I)V"⟩, 35) := ⟨⟨by decide +kernel, by decide +kernel⟩, List.mem_of_getElem? (i := 763) (by decide +kernel), List.mem_of_getElem? (i := 1019) (by decide +kernel), List.mem_of_getElem? (i := 1020) (by decide +kernel)⟩
theorem lw_p45 : lw_okq (⟨"StagecargoModel", "tells", "(I)I"⟩, 35) := ⟨⟨by decide +kernel, by decide +kernel⟩, List.mem_of_getElem? (i := 763) (by decide +kernel), List.mem_of_getElem? (i := 1031) (by decide +kernel), List.mem_of_getElem? (i := 1032) (by decide +kernel)⟩
theorem lw_p46 : lw_okq (⟨"StagecargoModel", "told", "()J"⟩, 35) := ⟨⟨by decide +kernel, by decide +kernel⟩, List.mem_of_getElem? (i := 763) (by decide +kernel), List.mem_of_getElem? (i := 1055) (by decide +kernel), List.mem_of_getElem? (i := 1056) (by decide +kernel)⟩
theorem lw_p47 : lw_okq (⟨"StagecargoModel", "costs", "()I"⟩, 35) := ⟨⟨by decide +kernel, by decide +kernel⟩, List.mem_of_getElem? (i := 763) (by decide +kernel), List.mem_of_getElem? (i := 1059) (by decide +kernel), List.mem_of_getElem? (i := 1060) (by decide +kernel)⟩
def lw_privs_3 : List (MethodName × Nat) := [(⟨"StagecargoModel", "isNoTown", "(I)Z"⟩, 35), (⟨"StagecargoModel", "load", "(II)I"⟩, 35), (⟨"StagecargoModel", "may", "(I)I"⟩, 35), (⟨"StagecargoModel", "borne", "(I)I"⟩, 35), (⟨"StagecargoModel", "why", "(I)C"⟩, 35), (⟨"StagecargoModel", "lacks", "(I)Z"⟩, 35), (⟨"StagecargoModel", "isTooMuch", "(I)Z"⟩, 35), (⟨"StagecargoModel", "beginNext", "(I)I"⟩, 35), (⟨"StagecargoModel", "lastEnd", "()I"⟩, 35), (⟨"StagecargoModel", "endOf", "(I)I"⟩, 35), (⟨"StagecargoModel", "isAnew", "(I)Z"⟩, 35), (⟨"StagecargoModel", "lastWork", "()I"⟩, 35), (⟨"StagecargoModel", "hangs", "(I)V"⟩, 35), (⟨"StagecargoModel", "tells", "(I)I"⟩, 35), (⟨"StagecargoModel", "told", "()J"⟩, 35), (⟨"StagecargoModel", "costs", "()I"⟩, 35)]
theorem lw_r3 : ∀ q ∈ lw_privs_3, lw_okq q := List.forall_mem_cons.mpr ⟨lw_p32, List.forall_mem_cons.mpr ⟨lw_p33, List.forall_mem_cons.mpr ⟨lw_p34, List.forall_mem_cons.mpr ⟨lw_p35, List.forall_mem_cons.mpr ⟨lw_p36, List.forall_mem_cons.mpr ⟨lw_p37, List.forall_mem_cons.mpr ⟨lw_p38, List.forall_mem_cons.mpr ⟨lw_p39, List.forall_mem_cons.mpr ⟨lw_p40, List.forall_mem_cons.mpr ⟨lw_p41, List.forall_mem_cons.mpr ⟨lw_p42, List.forall_mem_cons.mpr ⟨lw_p43, List.forall_mem_cons.mpr ⟨lw_p44, List.forall_mem_cons.mpr ⟨lw_p45, List.forall_mem_cons.mpr ⟨lw_p46, List.forall_mem_cons.mpr ⟨lw_p47, fun _ h => absurd h List.not_mem_nil⟩⟩⟩⟩⟩⟩⟩⟩⟩⟩⟩⟩⟩⟩⟩⟩
theorem lw_p48 : lw_okq (⟨"StagecargoModel", "bestOf", "(I)I"⟩, 35) := ⟨⟨by decide +kernel, by decide +kernel⟩, List.mem_of_getElem? (i := 763) (by decide +kernel), List.mem_of_getElem? (i := 1071) (by decide +kernel), List.mem_of_getElem? (i := 1072) (by decide +kernel)⟩
theorem lw_p49 : lw_okq (⟨"StagecargoModel", "searches", "()V"⟩, 35) := ⟨⟨by decide +kernel, by decide +kernel⟩, List.mem_of_getElem? (i := 763) (by decide +kernel), List.mem_of_getElem? (i := 1075) (by decide +kernel), List.mem_of_getElem? (i := 1076) (by decide +kernel)⟩
theorem lw_p50 : lw_okq (⟨"StagecargoModel", "tries", "()V"⟩, 35) := ⟨⟨by decide +kernel, by decide +kernel⟩, List.mem_of_getElem? (i := 763) (by decide +kernel), List.mem_of_getElem? (i := 1079) (by decide +kernel), List.mem_of_getElem? (i := 1080) (by decide +kernel)⟩
theorem lw_p51 : lw_okq (⟨"StagecargoModel", "isBetter", "()Z"⟩, 35) := ⟨⟨by decide +kernel, by decide +kernel⟩, List.mem_of_getElem? (i := 763) (by decide +kernel), List.mem_of_getElem? (i := 1083) (by decide +kernel), List.mem_of_getElem? (i := 1084) (by decide +kernel)⟩
theorem lw_p52 : lw_okq (⟨"StagecargoModel", "worth", "()I"⟩, 35) := ⟨⟨by decide +kernel, by decide +kernel⟩, List.mem_of_getElem? (i := 763) (by decide +kernel), List.mem_of_getElem? (i := 1087) (by decide +kernel), List.mem_of_getElem? (i := 1088) (by decide +kernel)⟩
def lw_privs_4 : List (MethodName × Nat) := [(⟨"StagecargoModel", "bestOf", "(I)I"⟩, 35), (⟨"StagecargoModel", "searches", "()V"⟩, 35), (⟨"StagecargoModel", "tries", "()V"⟩, 35), (⟨"StagecargoModel", "isBetter", "()Z"⟩, 35), (⟨"StagecargoModel", "worth", "()I"⟩, 35)]
theorem lw_r4 : ∀ q ∈ lw_privs_4, lw_okq q := List.forall_mem_cons.mpr ⟨lw_p48, List.forall_mem_cons.mpr ⟨lw_p49, List.forall_mem_cons.mpr ⟨lw_p50, List.forall_mem_cons.mpr ⟨lw_p51, List.forall_mem_cons.mpr ⟨lw_p52, fun _ h => absurd h List.not_mem_nil⟩⟩⟩⟩⟩
def lw_privs : List (MethodName × Nat) := lw_privs_1 ++ (lw_privs_2 ++ (lw_privs_3 ++ (lw_privs_4)))
def lw_tbl : List Cond := k2_sels lw_privs ++ tables_1
theorem lw_privs_ok : ∀ q ∈ lw_privs, lw_okq q := by
  show ∀ q ∈ lw_privs_1 ++ (lw_privs_2 ++ (lw_privs_3 ++ (lw_privs_4))), lw_okq q
  exact List.forall_mem_append.mpr ⟨lw_r1, List.forall_mem_append.mpr ⟨lw_r2, List.forall_mem_append.mpr ⟨lw_r3, lw_r4⟩⟩⟩
/-- the streams that the claim lets the run draw from -/
abbrev lw_cs : List Choice := [Jvm.Choice.named "NaN.bits"]
theorem lw_bits : nanBits ∈ lw_cs := by first | decide | exact List.mem_cons_self | simp [lw_cs, nanBits]
-- ===== end of PART A; then your names; then what follows =====
end
section
/-! ===== BEGIN words of one list among another's, by their places ===== -/
theorem goodIn_r {big : List Cond} (ws : List Cond) (ps : List Nat) (hp : ws = ps.filterMap (fun i => big[i]?)) (h : ws.all goodWord = true) : GoodIn big ws := by
  intro w hw
  have h1 := List.all_eq_true.mp h w hw
  rw [hp] at hw
  obtain ⟨i, -, hi⟩ := List.mem_filterMap.mp hw
  have hm : w ∈ big := by first | exact List.mem_of_getElem? hi | exact List.getElem?_mem hi
  exact ⟨hm, good_of_word h1⟩
theorem goodIn_app {big a b : List Cond} (ha : GoodIn big a) (hb : GoodIn big b) : GoodIn big (a ++ b) := fun w h => (List.mem_append.mp h).elim (ha w) (hb w)
theorem goodIn_ca {big a b : List Cond} {c : Cond} (ha : GoodIn big (c :: a)) (hb : GoodIn big b) : GoodIn big (c :: (a ++ b)) := fun w h => (List.mem_cons.mp h).elim (fun e => ha w (List.mem_cons.mpr (Or.inl e))) (fun h => (List.mem_append.mp h).elim (fun h => ha w (List.mem_cons.mpr (Or.inr h))) (hb w))
theorem goodIn_sub {big ws : List Cond} (hm : ∀ w ∈ ws, w ∈ big) (h : ws.all goodWord = true) : GoodIn big ws := fun w hw => ⟨hm w hw, good_of_word (List.all_eq_true.mp h w hw)⟩
/-! ===== END ===== -/

/-! ===== BEGIN exceptions that leave a method, and their catching by the caller (launches without stack traces) ===== -/
section VXA
/-! The laws vx_back, vx_callV, vx_callS, vx_callSW, vx_throw0, vx_throwS follow proofs of the library, with one case more: JvmDerived/Free/Laws.lean (Back.of_free), Shelf42/LK1.lean (callV, callS), Shelf/KitTraced.lean (throwNew0V, throwNewS). -/
/-- where a method has thrown q: the class by its name, the cell, what was written, the world -/
def vx_T (XC : String → State → State → Prop) (st : State) (q : Addr) (t : State) (mc ms : Nat) (free : Addr → Prop) : Prop :=
  ∃ (E : String) (ce : Cell) (L : List Loc), XC E st t ∧ t.heap[q]? = some ce ∧ ce.vm = .none ∧ st.vm.findClass E = some ce.cls ∧ st.WarmedH t.vm ∧ st.sameButNew ({ t with vm := st.vm } : State) L mc ms ∧ ∀ z ∈ L, free z.base
def vx_Q (Qc : Array Value → State → Outcome → State → Prop) (XC : String → State → State → Prop) (mc ms : Nat) (free : Addr → Prop) : Array Value → State → Outcome → State → Prop := fun a st o t =>
  (Qc a st o t ∧ ∃ L, FrameEnd st o t L mc ms ∧ ∀ q ∈ L, free q.base) ∨ ∃ q, o = .threw q ∧ vx_T XC st q t mc ms free
/-- a callee that returns or throws -/
def vx_Met (l : Launch) (y : MethodName) (ws : List Cond) (rm : Room) (Pc : Array Value → State → Prop) (Qc : Array Value → State → Outcome → State → Prop) (XC : String → State → State → Prop) (mc ms : Nat) (free : Addr → Prop) : Prop :=
  MetFree l y (headSpec ws rm) Pc (fun _ _ _ _ _ => True) (vx_Q Qc XC mc ms free)
def vx_Post (XC : String → State → State → Prop) (mc ms : Nat) (free : Addr → Prop) : Pt → Array Value → Addr → Pt → Prop := fun A a q B =>
  ∃ (g : JFrame) (mk : MethodId) (t : State) (L : List Loc) (E : String) (ce : Cell), B.U.heap = t.heap ∧ B.U.vm = t.vm ∧ XC E (A.U.calling g mk a) t ∧ t.heap[q]? = some ce ∧ ce.vm = .none ∧ A.U.vm.findClass E = some ce.cls ∧ B.locs = A.locs ++ L ∧ (∀ z ∈ L, free z.base) ∧ B.cells = A.cells + mc ∧ B.slots = A.slots + ms
def vx_Back (l : Launch) (R : Room) (p : Program) (e : Env) (below : List Frame) (s : State) (sargs : Array Value) (y : MethodName) (len W9 : Nat)
    (Pre : Pt → Array Value → Prop) (Post : Pt → Array Value → Option Value → Pt → Prop) (PostX : Pt → Array Value → Addr → Pt → Prop) : Prop :=
  ∀ (m : MethodId) (meth : Method) (c : Code) (A : Pt) (g : JFrame) (ig : Instr) (mk : MethodId) (a : Array Value),
    Stand p l e R s m sargs below meth c A.U A.locs A.cells A.slots → g.method = m → g.locals.size = c.maxLocals → decode c.code g.pc = .ok (ig, len) →
    2 * g.monitorRoom + (g.stack.map fun v => v.category).sum ≤ W9 → A.U.methodNamed? y = some mk → Pre A a →
    (∃ (v : Option Value) (B : Pt), Stand p l e R s m sargs below meth c B.U B.locs B.cells B.slots ∧ Post A a v B ∧
      Steps p.tables e below (doInvoke e (A.U.setTop g) [] mk a).1 (B.U.setTop { g with pc := g.pc + len, stack := v.toList ++ g.stack })) ∨
    (∃ (q : Addr) (B : Pt), Stand p l e R s m sargs below meth c B.U B.locs B.cells B.slots ∧ PostX A a q B ∧
      Steps p.tables e below (doInvoke e (A.U.setTop g) [] mk a).1 ((B.U.setTop g).pushFrame (.throwing q)))
section Payer
variable {l : Launch} {R : Room} {p : Program} {e : Env} {below : List Frame} {s : State} {sargs : Array Value} {y : MethodName} {len W9 : Nat}
theorem vx_back {ws : List Cond} {rm : Room} {Pc : Array Value → State → Prop} {Qc : Array Value → State → Outcome → State → Prop} {XC : String → State → State → Prop} {mc ms : Nat} {free : Addr → Prop} {bytes : ByteArray} {maxL : Nat} {ret : Option FieldType}
    (hM : vx_Met l y ws rm Pc Qc XC mc ms free) (hblind : FrameBlind Pc) (hrc : rm.cells = mc) (hrs : rm.slots = ms)
    (hframes : rm.frames + 1 ≤ R.frames) (hlocals : W9 + (maxL + 11) + rm.locals ≤ R.locals)
    (hws : ∀ w ∈ ws, ∀ a' U, s.WarmedH U.vm → w.before a' U = true) (hcode : Cond.code y bytes maxL ret ∈ ws) (hinit : ∀ a' U, s.WarmedH U.vm → (Cond.initialized y.cls).before a' U = true) :
    vx_Back l R p e below s sargs y len W9 (PreOf R mc ms Pc) (PostOf Qc mc ms free) (vx_Post XC mc ms free) := by
  intro m meth c A g ig mk a X hg hsize hdg hW hn hp
  have h1 : (headSpec ws rm).pre.before a A.U = true := atoms_intro fun w hw => hws w hw _ _ X.warmed
  have h2 : (Cond.code y bytes maxL ret).before a A.U = true := hws _ hcode _ _ X.warmed
  have h3 : (Cond.initialized y.cls).before a A.U = true := hinit _ _ X.warmed
  have h4 : A.cells + (headSpec ws rm).room.cells ≤ R.cells := by rw [show (headSpec ws rm).room.cells = mc from hrc]; exact hp.1
  have h5 : A.slots + (headSpec ws rm).room.slots ≤ R.slots := by rw [show (headSpec ws rm).room.slots = ms from hrs]; exact hp.2.1
  have hPc : Pc a (A.U.calling g mk a) := hblind _ _ _ _ hp.2.2
  obtain ⟨U, Ls, c0, s0⟩ := A
  dsimp only [Pt.U, Pt.locs, Pt.cells, Pt.slots] at h1 h2 h3 h4 h5 X hn hPc ⊢
  obtain ⟨methY, cY, hmY, hcY, -, hlY, -, -, -, -⟩ := Cond.code_spec hn h2
  obtain ⟨kY, hkY, -⟩ := className_of_methodNamed hn
  have hinitY : kY.init = .initialized := Cond.initialized_spec (findClass_of_methodNamed hn) hkY h3
  have h : At U g.method c below := by rw [hg]; exact X.here
  have hlocals9 : W9 + (maxL + 11) + (headSpec ws rm).room.locals ≤ R.locals := hlocals
  have happ : (headSpec ws rm).appliesLoose y e.platform (U.calling g mk a) = true :=
    Spec.appliesLoose_calling (g := g) h hdg hn hkY hinitY
      (X.room_calling (g := g) (R' := (headSpec ws rm).room) hsize hmY hcY hframes (by rw [hlY]; omega) h4 h5) h1
  obtain ⟨mid, hmid⟩ := h.above
  have hfr : (U.setTop g).frames = (.java g :: mid) ++ below := by rw [State.frames_setTop' g h.top, hmid]; rfl
  obtain ⟨o, s₂, hsteps, -, hend, hq⟩ := Steps.callFree hM p X.admits X.cas X.clock (acts := []) hfr happ hPc trivial
  have hq' : vx_Q Qc XC mc ms free a (U.calling g mk a) o s₂ := hq
  rw [State.frames_setTop' g h.top] at hend
  obtain ⟨g₀, hg0⟩ := Option.isSome_iff_exists.mp h.top
  obtain ⟨r, hr⟩ := State.topJava?_eq_some.mp hg0
  have hr' : (({ U with heap := s₂.heap, slotsUsed := s₂.slotsUsed } : State).setVm s₂.vm).frames = .java g₀ :: r := hr
  rcases hq' with ⟨hqc, L, hfe, hL⟩ | ⟨q, rfl, E, ce, L, hx, hce, hcv, hcl, hW₂, hsm, hL⟩
  · obtain ⟨⟨v, rfl⟩, hW₂, e2, q2, q3, q4, q5, q6⟩ := id hfe
    have e3 : s₂ = ({ (U.calling g mk a).setFrames s₂.frames with heap := s₂.heap, slotsUsed := s₂.slotsUsed } : State).setVm s₂.vm := by
      have : s₂ = ({ s₂ with vm := (U.calling g mk a).vm } : State).setVm s₂.vm := rfl
      rw [e2] at this
      exact this
    obtain ⟨c₂, i₂, len₂, hc₂, hd₂, hf₂⟩ := hend
    have hW' : U.WarmedH s₂.vm := hW₂
    have hcc : c₂ = c := by
      have h1 : s₂.code? g.method = U.code? g.method := by
        rw [State.code?_eq, State.code?_eq, hW'.alike.method?]
      exact Option.some.inj (hc₂.symm.trans (h1.trans h.code))
    subst hcc
    have hlen : len₂ = len := by rw [hdg] at hd₂; cases hd₂; rfl
    subst hlen
    have hs₂ : s₂ = (({ U with heap := s₂.heap, slotsUsed := s₂.slotsUsed } : State).setVm s₂.vm).setTop { g with pc := g.pc + len₂, stack := v.toList ++ g.stack } := by
      refine e3.trans ?_
      rw [hf₂, State.calling_eq h.top, State.setFrames_setFrames, State.setTop_of_frames _ hr', hr]
      rfl
    have hsame : U.sameButNew ({ U with heap := s₂.heap, slotsUsed := s₂.slotsUsed } : State) L mc ms := by
      refine ⟨?_, q2, q3, q4, q5, q6⟩
      obtain ⟨t, ht, -⟩ := State.frames_cons hr
      show ({ U with heap := s₂.heap, slotsUsed := s₂.slotsUsed } : State) = { U.setFrames U.frames with heap := s₂.heap, slotsUsed := s₂.slotsUsed }
      rw [State.setFrames_self ht]
    subst hg
    refine Or.inl ⟨v, ⟨(({ U with heap := s₂.heap, slotsUsed := s₂.slotsUsed } : State).setVm s₂.vm), Ls ++ L, c0 + mc, s0 + ms⟩,
      ⟨X.admits, X.cas, X.clock, X.frames, X.room, X.hears, X.method, X.code, (X.here.setHeapUsed s₂.heap s₂.slotsUsed).setVm hW'.alike, X.tail, State.WarmedH.trans X.warmed hW', X.limits, X.bytes, X.same.trans (hsame.setVm s.vm)⟩,
      ⟨g, mk, s₂, L, rfl, rfl, hqc, rfl, hL, rfl, rfl⟩, ?_⟩
    show Steps p.tables e below _ ((({ U with heap := s₂.heap, slotsUsed := s₂.slotsUsed } : State).setVm s₂.vm).setTop { g with pc := g.pc + len₂, stack := v.toList ++ g.stack })
    rw [← hs₂]
    exact hsteps
  · obtain ⟨e2, q2, q3, q4, q5, q6⟩ := id hsm
    have e3 : s₂ = ({ (U.calling g mk a).setFrames s₂.frames with heap := s₂.heap, slotsUsed := s₂.slotsUsed } : State).setVm s₂.vm := by
      have : s₂ = ({ s₂ with vm := (U.calling g mk a).vm } : State).setVm s₂.vm := rfl
      rw [e2] at this
      exact this
    have hf₂ : s₂.frames = .throwing q :: .java g :: U.frames.tail := hend
    have hW' : U.WarmedH s₂.vm := hW₂
    have hs₂ : s₂ = ((({ U with heap := s₂.heap, slotsUsed := s₂.slotsUsed } : State).setVm s₂.vm).setTop g).pushFrame (.throwing q) := by
      refine e3.trans ?_
      rw [hf₂, State.calling_eq h.top, State.setFrames_setFrames, State.pushFrame, State.frames_setTop _ hr', State.setTop_of_frames _ hr', State.setFrames_setFrames, hr]
      rfl
    have hsame : U.sameButNew ({ U with heap := s₂.heap, slotsUsed := s₂.slotsUsed } : State) L mc ms := by
      refine ⟨?_, q2, q3, q4, q5, q6⟩
      obtain ⟨t, ht, -⟩ := State.frames_cons hr
      show ({ U with heap := s₂.heap, slotsUsed := s₂.slotsUsed } : State) = { U.setFrames U.frames with heap := s₂.heap, slotsUsed := s₂.slotsUsed }
      rw [State.setFrames_self ht]
    subst hg
    refine Or.inr ⟨q, ⟨(({ U with heap := s₂.heap, slotsUsed := s₂.slotsUsed } : State).setVm s₂.vm), Ls ++ L, c0 + mc, s0 + ms⟩,
      ⟨X.admits, X.cas, X.clock, X.frames, X.room, X.hears, X.method, X.code, (X.here.setHeapUsed s₂.heap s₂.slotsUsed).setVm hW'.alike, X.tail, State.WarmedH.trans X.warmed hW', X.limits, X.bytes, X.same.trans (hsame.setVm s.vm)⟩,
      ⟨g, mk, s₂, L, E, ce, rfl, rfl, hx, hce, hcv, hcl, rfl, hL, rfl, rfl⟩, ?_⟩
    show Steps p.tables e below _ (((({ U with heap := s₂.heap, slotsUsed := s₂.slotsUsed } : State).setVm s₂.vm).setTop g).pushFrame (.throwing q))
    rw [← hs₂]
    exact hsteps
end Payer
section Calls
variable {p : Program} {l : Launch} {e : Env} {R : Room} {s : State} {m : MethodId} {args : Array Value} {below : List Frame} {meth : Method} {c : Code} {T : State} {locs : List Loc} {cells slots : Nat}
theorem vx_callV (X : Stand p l e R s m args below meth c T locs cells slots) (hexec : p.tables.exec = Jvm.exec) {own C : String} {index : Nat} {y : MethodName} {bytes : ByteArray} {maxL : Nat} {ret : Option FieldType}
    (hown : s.vm.findClass own = some m.cls) (hlink : (Cond.methodLink own index y).before args s = true) (hinst : (Cond.instanceMethod y).before args s = true) (hsel : (Cond.selects C y y).before args s = true)
    (hcode : (Cond.code y bytes maxL ret).before args s = true) (hy : y.cls ≠ "java/lang/invoke/MethodHandle" ∧ y.cls ≠ "java/lang/invoke/VarHandle")
    {W9 : Nat} {Pre : Pt → Array Value → Prop} {Post : Pt → Array Value → Option Value → Pt → Prop} {PostX : Pt → Array Value → Addr → Pt → Prop} (hK : vx_Back l R p e below s args y 3 W9 Pre Post PostX)
    {b : Addr} {cellB : Cell} (hcell : T.heap[b]? = some cellB) (hobj : cellB.vm.isStatics = false) (hcls : s.vm.findClass C = some cellB.cls)
    {g : JFrame} (hg : g.method = m) (hsize : g.locals.size = c.maxLocals) {argsL rest : List Value} (hlen : ∀ sig, parseMethodDescriptor y.desc = some sig → argsL.length = sig.parameters.length)
    (hstack : g.stack = argsL.reverse ++ .ref b :: rest) (hW : 2 * g.monitorRoom + (rest.map fun v => v.category).sum ≤ W9) (hdg : decode c.code g.pc = .ok (.invokevirtual index, 3))
    (hpre : ∀ vm₁, s.WarmedH vm₁ → Pre ⟨T.setVm vm₁, locs, cells, slots⟩ (Value.ref b :: argsL).toArray) :
    (∃ (v : Option Value) (vm₁ : Vm) (B : Pt), s.WarmedH vm₁ ∧ Stand p l e R s m args below meth c B.U B.locs B.cells B.slots ∧ Post ⟨T.setVm vm₁, locs, cells, slots⟩ (Value.ref b :: argsL).toArray v B ∧
      ∀ target, Steps p.tables e below (B.U.setTop { g with pc := g.pc + 3, stack := v.toList ++ rest }) target → Steps p.tables e below (T.setTop g) target) ∨
    (∃ (q : Addr) (vm₁ : Vm) (B : Pt), s.WarmedH vm₁ ∧ Stand p l e R s m args below meth c B.U B.locs B.cells B.slots ∧ PostX ⟨T.setVm vm₁, locs, cells, slots⟩ (Value.ref b :: argsL).toArray q B ∧
      Steps p.tables e below (T.setTop g) ((B.U.setTop { g with stack := rest }).pushFrame (.throwing q))) := by
  obtain ⟨mk, methM, hnamed, hmethM, hstM, habM⟩ := Cond.instanceMethod_spec hinst
  obtain ⟨methM', cM, hmethM', -, -, -, -, -, -, hsigM⟩ := Cond.code_spec hnamed hcode
  cases hmethM.symm.trans hmethM'
  obtain ⟨c2, r2, m2, q1, q2, q3, q4, kP, hkP, hkPi⟩ := Cond.selects_spec hsel
  cases hcls.symm.trans q1
  cases (State.methodFound?_of_named hnamed hy).symm.trans q2
  cases hnamed.symm.trans q3
  have hselP : selectMethod e.platform s.vm cellB.cls mk = .method mk := by rw [Launch.admits_selectMethod X.admits]; exact q4
  obtain ⟨vm₁, X₁, hstep₁⟩ := X.invokevirtual hexec hown hlink hnamed hmethM hstM hkP hkPi hy (a := b) (cell := cellB) hcell
    (fun z h => by rw [h] at hobj; cases hobj) hselP hmethM habM hkP hkPi (g := g) hg (argsL := argsL) (rest := rest) (hlen _ hsigM) hstack hdg
  rcases hK m meth c ⟨T.setVm vm₁, locs, cells, slots⟩ { g with stack := rest } (.invokevirtual index) mk (Value.ref b :: argsL).toArray X₁ hg hsize hdg hW (X₁.named hnamed) (hpre vm₁ X₁.warmed) with ⟨v, B, X', hpost, hsteps⟩ | ⟨q, B, X', hpost, hsteps⟩
  · exact Or.inl ⟨v, vm₁, B, X₁.warmed, X', hpost, fun target h => hstep₁ _ fun acts => by rw [doInvoke_state]; exact hsteps.trans h⟩
  · exact Or.inr ⟨q, vm₁, B, X₁.warmed, X', hpost, hstep₁ _ fun acts => by rw [doInvoke_state]; exact hsteps⟩
theorem vx_callS (X : Stand p l e R s m args below meth c T locs cells slots) (hexec : p.tables.exec = Jvm.exec) {own : String} {index : Nat} {y : MethodName} {bytes : ByteArray} {maxL : Nat} {ret : Option FieldType}
    (hown : s.vm.findClass own = some m.cls) (hlink : (Cond.methodLink own index y).before args s = true) (hstat : (Cond.static y).before args s = true) (hinit : (Cond.initialized y.cls).before args s = true)
    (hcode : (Cond.code y bytes maxL ret).before args s = true) (hy : y.cls ≠ "java/lang/invoke/MethodHandle" ∧ y.cls ≠ "java/lang/invoke/VarHandle")
    {W9 : Nat} {Pre : Pt → Array Value → Prop} {Post : Pt → Array Value → Option Value → Pt → Prop} {PostX : Pt → Array Value → Addr → Pt → Prop} (hK : vx_Back l R p e below s args y 3 W9 Pre Post PostX)
    {g : JFrame} (hg : g.method = m) (hsize : g.locals.size = c.maxLocals) {argsL rest : List Value} (hlen : ∀ sig, parseMethodDescriptor y.desc = some sig → argsL.length = sig.parameters.length)
    (hstack : g.stack = argsL.reverse ++ rest) (hW : 2 * g.monitorRoom + (rest.map fun v => v.category).sum ≤ W9) (hdg : decode c.code g.pc = .ok (.invokestatic index, 3))
    (hpre : ∀ vm₁, s.WarmedH vm₁ → Pre ⟨T.setVm vm₁, locs, cells, slots⟩ argsL.toArray) :
    (∃ (v : Option Value) (vm₁ : Vm) (B : Pt), s.WarmedH vm₁ ∧ Stand p l e R s m args below meth c B.U B.locs B.cells B.slots ∧ Post ⟨T.setVm vm₁, locs, cells, slots⟩ argsL.toArray v B ∧
      ∀ target, Steps p.tables e below (B.U.setTop { g with pc := g.pc + 3, stack := v.toList ++ rest }) target → Steps p.tables e below (T.setTop g) target) ∨
    (∃ (q : Addr) (vm₁ : Vm) (B : Pt), s.WarmedH vm₁ ∧ Stand p l e R s m args below meth c B.U B.locs B.cells B.slots ∧ PostX ⟨T.setVm vm₁, locs, cells, slots⟩ argsL.toArray q B ∧
      Steps p.tables e below (T.setTop g) ((B.U.setTop { g with stack := rest }).pushFrame (.throwing q))) := by
  obtain ⟨mk, hnamed⟩ := Cond.code_named hcode
  obtain ⟨methM, cM, hmethM, -, -, -, -, -, -, hsigM⟩ := Cond.code_spec hnamed hcode
  have hstatic : methM.isStatic = true := Cond.static_spec hnamed hmethM hstat
  obtain ⟨kP, hkP, -⟩ := className_of_methodNamed hnamed
  have hinitP : kP.init = .initialized := Cond.initialized_spec (findClass_of_methodNamed hnamed) hkP hinit
  obtain ⟨vm₁, X₁, hstep₁⟩ := X.invokestatic hexec hown hlink hnamed hmethM hstatic hkP hinitP hy (g := g) hg (argsL := argsL) (rest := rest) (hlen _ hsigM) hstack hdg
  rcases hK m meth c ⟨T.setVm vm₁, locs, cells, slots⟩ { g with stack := rest } (.invokestatic index) mk argsL.toArray X₁ hg hsize hdg hW (X₁.named hnamed) (hpre vm₁ X₁.warmed) with ⟨v, B, X', hpost, hsteps⟩ | ⟨q, B, X', hpost, hsteps⟩
  · exact Or.inl ⟨v, vm₁, B, X₁.warmed, X', hpost, fun target h => hstep₁ _ fun acts => by rw [doInvoke_state]; exact hsteps.trans h⟩
  · exact Or.inr ⟨q, vm₁, B, X₁.warmed, X', hpost, hstep₁ _ fun acts => by rw [doInvoke_state]; exact hsteps⟩
end Calls
theorem vx_cls {s : State} {T : State} {vm₁ : Vm} {E : String} {k : ClassId} (hW : s.WarmedH vm₁) (h : (T.setVm vm₁).vm.findClass E = some k) : s.vm.findClass E = some k := by
  have h1 : vm₁.findClass E = some k := h
  rw [hW.alike.findClass] at h1
  exact h1
/-- the method's frame g, with q thrown over it -/
def vx_W (p : Program) (l : Launch) (e : Env) (R : Room) (s : State) (m : MethodId) (args : Array Value) (below : List Frame) (meth : Method) (c : Code) (H : Heap) (locs : List Loc) (cells slots : Nat) (Q : State → Prop) (g : JFrame) (q : Addr) : Prop :=
  ∀ T : State, T.heap = H → Stand p l e R s m args below meth c T locs cells slots → ∃ t, Steps p.tables e below ((T.setTop g).pushFrame (.throwing q)) t ∧ Q t
def vx_Run (p : Program) (l : Launch) (e : Env) (R : Room) (s : State) (m : MethodId) (args : Array Value) (below : List Frame) (meth : Method) (c : Code) (H : Heap) (locs : List Loc) (cells slots mc ms : Nat) (g : JFrame) (rest : List Value) (Qa : State → Outcome → State → Prop) (XC : String → State → State → Prop) (free : Addr → Prop) : Prop :=
  ∀ T : State, T.heap = H → Stand p l e R s m args below meth c T locs cells slots →
    (∃ (v : Option Value) (st₀ t T' : State) (L : List Loc), st₀.heap = H ∧ Stand p l e R s m args below meth c T' (locs ++ L) (cells + mc) (slots + ms) ∧ (∀ q ∈ L, free q.base) ∧ T'.heap = t.heap ∧ T'.vm = t.vm ∧ Qa st₀ (.returned v) t ∧
      Goes p e below T g T' { g with pc := g.pc + 3, stack := v.toList ++ rest }) ∨
    (∃ (q : Addr) (st₀ t T' : State) (L : List Loc) (E : String) (ce : Cell), st₀.heap = H ∧ Stand p l e R s m args below meth c T' (locs ++ L) (cells + mc) (slots + ms) ∧ (∀ z ∈ L, free z.base) ∧ T'.heap = t.heap ∧ T'.vm = t.vm ∧ XC E st₀ t ∧ t.heap[q]? = some ce ∧ ce.vm = .none ∧ s.vm.findClass E = some ce.cls ∧
      Steps p.tables e below (T.setTop g) ((T'.setTop { g with stack := rest }).pushFrame (.throwing q)))
def vx_X {S : Type} (px : S → Prop) (B : String → S → State → Prop) (A : Nat → Prop) : String → State → State → Prop := fun E st t => ∃ u : S, px u ∧ B E u t ∧ va_F A st t
section Runs
variable {p : Program} {l : Launch} {e : Env} {R : Room} {s : State} {m : MethodId} {args : Array Value} {below : List Frame} {meth : Method} {c : Code} {H : Heap} {locs : List Loc} {cells slots : Nat}
variable {y : MethodName} {bytes cc : ByteArray} {maxL nL mc ms n index : Nat} {ret : Option FieldType} {ws : List Cond} {rm : Room} {Pc : Array Value → State → Prop} {Qc : Array Value → State → Outcome → State → Prop} {XC : String → State → State → Prop} {free : Addr → Prop} {Ts : List Cond} {own C : String} {b : Addr} {As rest : List Value} {g : JFrame}
theorem vx_callBack (cb : CallB R s args own index y bytes maxL ret ws rm mc ms n) (hM : vx_Met l y ws rm Pc Qc XC mc ms free) (hbl : FrameBlind Pc) : vx_Back l R p e below s args y 3 8 (PreOf R mc ms Pc) (PostOf Qc mc ms free) (vx_Post XC mc ms free) := by
  obtain ⟨hrc, hrs, hfr, hlo, hws, hcw, -, hini, -⟩ := cb
  exact vx_back (bytes := bytes) (maxL := maxL) (ret := ret) hM hbl hrc hrs hfr hlo hws hcw (fun a' U hW => word_at hW (Or.inl (by first | rfl | simp [Cond.onTables, Cond.keeps, Cond.steady])) hini)
theorem vx_runV (S : CallFix p m c cc nL s args Ts own) (hM : vx_Met l y ws rm Pc Qc XC mc ms free) (cw : CallW R s args own C index y bytes maxL ret ws rm mc ms n) (hp : PreV s H C b Pc As)
    (hg : g.method = m) (hn : As.length = n) (hsize : g.locals.size = nL) (hstack : g.stack = As.reverse ++ .ref b :: rest) (hW : 2 * g.monitorRoom + (rest.map fun v => v.category).sum ≤ 8) (hdg : decode cc g.pc = .ok (.invokevirtual index, 3)) (hf : cells + mc ≤ R.cells ∧ slots + ms ≤ R.slots) :
    vx_Run p l e R s m args below meth c H locs cells slots mc ms g rest (Qc (Value.ref b :: As).toArray) XC free := by
  have hK : vx_Back l R p e below s args y 3 8 (PreOf R mc ms Pc) (PostOf Qc mc ms free) (vx_Post XC mc ms free) := vx_callBack cw.1 hM hp.1
  obtain ⟨⟨-, -, -, -, -, -, hcode, -, hy, hlen, hl⟩, hin, hse⟩ := cw
  obtain ⟨hx, hb, hml, ho, -⟩ := S
  obtain ⟨-, ⟨cellB, hcB, hoB, hclB⟩, hPc⟩ := hp
  intro T hT X
  rcases vx_callV X hx (C := C) (bytes := bytes) (maxL := maxL) (ret := ret) ho hl hin hse hcode hy hK (by rw [hT]; exact hcB) hoB hclB hg (hsize.trans hml.symm) (argsL := As) (rest := rest) (fun sig h => hn.trans (hlen sig h)) hstack hW (by rw [hb]; exact hdg)
    (fun vm₁ hW₁ => ⟨hf.1, hf.2, hPc (T.setVm vm₁) hT hW₁⟩) with ⟨v, vm₁, ⟨U', l2, c2, s2⟩, hW₁, X', ⟨g', mk, t, L, e1, e2, hq, h1, hL, h2, h3⟩, st⟩ | ⟨q, vm₁, ⟨U', l2, c2, s2⟩, hW₁, X', ⟨g', mk, t, L, E, ce, e1, e2, hq, hce, hcv, hcl, h1, hL, h2, h3⟩, st⟩
  · dsimp only [Pt.U, Pt.locs, Pt.cells, Pt.slots] at X' e1 e2 h1 h2 h3 st
    subst h1; subst h2; subst h3
    exact Or.inl ⟨v, (T.setVm vm₁).calling g' mk (Value.ref b :: As).toArray, t, U', L, hT, X', hL, e1, e2, hq, st⟩
  · dsimp only [Pt.U, Pt.locs, Pt.cells, Pt.slots] at X' e1 e2 h1 h2 h3 st hcl
    subst h1; subst h2; subst h3
    exact Or.inr ⟨q, (T.setVm vm₁).calling g' mk (Value.ref b :: As).toArray, t, U', L, E, ce, hT, X', hL, e1, e2, hq, hce, hcv, vx_cls hW₁ hcl, st⟩
theorem vx_runS (S : CallFix p m c cc nL s args Ts own) (hM : vx_Met l y ws rm Pc Qc XC mc ms free) (cw : CallB R s args own index y bytes maxL ret ws rm mc ms n ∧ (Cond.static y).before args s = true) (hp : PreS s H Pc As)
    (hg : g.method = m) (hn : As.length = n) (hsize : g.locals.size = nL) (hstack : g.stack = As.reverse ++ rest) (hW : 2 * g.monitorRoom + (rest.map fun v => v.category).sum ≤ 8) (hdg : decode cc g.pc = .ok (.invokestatic index, 3)) (hf : cells + mc ≤ R.cells ∧ slots + ms ≤ R.slots) :
    vx_Run p l e R s m args below meth c H locs cells slots mc ms g rest (Qc As.toArray) XC free := by
  have hK : vx_Back l R p e below s args y 3 8 (PreOf R mc ms Pc) (PostOf Qc mc ms free) (vx_Post XC mc ms free) := vx_callBack cw.1 hM hp.1
  obtain ⟨⟨-, -, -, -, -, -, hcode, hini, hy, hlen, hl⟩, hstt⟩ := cw
  obtain ⟨hx, hb, hml, ho, -⟩ := S
  intro T hT X
  rcases vx_callS X hx (bytes := bytes) (maxL := maxL) (ret := ret) ho hl hstt hini hcode hy hK hg (hsize.trans hml.symm) (argsL := As) (rest := rest) (fun sig h => hn.trans (hlen sig h)) hstack hW (by rw [hb]; exact hdg)
    (fun vm₁ hW₁ => ⟨hf.1, hf.2, hp.2 (T.setVm vm₁) hT hW₁⟩) with ⟨v, vm₁, ⟨U', l2, c2, s2⟩, hW₁, X', ⟨g', mk, t, L, e1, e2, hq, h1, hL, h2, h3⟩, st⟩ | ⟨q, vm₁, ⟨U', l2, c2, s2⟩, hW₁, X', ⟨g', mk, t, L, E, ce, e1, e2, hq, hce, hcv, hcl, h1, hL, h2, h3⟩, st⟩
  · dsimp only [Pt.U, Pt.locs, Pt.cells, Pt.slots] at X' e1 e2 h1 h2 h3 st
    subst h1; subst h2; subst h3
    exact Or.inl ⟨v, (T.setVm vm₁).calling g' mk As.toArray, t, U', L, hT, X', hL, e1, e2, hq, st⟩
  · dsimp only [Pt.U, Pt.locs, Pt.cells, Pt.slots] at X' e1 e2 h1 h2 h3 st hcl
    subst h1; subst h2; subst h3
    exact Or.inr ⟨q, (T.setVm vm₁).calling g' mk As.toArray, t, U', L, E, ce, hT, X', hL, e1, e2, hq, hce, hcv, vx_cls hW₁ hcl, st⟩
end Runs
section Rows
variable {p : Program} {l : Launch} {e : Env} {R : Room} {s : State} {m : MethodId} {args : Array Value} {below : List Frame} {meth : Method} {c : Code} {H : Heap} {locs : List Loc} {cells slots : Nat} {Q : State → Prop}
variable {mc ms : Nat} {free : Addr → Prop} {A0 A1 : Nat → Prop} {H0 : Heap} {a : Array Value} {pc : Nat} {ls : Array Slot} {st0 rest : List Value}
theorem vx_keep {st₀ t T' : State} {L : List Loc} (h0 : st₀.heap = H) (e1 : T'.heap = t.heap) (hS : va_S A0 H0 H locs) (hA : ∀ q, q < H.size → A1 q → A0 q) (hf : ∀ q, free q → A0 q) (hL : ∀ q ∈ L, free q.base) (hF : va_F A1 st₀ t) :
    H.size ≤ T'.heap.size ∧ (∀ q : Nat, q < H.size → ¬ A1 q → T'.heap[q]? = H[q]?) ∧ va_S A0 H0 T'.heap (locs ++ L) := by
  obtain ⟨hz, hk⟩ := hF
  rw [h0] at hz hk
  exact ⟨by rw [e1]; exact hz, fun q h1 h2 => by rw [e1]; exact hk q h1 h2,
    ⟨Nat.le_trans hS.1 (by rw [e1]; exact hz), fun q h1 h2 => by rw [e1, hk q (Nat.lt_of_lt_of_le h1 hS.1) (fun z => h2 (hA q (Nat.lt_of_lt_of_le h1 hS.1) z))]; exact hS.2.1 q h1 h2, fun q hq => by
      rcases List.mem_append.mp hq with h | h
      · exact hS.2.2 q h
      · exact hf _ (hL q h)⟩⟩
theorem vx_calli {S SX : Type} {post : Int32 → S → Prop} {px : SX → Prop} {B : S → State → Prop} {BX : String → SX → State → Prop} {AX : Nat → Prop} (hr : vx_Run p l e R s m args below meth c H locs cells slots mc ms (F0 m pc ls st0) rest (va_Qi post B A1 a) (vx_X px BX AX) free) (hS : va_S A0 H0 H locs) (hA : ∀ q, q < H.size → A1 q → A0 q) (hf : ∀ q, free q → A0 q) (hAX : ∀ q, q < H.size → AX q → A0 q)
    (kx : ∀ (E : String) (ce : Cell) (q9 : Addr) (u : SX) (t : State) (H1 : Heap) (locs1 : List Loc), t.heap = H1 → s.vm.Alike t.vm → px u → BX E u t → H.size ≤ H1.size → (∀ q : Nat, q < H.size → ¬ AX q → H1[q]? = H[q]?) → va_S A0 H0 H1 locs1 → H1[q9]? = some ce → ce.vm = .none → s.vm.findClass E = some ce.cls → vx_W p l e R s m args below meth c H1 locs1 (cells + mc) (slots + ms) Q (F0 m pc ls rest) q9)
    (kk : ∀ (r : Int32) (u : S) (t : State) (H1 : Heap) (locs1 : List Loc), t.heap = H1 → s.vm.Alike t.vm → post r u → B u t → H.size ≤ H1.size → (∀ q : Nat, q < H.size → ¬ A1 q → H1[q]? = H[q]?) → va_S A0 H0 H1 locs1 → W p l e R s m args below meth c H1 locs1 (cells + mc) (slots + ms) Q (F0 m (pc + 3) ls (.int r :: rest))) : W p l e R s m args below meth c H locs cells slots Q (F0 m pc ls st0) := by
  intro T hT X
  rcases hr T hT X with ⟨v, st₀, t, T', L, h0, X', hL, e1, e2, ⟨⟨r, u, hv, hp, hb⟩, hF⟩, st⟩ | ⟨q, st₀, t, T', L, E, ce, h0, X', hL, e1, e2, ⟨u, hp, hb, hF⟩, hce, hcv, hcl, st⟩
  · cases hv
    obtain ⟨k1, k2, k3⟩ := vx_keep h0 e1 hS hA hf hL hF
    obtain ⟨t2, a1, b1⟩ := kk r u t T'.heap (locs ++ L) e1.symm (by rw [← e2]; exact X'.warmed.alike) hp hb k1 k2 k3 T' rfl X'
    exact ⟨t2, st t2 a1, b1⟩
  · obtain ⟨k1, k2, k3⟩ := vx_keep h0 e1 hS hAX hf hL hF
    obtain ⟨t2, a1, b1⟩ := kx E ce q u t T'.heap (locs ++ L) e1.symm (by rw [← e2]; exact X'.warmed.alike) hp hb k1 k2 k3 (by rw [e1]; exact hce) hcv hcl T' rfl X'
    exact ⟨t2, st.trans a1, b1⟩
theorem vx_calll {S SX : Type} {post : Int64 → S → Prop} {px : SX → Prop} {B : S → State → Prop} {BX : String → SX → State → Prop} {AX : Nat → Prop} (hr : vx_Run p l e R s m args below meth c H locs cells slots mc ms (F0 m pc ls st0) rest (va_Ql post B A1 a) (vx_X px BX AX) free) (hS : va_S A0 H0 H locs) (hA : ∀ q, q < H.size → A1 q → A0 q) (hf : ∀ q, free q → A0 q) (hAX : ∀ q, q < H.size → AX q → A0 q)
    (kx : ∀ (E : String) (ce : Cell) (q9 : Addr) (u : SX) (t : State) (H1 : Heap) (locs1 : List Loc), t.heap = H1 → s.vm.Alike t.vm → px u → BX E u t → H.size ≤ H1.size → (∀ q : Nat, q < H.size → ¬ AX q → H1[q]? = H[q]?) → va_S A0 H0 H1 locs1 → H1[q9]? = some ce → ce.vm = .none → s.vm.findClass E = some ce.cls → vx_W p l e R s m args below meth c H1 locs1 (cells + mc) (slots + ms) Q (F0 m pc ls rest) q9)
    (kk : ∀ (r : Int64) (u : S) (t : State) (H1 : Heap) (locs1 : List Loc), t.heap = H1 → s.vm.Alike t.vm → post r u → B u t → H.size ≤ H1.size → (∀ q : Nat, q < H.size → ¬ A1 q → H1[q]? = H[q]?) → va_S A0 H0 H1 locs1 → W p l e R s m args below meth c H1 locs1 (cells + mc) (slots + ms) Q (F0 m (pc + 3) ls (.long r :: rest))) : W p l e R s m args below meth c H locs cells slots Q (F0 m pc ls st0) := by
  intro T hT X
  rcases hr T hT X with ⟨v, st₀, t, T', L, h0, X', hL, e1, e2, ⟨⟨r, u, hv, hp, hb⟩, hF⟩, st⟩ | ⟨q, st₀, t, T', L, E, ce, h0, X', hL, e1, e2, ⟨u, hp, hb, hF⟩, hce, hcv, hcl, st⟩
  · cases hv
    obtain ⟨k1, k2, k3⟩ := vx_keep h0 e1 hS hA hf hL hF
    obtain ⟨t2, a1, b1⟩ := kk r u t T'.heap (locs ++ L) e1.symm (by rw [← e2]; exact X'.warmed.alike) hp hb k1 k2 k3 T' rfl X'
    exact ⟨t2, st t2 a1, b1⟩
  · obtain ⟨k1, k2, k3⟩ := vx_keep h0 e1 hS hAX hf hL hF
    obtain ⟨t2, a1, b1⟩ := kx E ce q u t T'.heap (locs ++ L) e1.symm (by rw [← e2]; exact X'.warmed.alike) hp hb k1 k2 k3 (by rw [e1]; exact hce) hcv hcl T' rfl X'
    exact ⟨t2, st.trans a1, b1⟩
theorem vx_callf {S SX : Type} {post : UInt32 → S → Prop} {px : SX → Prop} {B : S → State → Prop} {BX : String → SX → State → Prop} {AX : Nat → Prop} (hr : vx_Run p l e R s m args below meth c H locs cells slots mc ms (F0 m pc ls st0) rest (va_Qf post B A1 a) (vx_X px BX AX) free) (hS : va_S A0 H0 H locs) (hA : ∀ q, q < H.size → A1 q → A0 q) (hf : ∀ q, free q → A0 q) (hAX : ∀ q, q < H.size → AX q → A0 q)
    (kx : ∀ (E : String) (ce : Cell) (q9 : Addr) (u : SX) (t : State) (H1 : Heap) (locs1 : List Loc), t.heap = H1 → s.vm.Alike t.vm → px u → BX E u t → H.size ≤ H1.size → (∀ q : Nat, q < H.size → ¬ AX q → H1[q]? = H[q]?) → va_S A0 H0 H1 locs1 → H1[q9]? = some ce → ce.vm = .none → s.vm.findClass E = some ce.cls → vx_W p l e R s m args below meth c H1 locs1 (cells + mc) (slots + ms) Q (F0 m pc ls rest) q9)
    (kk : ∀ (r : UInt32) (u : S) (t : State) (H1 : Heap) (locs1 : List Loc), t.heap = H1 → s.vm.Alike t.vm → post r u → B u t → H.size ≤ H1.size → (∀ q : Nat, q < H.size → ¬ A1 q → H1[q]? = H[q]?) → va_S A0 H0 H1 locs1 → W p l e R s m args below meth c H1 locs1 (cells + mc) (slots + ms) Q (F0 m (pc + 3) ls (.float r :: rest))) : W p l e R s m args below meth c H locs cells slots Q (F0 m pc ls st0) := by
  intro T hT X
  rcases hr T hT X with ⟨v, st₀, t, T', L, h0, X', hL, e1, e2, ⟨⟨r, u, hv, hp, hb⟩, hF⟩, st⟩ | ⟨q, st₀, t, T', L, E, ce, h0, X', hL, e1, e2, ⟨u, hp, hb, hF⟩, hce, hcv, hcl, st⟩
  · cases hv
    obtain ⟨k1, k2, k3⟩ := vx_keep h0 e1 hS hA hf hL hF
    obtain ⟨t2, a1, b1⟩ := kk r u t T'.heap (locs ++ L) e1.symm (by rw [← e2]; exact X'.warmed.alike) hp hb k1 k2 k3 T' rfl X'
    exact ⟨t2, st t2 a1, b1⟩
  · obtain ⟨k1, k2, k3⟩ := vx_keep h0 e1 hS hAX hf hL hF
    obtain ⟨t2, a1, b1⟩ := kx E ce q u t T'.heap (locs ++ L) e1.symm (by rw [← e2]; exact X'.warmed.alike) hp hb k1 k2 k3 (by rw [e1]; exact hce) hcv hcl T' rfl X'
    exact ⟨t2, st.trans a1, b1⟩
theorem vx_calld {S SX : Type} {post : UInt64 → S → Prop} {px : SX → Prop} {B : S → State → Prop} {BX : String → SX → State → Prop} {AX : Nat → Prop} (hr : vx_Run p l e R s m args below meth c H locs cells slots mc ms (F0 m pc ls st0) rest (va_Qd post B A1 a) (vx_X px BX AX) free) (hS : va_S A0 H0 H locs) (hA : ∀ q, q < H.size → A1 q → A0 q) (hf : ∀ q, free q → A0 q) (hAX : ∀ q, q < H.size → AX q → A0 q)
    (kx : ∀ (E : String) (ce : Cell) (q9 : Addr) (u : SX) (t : State) (H1 : Heap) (locs1 : List Loc), t.heap = H1 → s.vm.Alike t.vm → px u → BX E u t → H.size ≤ H1.size → (∀ q : Nat, q < H.size → ¬ AX q → H1[q]? = H[q]?) → va_S A0 H0 H1 locs1 → H1[q9]? = some ce → ce.vm = .none → s.vm.findClass E = some ce.cls → vx_W p l e R s m args below meth c H1 locs1 (cells + mc) (slots + ms) Q (F0 m pc ls rest) q9)
    (kk : ∀ (r : UInt64) (u : S) (t : State) (H1 : Heap) (locs1 : List Loc), t.heap = H1 → s.vm.Alike t.vm → post r u → B u t → H.size ≤ H1.size → (∀ q : Nat, q < H.size → ¬ A1 q → H1[q]? = H[q]?) → va_S A0 H0 H1 locs1 → W p l e R s m args below meth c H1 locs1 (cells + mc) (slots + ms) Q (F0 m (pc + 3) ls (.double r :: rest))) : W p l e R s m args below meth c H locs cells slots Q (F0 m pc ls st0) := by
  intro T hT X
  rcases hr T hT X with ⟨v, st₀, t, T', L, h0, X', hL, e1, e2, ⟨⟨r, u, hv, hp, hb⟩, hF⟩, st⟩ | ⟨q, st₀, t, T', L, E, ce, h0, X', hL, e1, e2, ⟨u, hp, hb, hF⟩, hce, hcv, hcl, st⟩
  · cases hv
    obtain ⟨k1, k2, k3⟩ := vx_keep h0 e1 hS hA hf hL hF
    obtain ⟨t2, a1, b1⟩ := kk r u t T'.heap (locs ++ L) e1.symm (by rw [← e2]; exact X'.warmed.alike) hp hb k1 k2 k3 T' rfl X'
    exact ⟨t2, st t2 a1, b1⟩
  · obtain ⟨k1, k2, k3⟩ := vx_keep h0 e1 hS hAX hf hL hF
    obtain ⟨t2, a1, b1⟩ := kx E ce q u t T'.heap (locs ++ L) e1.symm (by rw [← e2]; exact X'.warmed.alike) hp hb k1 k2 k3 (by rw [e1]; exact hce) hcv hcl T' rfl X'
    exact ⟨t2, st.trans a1, b1⟩
theorem vx_callv {S SX : Type} {post : S → Prop} {px : SX → Prop} {B : S → State → Prop} {BX : String → SX → State → Prop} {AX : Nat → Prop} (hr : vx_Run p l e R s m args below meth c H locs cells slots mc ms (F0 m pc ls st0) rest (va_Qv post B A1 a) (vx_X px BX AX) free) (hS : va_S A0 H0 H locs) (hA : ∀ q, q < H.size → A1 q → A0 q) (hf : ∀ q, free q → A0 q) (hAX : ∀ q, q < H.size → AX q → A0 q)
    (kx : ∀ (E : String) (ce : Cell) (q9 : Addr) (u : SX) (t : State) (H1 : Heap) (locs1 : List Loc), t.heap = H1 → s.vm.Alike t.vm → px u → BX E u t → H.size ≤ H1.size → (∀ q : Nat, q < H.size → ¬ AX q → H1[q]? = H[q]?) → va_S A0 H0 H1 locs1 → H1[q9]? = some ce → ce.vm = .none → s.vm.findClass E = some ce.cls → vx_W p l e R s m args below meth c H1 locs1 (cells + mc) (slots + ms) Q (F0 m pc ls rest) q9)
    (kk : ∀ (u : S) (t : State) (H1 : Heap) (locs1 : List Loc), t.heap = H1 → s.vm.Alike t.vm → post u → B u t → H.size ≤ H1.size → (∀ q : Nat, q < H.size → ¬ A1 q → H1[q]? = H[q]?) → va_S A0 H0 H1 locs1 → W p l e R s m args below meth c H1 locs1 (cells + mc) (slots + ms) Q (F0 m (pc + 3) ls (rest))) : W p l e R s m args below meth c H locs cells slots Q (F0 m pc ls st0) := by
  intro T hT X
  rcases hr T hT X with ⟨v, st₀, t, T', L, h0, X', hL, e1, e2, ⟨⟨u, hv, hp, hb⟩, hF⟩, st⟩ | ⟨q, st₀, t, T', L, E, ce, h0, X', hL, e1, e2, ⟨u, hp, hb, hF⟩, hce, hcv, hcl, st⟩
  · cases hv
    obtain ⟨k1, k2, k3⟩ := vx_keep h0 e1 hS hA hf hL hF
    obtain ⟨t2, a1, b1⟩ := kk u t T'.heap (locs ++ L) e1.symm (by rw [← e2]; exact X'.warmed.alike) hp hb k1 k2 k3 T' rfl X'
    exact ⟨t2, st t2 a1, b1⟩
  · obtain ⟨k1, k2, k3⟩ := vx_keep h0 e1 hS hAX hf hL hF
    obtain ⟨t2, a1, b1⟩ := kx E ce q u t T'.heap (locs ++ L) e1.symm (by rw [← e2]; exact X'.warmed.alike) hp hb k1 k2 k3 (by rw [e1]; exact hce) hcv hcl T' rfl X'
    exact ⟨t2, st.trans a1, b1⟩
/-- caught by the row x of this method's table; the rows ahead don't take it -/
theorem vx_catch {own name : String} {E : String} {ce : Cell} {q : Addr} (hown : s.vm.findClass own = some m.cls) (pre : List ExceptionTableEntry) (x : ExceptionTableEntry) (suf : List ExceptionTableEntry) (hsplit : c.exceptionTable.toList = pre ++ x :: suf)
    (hpass : ∀ z ∈ pre, covers z pc = false ∨ (z.catchType ≠ 0 ∧ ∃ nm : String, (Cond.classLink own z.catchType nm).before args s = true ∧ va_Nc E nm s)) (hx : covers x pc = true) (h0 : x.catchType ≠ 0)
    (hlink : (Cond.classLink own x.catchType name).before args s = true) (hcast : (Cond.castable E name).before args s = true) (hcell : H[q]? = some ce) (hv : ce.vm = .none) (hcl : s.vm.findClass E = some ce.cls)
    (kk : W p l e R s m args below meth c H locs cells slots Q (F0 m x.handlerPc ls [.ref q])) : vx_W p l e R s m args below meth c H locs cells slots Q (F0 m pc ls rest) q := by
  intro T hT X
  have hpl : e.platform.magicAccessors = ({} : Platform).magicAccessors := by rw [X.admits.platform]
  obtain ⟨c3, c4, hc3, hc4, hasg⟩ := Cond.castable_spec hcast
  cases Option.some.inj (hc3.symm.trans hcl)
  obtain ⟨c5, hc5, hcl5⟩ := Cond.classLink_spec hown hlink e.platform hpl
  cases Option.some.inj (hc4.symm.trans hc5)
  obtain ⟨vm', X', st⟩ := X.thenCaughtThrough q (g := F0 m pc ls rest) rfl (Steps.refl _) (by rw [hT]; exact hcell) (by rw [hv]; rfl) (by obtain ⟨k9, h9, -⟩ := Vm.findClass_spec hcl; exact ⟨k9, h9⟩) pre x suf hsplit
    (fun z hz => by
      rcases hpass z hz with h | ⟨hz0, nm, hl1, hn1⟩
      · exact Or.inl h
      · obtain ⟨c6, hc6, hcl6⟩ := Cond.classLink_spec hown hl1 e.platform hpl
        obtain ⟨a8, b8, h1, h2, h3⟩ := hn1
        cases Option.some.inj (h1.symm.trans hcl)
        cases Option.some.inj (h2.symm.trans hc6)
        exact Or.inr ⟨hz0, _, hcl6, h3⟩) hx (Or.inr ⟨h0, c4, hcl5, hasg⟩)
  obtain ⟨t, a1, b1⟩ := kk (T.setVm vm') hT X'
  exact ⟨t, st.trans a1, b1⟩
end Rows
section Ends
variable {p : Program} {l : Launch} {e : Env} {R : Room} {s : State} {m : MethodId} {args : Array Value} {below : List Frame} {meth : Method} {c : Code} {H : Heap} {locs : List Loc} {cells slots : Nat} {Q : State → Prop}
variable {mc ms : Nat} {free : Addr → Prop} {A0 A1 : Nat → Prop} {H0 : Heap} {a : Array Value} {ls : Array Slot} {st0 rest : List Value}
variable {Qc : Array Value → State → Outcome → State → Prop} {XC : String → State → State → Prop}
/-- what a body that may throw owes at its end -/
def vx_MQ (below : List Frame) (Qc : Array Value → State → Outcome → State → Prop) (XC : String → State → State → Prop) (a : Array Value) (s : State) (mc ms : Nat) (free : Addr → Prop) : State → Prop := fun t =>
  ∃ o, t.status = .running ∧ Ended t below o ∧ vx_Q Qc XC mc ms free a s o t
theorem vx_ret {g : JFrame} {mc ms : Nat} (k : W p l e R s m args below meth c H locs cells slots (MQ below Qc args s mc ms free) g) : W p l e R s m args below meth c H locs cells slots (vx_MQ below Qc XC args s mc ms free) g := by
  intro T hT X
  obtain ⟨t, a1, o, b1, b2, b3, b4⟩ := k T hT X
  exact ⟨t, a1, o, b1, b2, Or.inl ⟨b3, b4⟩⟩
/-- not caught here: it goes on to the caller -/
theorem vx_widen {g : JFrame} {q : Addr} {k n : Nat} (h1 : cells ≤ k) (h2 : slots ≤ n) (kk : vx_W p l e R s m args below meth c H locs k n Q g q) : vx_W p l e R s m args below meth c H locs cells slots Q g q := fun T hT X => kk T hT (stand_widen X h1 h2)
theorem vx_out {pc : Nat} {E : String} {ce : Cell} {q : Addr} {mc ms : Nat} (hout : ∀ x ∈ c.exceptionTable.toList, covers x pc = false) (hlocks : meth.locks = false) (hcell : H[q]? = some ce) (hv : ce.vm = .none) (hcl : s.vm.findClass E = some ce.cls)
    (hx : ∀ t : State, t.heap = H → s.vm.Alike t.vm → XC E s t) (hf : ∀ z ∈ locs, free z.base) (hc : cells ≤ mc) (hs : slots ≤ ms) :
    vx_W p l e R s m args below meth c H locs cells slots (vx_MQ below Qc XC args s mc ms free) (F0 m pc ls rest) q := by
  intro T hT X
  obtain ⟨st1, hrun, hend, hW, hsm⟩ := X.leaveThrown q (g := F0 m pc ls rest) rfl rfl rfl hout hlocks
  have hcell9 : (T.setFrames (.throwing q :: below)).heap[q]? = some ce := by
    show T.heap[q]? = some ce
    rw [hT]; exact hcell
  exact ⟨_, st1, .threw q, hrun, hend, Or.inr ⟨q, rfl, E, ce, locs, hx _ hT hW.alike, hcell9, hv, hcl, hW, hsm.mono hc hs, hf⟩⟩
theorem vx_frame {U : State} {k n : Nat} (h : s.sameButNew ({ U with vm := s.vm } : State) locs k n) : s.heap.size ≤ U.heap.size ∧ ∀ q : Nat, q < s.heap.size → (∀ z ∈ locs, z.base ≠ q) → U.heap[q]? = s.heap[q]? := by
  obtain ⟨-, h2, -, -, -, h6⟩ := h
  refine ⟨h2, fun q hq hz => ?_⟩
  obtain ⟨c9, e1, e2, e3, e4⟩ := h6 q _ (Array.getElem?_eq_getElem hq)
  have hs : c9.slots = (s.heap[q]).slots := Array.ext_getElem? fun i => e4 i fun hm => hz _ hm rfl
  have h9 : c9 = s.heap[q] := by
    rw [hs] at e2
    exact e2
  have e5 : U.heap[q]? = some c9 := e1
  rw [e5, h9, Array.getElem?_eq_getElem hq]
/-- the words of a throw but the four that speak of the heap -/
def vx_no (w : Cond) : Bool := decide (w ≠ .isRef (.static Bundle.tN "UNASSIGNED_STACK" Bundle.steD)) && decide (w ≠ .isRef (.static Bundle.tN "SUPPRESSED_SENTINEL" Bundle.listD)) && decide (w ≠ .laysStatic Bundle.tN "UNASSIGNED_STACK" Bundle.steD) && decide (w ≠ .laysStatic Bundle.tN "SUPPRESSED_SENTINEL" Bundle.listD)
def vx_at0 (own : String) (ic : Nat) (X : String) (names : List String) : List Cond := (Bundle.ownAtoms0 own ic X names).filter vx_no
def vx_atS (own : String) (ic : Nat) (X : String) (names : List String) : List Cond := (Bundle.ownAtoms own ic X names).filter vx_no
/-- a word that the tables alone decide, or a good one -/
def vx_ot (w : Cond) : Bool := w.onTables || goodWord w
theorem vx_ot_at {args a' : Array Value} {s U : State} {w : Cond} (hW : s.WarmedH U.vm) (hvm : s.vm = U.vm) (hg : vx_ot w = true) (h : w.before args s = true) : w.before a' U = true := by
  simp only [vx_ot, Bool.or_eq_true] at hg
  rcases hg with hg | hg
  · exact va_tabs hg hvm h
  · exact word_at hW (good_of_word hg) h
/-- a list's words: the good ones out of the method's own list, the others by premises of their own -/
theorem vx_hat {args : Array Value} {s : State} {L B : List Cond} (h1 : ∀ w ∈ L.filter goodWord, w.before args s = true) (h2 : ∀ w ∈ L.filter (fun w => !goodWord w), w ∈ B) (h3 : ∀ w ∈ B, w.before args s = true) : ∀ w ∈ L, w.before args s = true := by
  intro w hw
  by_cases g : goodWord w = true
  · exact h1 w (List.mem_filter.mpr ⟨hw, g⟩)
  · refine h3 w (h2 w (List.mem_filter.mpr ⟨hw, ?_⟩))
    show (!goodWord w) = true
    cases hgw : goodWord w
    · rfl
    · exact absurd hgw g
theorem vx_c {args : Array Value} {s : State} {w : Cond} {B : List Cond} (h : w.before args s = true) (t : ∀ w ∈ B, w.before args s = true) : ∀ w' ∈ w :: B, w'.before args s = true := fun w' h' => (List.mem_cons.mp h').elim (fun e => by rw [e]; exact h) (t w')
theorem vx_n {args : Array Value} {s : State} : ∀ w ∈ ([] : List Cond), w.before args s = true := fun _ h => nomatch h
theorem vx_own {args : Array Value} {s : State} {L : List Cond} (h1 : ∀ w ∈ L.filter vx_no, w.before args s = true)
    (hU : (Cond.isRef (.static Bundle.tN "UNASSIGNED_STACK" Bundle.steD)).before args s = true) (hN : (Cond.isRef (.static Bundle.tN "SUPPRESSED_SENTINEL" Bundle.listD)).before args s = true)
    (lU : (Cond.laysStatic Bundle.tN "UNASSIGNED_STACK" Bundle.steD).before args s = true) (lN : (Cond.laysStatic Bundle.tN "SUPPRESSED_SENTINEL" Bundle.listD).before args s = true) : ∀ w ∈ L, w.before args s = true := by
  intro w hw
  by_cases e1 : w = .isRef (.static Bundle.tN "UNASSIGNED_STACK" Bundle.steD)
  · rw [e1]; exact hU
  · by_cases e2 : w = .isRef (.static Bundle.tN "SUPPRESSED_SENTINEL" Bundle.listD)
    · rw [e2]; exact hN
    · by_cases e3 : w = .laysStatic Bundle.tN "UNASSIGNED_STACK" Bundle.steD
      · rw [e3]; exact lU
      · by_cases e4 : w = .laysStatic Bundle.tN "SUPPRESSED_SENTINEL" Bundle.listD
        · rw [e4]; exact lN
        · exact h1 w (List.mem_filter.mpr ⟨hw, by unfold vx_no; rw [decide_eq_true e1, decide_eq_true e2, decide_eq_true e3, decide_eq_true e4]; rfl⟩)
/-- where a static field lies, its class's statics cell in H -/
def vx_L (C n d : String) (A : Nat → Prop) (U : State) (H : Heap) : Prop := ∃ (c : ClassId) (k : Class) (i : Nat) (f : Field) (a : Nat) (cell : Cell), U.vm.findClass C = some c ∧ U.fieldFound? C n d = some (c, k, i, f) ∧ f.isStatic = true ∧ k.statics = some a ∧ H[a]? = some cell ∧ cell.vm.isStatics = true ∧ cell.cls = c ∧ f.slot < cell.slots.size ∧ k.staticTypes[f.slot]? = some f.type ∧ ¬ A a
theorem vx_L.moved {C n d : String} {A : Nat → Prop} {u U : State} {H : Heap} (hvm : u.vm.Alike U.vm) (h : vx_L C n d A u H) : vx_L C n d A U H := by
  obtain ⟨c, k, i, f, a, cell, h1, h2, h3, h4, h5, h6, h7, h8, h9, h10⟩ := h
  obtain ⟨k', hi', he⟩ := State.fieldFound?_setVm hvm h2
  exact ⟨c, k', i, f, a, cell, by rw [hvm.findClass]; exact h1, hi', h3, by rw [he]; exact h4, h5, h6, h7, h8, by rw [he]; exact h9, h10⟩
theorem vx_L.kept {C n d : String} {A : Nat → Prop} {U : State} {H H1 : Heap} (h : vx_L C n d A U H) (hq : ∀ a : Nat, a < H.size → ¬ A a → H1[a]? = H[a]?) : vx_L C n d A U H1 := by
  obtain ⟨c, k, i, f, a, cell, h1, h2, h3, h4, h5, h6, h7, h8, h9, h10⟩ := h
  exact ⟨c, k, i, f, a, cell, h1, h2, h3, h4, by rw [hq a (Array.getElem?_eq_some_iff.mp h5).1 h10]; exact h5, h6, h7, h8, h9, h10⟩
theorem vx_L.narrow {C n d : String} {A B : Nat → Prop} {U : State} {H : Heap} (h : vx_L C n d A U H) (hAB : ∀ q, B q → A q) : vx_L C n d B U H := by
  obtain ⟨c, k, i, f, a, cell, h1, h2, h3, h4, h5, h6, h7, h8, h9, h10⟩ := h
  exact ⟨c, k, i, f, a, cell, h1, h2, h3, h4, h5, h6, h7, h8, h9, fun z => h10 (hAB _ z)⟩
theorem vx_L.word {C n d : String} {A : Nat → Prop} {s : State} {args : Array Value} (h : vx_L C n d A s s.heap) : (Cond.laysStatic C n d).before args s = true := by
  obtain ⟨c, k, i, f, a, cell, h1, h2, h3, h4, h5, h6, h7, h8, h9, -⟩ := h
  show (Cond.laysStatic C n d).holds args s none s [] = true
  exact Cond.laysStatic_of h1 h2 h3 h4 h5 h6 h7 h8 h9
/-- .. and what it holds: null or some reference -/
def vx_Zq (C n d : String) (A : Nat → Prop) (U : State) (H : Heap) : Prop := va_Zq C n d A U H ∧ vx_L C n d A U H
theorem vx_Zq.moved {C n d : String} {A : Nat → Prop} {u U : State} {H : Heap} (hvm : u.vm.Alike U.vm) (h : vx_Zq C n d A u H) : vx_Zq C n d A U H := ⟨va_Zq.moved hvm h.1, vx_L.moved hvm h.2⟩
theorem vx_Zq.kept {C n d : String} {A : Nat → Prop} {U : State} {H H1 : Heap} (h : vx_Zq C n d A U H) (hq : ∀ a : Nat, a < H.size → ¬ A a → H1[a]? = H[a]?) : vx_Zq C n d A U H1 := ⟨va_Zq.kept h.1 hq, vx_L.kept h.2 hq⟩
theorem vx_Zq.narrow {C n d : String} {A B : Nat → Prop} {U : State} {H : Heap} (h : vx_Zq C n d A U H) (hAB : ∀ q, B q → A q) : vx_Zq C n d B U H := ⟨va_Zq.narrow h.1 hAB, vx_L.narrow h.2 hAB⟩
theorem vx_Zqof {args : Array Value} {s : State} {C n d : String} {A : Nat → Prop} (hl : (Cond.laysStatic C n d).before args s = true) (hini : (Cond.initialized C).before args s = true) (h : (Cond.isRef (.static C n d)).before args s = true) (hA : ∀ a : Nat, a < s.heap.size → ¬ A a) : vx_Zq C n d A s s.heap := by
  refine ⟨va_Zqof hl hini h hA, ?_⟩
  obtain ⟨c, k, i, f, a, cell, h1, h2, h3, h4, h5, h6, h7, h8, h9⟩ := Cond.laysStatic_spec hl
  exact ⟨c, k, i, f, a, cell, h1, h2, h3, h4, h5, h6, h7, h8, h9, hA a (Array.getElem?_eq_some_iff.mp h5).1⟩
theorem vx_isRef {C n d : String} {v : Value} {A : Nat → Prop} {s : State} {args : Array Value} (h : va_Z C n d v A s s.heap) (hv : v.isRef = true) : (Cond.isRef (.static C n d)).before args s = true := by
  obtain ⟨cf, kf, fi, f, a, cell, h1, h2, h3, h4, h5, h6, h7, -⟩ := h
  have he : (Term.static C n d).eval args s none [] s = some v := by
    simp [Term.eval, State.fieldNamed?, h1, h2, h4, h5, h6, h7]
  simp only [Cond.before, Cond.holds, Cond.value, he]
  cases v <;> simp_all [Value.isRef]
theorem vx_isRefq {C n d : String} {A : Nat → Prop} {s : State} {args : Array Value} (h : va_Zq C n d A s s.heap) : (Cond.isRef (.static C n d)).before args s = true := by
  rcases h with h | ⟨t, h⟩
  · exact vx_isRef h rfl
  · exact vx_isRef h rfl
/-- the same frame, seen from here: as if the method were called anew in this heap -/
theorem vx_rebase {T : State} (X : Stand p l e R s m args below meth c T locs cells slots) {R' : Room} (hf : R'.frames ≤ R.frames) (hl : R'.locals ≤ R.locals) (hc : cells + R'.cells ≤ R.cells) (hs : slots + R'.slots ≤ R.slots) :
    Stand p l e R' ((T.setVm s.vm).setFrames (.invoking m args :: below)) m args below meth c T [] 0 0 := by
  have htop : (T.setVm s.vm).topJava?.isSome := X.here.top
  have hF : ((T.setVm s.vm).setFrames (.invoking m args :: below)).frames = .invoking m args :: below := State.frames_setFrames _ (State.cur_lt_of_top htop)
  obtain ⟨g₀, hg0⟩ := Option.isSome_iff_exists.mp htop
  obtain ⟨r, hr⟩ := State.topJava?_eq_some.mp hg0
  have hl9 : e.platform.stackLimits (T.setVm s.vm).me = e.platform.stackLimits s.me := X.limits
  have hb9 : (T.setVm s.vm).me.stackBytes = s.me.stackBytes := X.bytes
  refine ⟨X.admits, X.cas, X.clock, hF, ?_, X.hears, X.method, X.code, X.here, X.tail, X.warmed, ?_, ?_, ?_⟩
  · have h := X.room
    have hU : ((T.setVm s.vm).setFrames (.invoking m args :: below)).localsInUse = s.localsInUse := by
      rw [State.localsInUse_invoking hF (meth := meth) (c := c) X.method X.code, State.localsInUse_invoking X.frames X.method X.code]
    simp only [State.hasRoom, Bool.and_eq_true, decide_eq_true_eq] at h ⊢
    obtain ⟨⟨⟨⟨h1, h2, h3, h4, h5, h6⟩, h7⟩, h8⟩, h9⟩ := h
    rw [X.frames, List.length_cons] at h2 h3
    have q1 := X.heapSize
    have q2 := X.used
    simp only [hF, hU, List.length_cons, State.stackLimits_setFrames, State.stackBytes_setFrames, hl9, hb9]
    refine ⟨⟨⟨⟨by omega, by omega, by omega, by omega, by omega, h6⟩, ?_⟩, ?_⟩, X.book⟩
    · show T.heap.size + R'.cells ≤ e.platform.maxCells
      omega
    · show T.slotsUsed + R'.slots ≤ e.platform.maxSlots
      omega
  · rw [State.stackLimits_setFrames]; rfl
  · rw [State.stackBytes_setFrames]; rfl
  · refine ⟨?_, Nat.le_refl _, Nat.le_refl _, ?_, ?_, fun a c9 h9 => ⟨c9, h9, rfl, rfl, fun _ _ => rfl⟩⟩
    · obtain ⟨t, ht, -⟩ := State.frames_cons hr
      show T.setVm s.vm = { ((T.setVm s.vm).setFrames (.invoking m args :: below)).setFrames (T.setVm s.vm).frames with heap := T.heap, slotsUsed := T.slotsUsed }
      rw [State.setFrames_setFrames, State.setFrames_self ht]
      rfl
    · show T.slotsUsed = T.slotsUsed + ((T.heap.toList.drop T.heap.size).map (·.slots.size)).sum
      rw [List.drop_eq_nil_of_le (Nat.le_of_eq Array.length_toList)]
      rfl
    · show ((T.heap.toList.drop T.heap.size).map (·.slots.size)).sum ≤ 0
      rw [List.drop_eq_nil_of_le (Nat.le_of_eq Array.length_toList)]
      exact Nat.le_refl _
/-- 'throw new E()': new; dup; invokespecial; athrow -/
theorem vx_throw0 {cc : ByteArray} {pc : Nat} (hexec : p.tables.exec = Jvm.exec) (hb : c.code = cc) (hl : l.stackTraces = false) {own cls : String} {names : List String} {ik ic mc ms : Nat} {A : Nat → Prop}
    (hown : s.vm.findClass own = some m.cls) (hcls : Bundle.fit cls = true) (hnames : ∀ n ∈ names, Bundle.fit n = true)
    (hk : (Cond.classLink own ik cls).before args s = true) (hini : (Cond.initialized cls).before args s = true) (hat : ∀ w ∈ vx_at0 own ic cls names, w.before args s = true)
    (hgood : ∀ w ∈ Cond.classLink own ik cls :: Cond.initialized cls :: vx_at0 own ic cls names, vx_ot w = true)
    (hU : vx_Zq Bundle.tN "UNASSIGNED_STACK" Bundle.steD A s s.heap) (hN : vx_Zq Bundle.tN "SUPPRESSED_SENTINEL" Bundle.listD A s s.heap) (hS : va_S A s.heap H locs) (hsize : ls.size = c.maxLocals)
    (d0 : decode cc pc = .ok (.new ik, 3)) (d3 : decode cc (pc + 3) = .ok (.dup, 1)) (d4 : decode cc (pc + 4) = .ok (.invokespecial ic, 3)) (d7 : decode cc (pc + 7) = .ok (.athrow, 1))
    (hout : ∀ x ∈ c.exceptionTable.toList, covers x (pc + 7) = false)
    (hRframes : names.length + 3 < R.frames) (hRlocals : (rest.map fun v => v.category).sum + (13 * (names.length + 1) + 42) ≤ R.locals) (hRcells : cells + 1 ≤ R.cells) (hRslots : slots + 6 ≤ R.slots) (hlocks : meth.locks = false)
    (hx : ∀ t : State, s.vm.Alike t.vm → H.size ≤ t.heap.size → (∀ q : Nat, q < H.size → t.heap[q]? = H[q]?) → XC cls s t)
    (hf : ∀ z ∈ locs, free z.base) (hc : cells + 1 ≤ mc) (hs : slots + 6 ≤ ms) :
    W p l e R s m args below meth c H locs cells slots (vx_MQ below Qc XC args s mc ms free) (F0 m pc ls rest) := by
  intro T hT X
  have htr : e.platform.stackTraces = false := (show e.platform.stackTraces = l.stackTraces by rw [X.admits.platform]).trans hl
  have Y := vx_rebase X (R' := { frames := R.frames, locals := R.locals, cells := 1, slots := 6 }) (Nat.le_refl _) (Nat.le_refl _) hRcells hRslots
  obtain ⟨s', hA⟩ : ∃ z, z = (T.setVm s.vm).setFrames (.invoking m args :: below) := ⟨_, rfl⟩
  rw [← hA] at Y
  have hvm : s'.vm = s.vm := by rw [hA]; rfl
  have hhp : s'.heap = H := by rw [hA]; exact hT
  have hW0 : s.WarmedH s'.vm := by rw [hvm]; exact State.WarmedH.refl s
  have hat' : ∀ w ∈ vx_at0 own ic cls names, w.before args s' = true := fun w hw => vx_ot_at hW0 hvm.symm (hgood w (List.mem_cons_of_mem _ (List.mem_cons_of_mem _ hw))) (hat w hw)
  have hk' : (Cond.classLink own ik cls).before args s' = true := vx_ot_at hW0 hvm.symm (hgood _ List.mem_cons_self) hk
  have hini' : (Cond.initialized cls).before args s' = true := vx_ot_at hW0 hvm.symm (hgood _ (List.mem_cons_of_mem _ List.mem_cons_self)) hini
  have hU' : vx_Zq Bundle.tN "UNASSIGNED_STACK" Bundle.steD A s' s'.heap := by rw [hhp]; exact vx_Zq.moved hW0.alike (hU.kept hS.2.1)
  have hN' : vx_Zq Bundle.tN "SUPPRESSED_SENTINEL" Bundle.listD A s' s'.heap := by rw [hhp]; exact vx_Zq.moved hW0.alike (hN.kept hS.2.1)
  have h : ∀ w ∈ Bundle.ownAtoms0 own ic cls names, w.before args s' = true := vx_own hat' (vx_isRefq hU'.1) (vx_isRefq hN'.1) hU'.2.word hN'.2.word
  have hown' : s'.vm.findClass own = some m.cls := by rw [hvm]; exact hown
  have hins : (Cond.instantiable cls 6).before args s' = true := h _ (by simp [Bundle.ownAtoms0])
  obtain ⟨vm₁, cX, kX, hfX, hkX, -, -, X₁, st1⟩ := Y.newCold hexec (own := own) (C := cls) (index := ik) (n := 6) hown' hk' hins hini'
    (g := F0 m pc ls rest) rfl (by rw [hb]; exact d0) (Nat.le_refl _) (Nat.le_refl _)
  generalize hT1 : (T.setVm vm₁).pushCell { cls := cX, slots := kX.instanceTypes.map defaultValue, vm := .none } = T1 at X₁ st1
  have hcat : (Value.ref T.heap.size).category = 1 := rfl
  have hcellA : T1.heap[T.heap.size]? = some (freshCell cX kX) := by rw [← hT1]; exact State.heap_pushCell_size _ _
  have d3' : decode c.code (pc + 3) = .ok (.dup, 1) := by rw [hb]; exact d3
  obtain ⟨U, hsteps, hrun, hend, hW, hsame, ce, hce, hO⟩ := X₁.ctorThrow0 hexec htr (own := own) (cls := cls) (names := names) (ic := ic) hown' hcls hnames h (fun x hx => nomatch hx) hfX hkX hcellA (by rw [hhp, hT]; exact Nat.le_refl _)
    (g := { method := m, pc := pc + 4, locals := ls, stack := .ref T.heap.size :: .ref T.heap.size :: rest, locked := none }) rfl hsize rfl rfl (rest := rest) rfl
    (by rw [hb]; exact d4) (by rw [hb]; exact d7) hout hRframes (by simp only [List.map_cons, List.sum_cons, hcat]; omega) hlocks
  obtain ⟨f1, f2⟩ := vx_frame hsame
  rw [hhp] at f1 f2
  have hWs : s.WarmedH U.vm := State.WarmedH.trans hW0 hW
  have hcl : s.vm.findClass cls = some ce.cls := by
    have h9 := hO.cls
    rw [hvm] at h9
    exact h9
  have hall : s.sameButNew ({ U with vm := s.vm } : State) locs mc ms := by
    subst hA
    obtain ⟨e1, e2⟩ := hsame
    rw [State.setFrames_setFrames] at e1
    have h2 : (T.setVm s.vm).sameButNew ({ U with vm := s.vm } : State) [] (0 + 1) (0 + 6) := ⟨e1, e2⟩
    have h3 := X.same.trans h2
    rw [List.append_nil] at h3
    exact h3.mono hc hs
  refine ⟨U, ?_, .threw T.heap.size, hrun, hend, Or.inr ⟨T.heap.size, rfl, cls, ce, locs, hx U hWs.alike f1 (fun q hq => f2 q hq (fun z hz => nomatch hz)), hce, hO.vm, hcl, hWs, hall, hf⟩⟩
  refine st1 _ ?_
  show Steps p.tables e below (T1.setTop { method := m, pc := pc + 3, locals := ls, stack := .ref T.heap.size :: rest, locked := none }) _
  jvm_step X₁.here [X₁.here.top, hexec, d3', Value.category]
  exact hsteps
/-- 'throw new E("text")': new; dup; ldc; invokespecial; athrow -/
theorem vx_throwS {cc : ByteArray} {pc : Nat} (hexec : p.tables.exec = Jvm.exec) (hb : c.code = cc) (hl : l.stackTraces = false) {own cls text : String} {names : List String} {ik is ic mc ms sa : Nat} {A : Nat → Prop}
    (hown : s.vm.findClass own = some m.cls) (hcls : Bundle.fit cls = true) (hnames : ∀ n ∈ names, Bundle.fit n = true)
    (hk : (Cond.classLink own ik cls).before args s = true) (hini : (Cond.initialized cls).before args s = true) (hstr : vk_R own is text sa s) (hat : ∀ w ∈ vx_atS own ic cls names, w.before args s = true)
    (hgood : ∀ w ∈ Cond.classLink own ik cls :: Cond.initialized cls :: vx_atS own ic cls names, vx_ot w = true)
    (hU : vx_Zq Bundle.tN "UNASSIGNED_STACK" Bundle.steD A s s.heap) (hN : vx_Zq Bundle.tN "SUPPRESSED_SENTINEL" Bundle.listD A s s.heap) (hS : va_S A s.heap H locs) (hsize : ls.size = c.maxLocals)
    (d0 : decode cc pc = .ok (.new ik, 3)) (d3 : decode cc (pc + 3) = .ok (.dup, 1)) (d4 : decode cc (pc + 4) = .ok (.ldc is, 2)) (d6 : decode cc (pc + 6) = .ok (.invokespecial ic, 3)) (d9 : decode cc (pc + 9) = .ok (.athrow, 1))
    (hout : ∀ x ∈ c.exceptionTable.toList, covers x (pc + 9) = false)
    (hRframes : names.length + 3 < R.frames) (hRlocals : (rest.map fun v => v.category).sum + (13 * (names.length + 1) + 43) ≤ R.locals) (hRcells : cells + 1 ≤ R.cells) (hRslots : slots + 6 ≤ R.slots) (hlocks : meth.locks = false)
    (hx : ∀ t : State, s.vm.Alike t.vm → H.size ≤ t.heap.size → (∀ q : Nat, q < H.size → t.heap[q]? = H[q]?) → XC cls s t)
    (hf : ∀ z ∈ locs, free z.base) (hc : cells + 1 ≤ mc) (hs : slots + 6 ≤ ms) :
    W p l e R s m args below meth c H locs cells slots (vx_MQ below Qc XC args s mc ms free) (F0 m pc ls rest) := by
  intro T hT X
  have htr : e.platform.stackTraces = false := (show e.platform.stackTraces = l.stackTraces by rw [X.admits.platform]).trans hl
  have Y := vx_rebase X (R' := { frames := R.frames, locals := R.locals, cells := 1, slots := 6 }) (Nat.le_refl _) (Nat.le_refl _) hRcells hRslots
  obtain ⟨s', hA⟩ : ∃ z, z = (T.setVm s.vm).setFrames (.invoking m args :: below) := ⟨_, rfl⟩
  rw [← hA] at Y
  have hvm : s'.vm = s.vm := by rw [hA]; rfl
  have hhp : s'.heap = H := by rw [hA]; exact hT
  have hW0 : s.WarmedH s'.vm := by rw [hvm]; exact State.WarmedH.refl s
  have hat' : ∀ w ∈ vx_atS own ic cls names, w.before args s' = true := fun w hw => vx_ot_at hW0 hvm.symm (hgood w (List.mem_cons_of_mem _ (List.mem_cons_of_mem _ hw))) (hat w hw)
  have hk' : (Cond.classLink own ik cls).before args s' = true := vx_ot_at hW0 hvm.symm (hgood _ List.mem_cons_self) hk
  have hini' : (Cond.initialized cls).before args s' = true := vx_ot_at hW0 hvm.symm (hgood _ (List.mem_cons_of_mem _ List.mem_cons_self)) hini
  have hU' : vx_Zq Bundle.tN "UNASSIGNED_STACK" Bundle.steD A s' s'.heap := by rw [hhp]; exact vx_Zq.moved hW0.alike (hU.kept hS.2.1)
  have hN' : vx_Zq Bundle.tN "SUPPRESSED_SENTINEL" Bundle.listD A s' s'.heap := by rw [hhp]; exact vx_Zq.moved hW0.alike (hN.kept hS.2.1)
  have h : ∀ w ∈ Bundle.ownAtoms own ic cls names, w.before args s' = true := vx_own hat' (vx_isRefq hU'.1) (vx_isRefq hN'.1) hU'.2.word hN'.2.word
  have hown' : s'.vm.findClass own = some m.cls := by rw [hvm]; exact hown
  have hins : (Cond.instantiable cls 6).before args s' = true := h _ (by simp [Bundle.ownAtoms])
  obtain ⟨vm₁, cX, kX, hfX, hkX, -, -, X₁, st1⟩ := Y.newCold hexec (own := own) (C := cls) (index := ik) (n := 6) hown' hk' hins hini'
    (g := F0 m pc ls rest) rfl (by rw [hb]; exact d0) (Nat.le_refl _) (Nat.le_refl _)
  generalize hT1 : (T.setVm vm₁).pushCell { cls := cX, slots := kX.instanceTypes.map defaultValue, vm := .none } = T1 at X₁ st1
  have hcat : (Value.ref T.heap.size).category = 1 := rfl
  have hcellA : T1.heap[T.heap.size]? = some (freshCell cX kX) := by rw [← hT1]; exact State.heap_pushCell_size _ _
  have d3' : decode c.code (pc + 3) = .ok (.dup, 1) := by rw [hb]; exact d3
  have d4' : decode c.code (pc + 4) = .ok (.ldc is, 2) := by rw [hb]; exact d4
  have hstr' : vk_R own is text sa s' := vk_R.warm hW0 hstr
  obtain ⟨U, hsteps, hrun, hend, hW, hsame, ce, hce, hO⟩ := X₁.ctorThrowS hexec htr (own := own) (cls := cls) (names := names) (ic := ic) hown' hcls hnames h (fun x hx => nomatch hx) hfX hkX hcellA (by rw [hhp, hT]; exact Nat.le_refl _) (msg := .ref sa) rfl
    (g := { method := m, pc := pc + 6, locals := ls, stack := .ref sa :: .ref T.heap.size :: .ref T.heap.size :: rest, locked := none }) rfl hsize rfl rfl (rest := rest) rfl
    (by rw [hb]; exact d6) (by rw [hb]; exact d9) hout hRframes (by simp only [List.map_cons, List.sum_cons, hcat]; omega) hlocks
  obtain ⟨f1, f2⟩ := vx_frame hsame
  rw [hhp] at f1 f2
  have hWs : s.WarmedH U.vm := State.WarmedH.trans hW0 hW
  have hcl : s.vm.findClass cls = some ce.cls := by
    have h9 := hO.cls
    rw [hvm] at h9
    exact h9
  have hall : s.sameButNew ({ U with vm := s.vm } : State) locs mc ms := by
    subst hA
    obtain ⟨e1, e2⟩ := hsame
    rw [State.setFrames_setFrames] at e1
    have h2 : (T.setVm s.vm).sameButNew ({ U with vm := s.vm } : State) [] (0 + 1) (0 + 6) := ⟨e1, e2⟩
    have h3 := X.same.trans h2
    rw [List.append_nil] at h3
    exact h3.mono hc hs
  refine ⟨U, ?_, .threw T.heap.size, hrun, hend, Or.inr ⟨T.heap.size, rfl, cls, ce, locs, hx U hWs.alike f1 (fun q hq => f2 q hq (fun z hz => nomatch hz)), hce, hO.vm, hcl, hWs, hall, hf⟩⟩
  refine st1 _ ?_
  show Steps p.tables e below (T1.setTop { method := m, pc := pc + 3, locals := ls, stack := .ref T.heap.size :: rest, locked := none }) _
  jvm_step X₁.here [X₁.here.top, hexec, d3', Value.category]
  exact X₁.ldcString hexec (own := own) (text := text) (index := is) (a := sa) hown' hstr'.1 hstr'.2
    (g := { method := m, pc := pc + 4, locals := ls, stack := .ref T.heap.size :: .ref T.heap.size :: rest, locked := none }) rfl d4' _ hsteps
/-- 'throw new E("text")', the text by a wide index -/
theorem vx_throwSW {cc : ByteArray} {pc : Nat} (hexec : p.tables.exec = Jvm.exec) (hb : c.code = cc) (hl : l.stackTraces = false) {own cls text : String} {names : List String} {ik is ic mc ms sa : Nat} {A : Nat → Prop}
    (hown : s.vm.findClass own = some m.cls) (hcls : Bundle.fit cls = true) (hnames : ∀ n ∈ names, Bundle.fit n = true)
    (hk : (Cond.classLink own ik cls).before args s = true) (hini : (Cond.initialized cls).before args s = true) (hstr : vk_R own is text sa s) (hat : ∀ w ∈ vx_atS own ic cls names, w.before args s = true)
    (hgood : ∀ w ∈ Cond.classLink own ik cls :: Cond.initialized cls :: vx_atS own ic cls names, vx_ot w = true)
    (hU : vx_Zq Bundle.tN "UNASSIGNED_STACK" Bundle.steD A s s.heap) (hN : vx_Zq Bundle.tN "SUPPRESSED_SENTINEL" Bundle.listD A s s.heap) (hS : va_S A s.heap H locs) (hsize : ls.size = c.maxLocals)
    (d0 : decode cc pc = .ok (.new ik, 3)) (d3 : decode cc (pc + 3) = .ok (.dup, 1)) (d4 : decode cc (pc + 4) = .ok (.ldc_w is, 3)) (d7 : decode cc (pc + 7) = .ok (.invokespecial ic, 3)) (d10 : decode cc (pc + 10) = .ok (.athrow, 1))
    (hout : ∀ x ∈ c.exceptionTable.toList, covers x (pc + 10) = false)
    (hRframes : names.length + 3 < R.frames) (hRlocals : (rest.map fun v => v.category).sum + (13 * (names.length + 1) + 43) ≤ R.locals) (hRcells : cells + 1 ≤ R.cells) (hRslots : slots + 6 ≤ R.slots) (hlocks : meth.locks = false)
    (hx : ∀ t : State, s.vm.Alike t.vm → H.size ≤ t.heap.size → (∀ q : Nat, q < H.size → t.heap[q]? = H[q]?) → XC cls s t)
    (hf : ∀ z ∈ locs, free z.base) (hc : cells + 1 ≤ mc) (hs : slots + 6 ≤ ms) :
    W p l e R s m args below meth c H locs cells slots (vx_MQ below Qc XC args s mc ms free) (F0 m pc ls rest) := by
  intro T hT X
  have htr : e.platform.stackTraces = false := (show e.platform.stackTraces = l.stackTraces by rw [X.admits.platform]).trans hl
  have Y := vx_rebase X (R' := { frames := R.frames, locals := R.locals, cells := 1, slots := 6 }) (Nat.le_refl _) (Nat.le_refl _) hRcells hRslots
  obtain ⟨s', hA⟩ : ∃ z, z = (T.setVm s.vm).setFrames (.invoking m args :: below) := ⟨_, rfl⟩
  rw [← hA] at Y
  have hvm : s'.vm = s.vm := by rw [hA]; rfl
  have hhp : s'.heap = H := by rw [hA]; exact hT
  have hW0 : s.WarmedH s'.vm := by rw [hvm]; exact State.WarmedH.refl s
  have hat' : ∀ w ∈ vx_atS own ic cls names, w.before args s' = true := fun w hw => vx_ot_at hW0 hvm.symm (hgood w (List.mem_cons_of_mem _ (List.mem_cons_of_mem _ hw))) (hat w hw)
  have hk' : (Cond.classLink own ik cls).before args s' = true := vx_ot_at hW0 hvm.symm (hgood _ List.mem_cons_self) hk
  have hini' : (Cond.initialized cls).before args s' = true := vx_ot_at hW0 hvm.symm (hgood _ (List.mem_cons_of_mem _ List.mem_cons_self)) hini
  have hU' : vx_Zq Bundle.tN "UNASSIGNED_STACK" Bundle.steD A s' s'.heap := by rw [hhp]; exact vx_Zq.moved hW0.alike (hU.kept hS.2.1)
  have hN' : vx_Zq Bundle.tN "SUPPRESSED_SENTINEL" Bundle.listD A s' s'.heap := by rw [hhp]; exact vx_Zq.moved hW0.alike (hN.kept hS.2.1)
  have h : ∀ w ∈ Bundle.ownAtoms own ic cls names, w.before args s' = true := vx_own hat' (vx_isRefq hU'.1) (vx_isRefq hN'.1) hU'.2.word hN'.2.word
  have hown' : s'.vm.findClass own = some m.cls := by rw [hvm]; exact hown
  have hins : (Cond.instantiable cls 6).before args s' = true := h _ (by simp [Bundle.ownAtoms])
  obtain ⟨vm₁, cX, kX, hfX, hkX, -, -, X₁, st1⟩ := Y.newCold hexec (own := own) (C := cls) (index := ik) (n := 6) hown' hk' hins hini'
    (g := F0 m pc ls rest) rfl (by rw [hb]; exact d0) (Nat.le_refl _) (Nat.le_refl _)
  generalize hT1 : (T.setVm vm₁).pushCell { cls := cX, slots := kX.instanceTypes.map defaultValue, vm := .none } = T1 at X₁ st1
  have hcat : (Value.ref T.heap.size).category = 1 := rfl
  have hcellA : T1.heap[T.heap.size]? = some (freshCell cX kX) := by rw [← hT1]; exact State.heap_pushCell_size _ _
  have d3' : decode c.code (pc + 3) = .ok (.dup, 1) := by rw [hb]; exact d3
  have d4' : decode c.code (pc + 4) = .ok (.ldc_w is, 3) := by rw [hb]; exact d4
  have hstr' : vk_R own is text sa s' := vk_R.warm hW0 hstr
  obtain ⟨U, hsteps, hrun, hend, hW, hsame, ce, hce, hO⟩ := X₁.ctorThrowS hexec htr (own := own) (cls := cls) (names := names) (ic := ic) hown' hcls hnames h (fun x hx => nomatch hx) hfX hkX hcellA (by rw [hhp, hT]; exact Nat.le_refl _) (msg := .ref sa) rfl
    (g := { method := m, pc := pc + 7, locals := ls, stack := .ref sa :: .ref T.heap.size :: .ref T.heap.size :: rest, locked := none }) rfl hsize rfl rfl (rest := rest) rfl
    (by rw [hb]; exact d7) (by rw [hb]; exact d10) hout hRframes (by simp only [List.map_cons, List.sum_cons, hcat]; omega) hlocks
  obtain ⟨f1, f2⟩ := vx_frame hsame
  rw [hhp] at f1 f2
  have hWs : s.WarmedH U.vm := State.WarmedH.trans hW0 hW
  have hcl : s.vm.findClass cls = some ce.cls := by
    have h9 := hO.cls
    rw [hvm] at h9
    exact h9
  have hall : s.sameButNew ({ U with vm := s.vm } : State) locs mc ms := by
    subst hA
    obtain ⟨e1, e2⟩ := hsame
    rw [State.setFrames_setFrames] at e1
    have h2 : (T.setVm s.vm).sameButNew ({ U with vm := s.vm } : State) [] (0 + 1) (0 + 6) := ⟨e1, e2⟩
    have h3 := X.same.trans h2
    rw [List.append_nil] at h3
    exact h3.mono hc hs
  refine ⟨U, ?_, .threw T.heap.size, hrun, hend, Or.inr ⟨T.heap.size, rfl, cls, ce, locs, hx U hWs.alike f1 (fun q hq => f2 q hq (fun z hz => nomatch hz)), hce, hO.vm, hcl, hWs, hall, hf⟩⟩
  refine st1 _ ?_
  show Steps p.tables e below (T1.setTop { method := m, pc := pc + 3, locals := ls, stack := .ref T.heap.size :: rest, locked := none }) _
  jvm_step X₁.here [X₁.here.top, hexec, d3', Value.category]
  exact X₁.ldcStringW hexec (own := own) (text := text) (index := is) (a := sa) hown' hstr'.1 hstr'.2
    (g := { method := m, pc := pc + 4, locals := ls, stack := .ref T.heap.size :: .ref T.heap.size :: rest, locked := none }) rfl d4' _ hsteps
end Ends
section Bodies
variable {l : Launch}
theorem vx_ofW {y : MethodName} {ws ws' : List Cond} {rm : Room} {Pc : Array Value → State → Prop} {Qc : Array Value → State → Outcome → State → Prop} {XC : String → State → State → Prop} {mc ms : Nat} {free : Addr → Prop} {cc : ByteArray} {maxL : Nat} {ret : Option FieldType}
    (hy : plainName y.cls = true) (hw : ws = Cond.code y cc maxL ret :: ws')
    (body : ∀ p e s m args below meth c s₁, BodyLoose p l y (headSpec ws rm) cc maxL ret e s m args below meth c s₁ → c.maxLocals = maxL → (∀ x ∈ c.exceptionTable.toList, False) → Pc args s →
      W p l e (headSpec ws rm).room s m args below meth c s.heap [] 0 0 (vx_MQ below Qc XC args s mc ms free) (entryFrame m args maxL)) : vx_Met l y ws rm Pc Qc XC mc ms free := by
  refine MetFree.of_bodyS (code := cc) (maxLocals := maxL) (ret := ret) hy ?_ ?_
  · intro args s m h hn
    obtain ⟨meth, c, h1, h2, h3, h4, h5, h6, -, -⟩ := Cond.code_spec hn (atoms_spec (ws := ws) h _ (by rw [hw]; exact List.mem_cons_self))
    exact ⟨meth, c, h1, h2, h3, h4, h5, h6⟩
  · intro p e s m args below meth c s₁ B hml hP _
    have hh0 : s₁.heap = s.heap := by rw [B.state]; rfl
    have ht : ∀ x ∈ c.exceptionTable.toList, False := by
      obtain ⟨meth9, c9, h1, h2, -, -, -, -, h7, -⟩ := Cond.code_spec B.named (atoms_spec (ws := ws) B.pre _ (by rw [hw]; exact List.mem_cons_self))
      cases Option.some.inj (h1.symm.trans B.method)
      cases Option.some.inj (h2.symm.trans (Stand.of_body B).code)
      intro x hx
      rw [Array.isEmpty_iff.mp h7] at hx
      cases hx
    obtain ⟨t, a1, o, b1, b2, b3⟩ := body p e s m args below meth c s₁ B hml ht hP s₁ hh0 (Stand.of_body B)
    exact ⟨t, o, a1, b1, b2, b3⟩
/-- the table of a body with handlers -/
theorem vx_table {p : Program} {x y : MethodName} {S : Spec} {cc bytes : ByteArray} {maxL maxL' : Nat} {ret ret' : Option FieldType} {e : Env} {s s₁ : State} {m : MethodId} {args : Array Value} {below : List Frame} {meth : Method} {c : Code} {hh : List (Nat × Nat × Nat × Nat)}
    (B : BodyLoose p l y S cc maxL ret e s m args below meth c s₁) (h : (Cond.codeWith y bytes maxL' ret' hh).before args s = true) : c.exceptionTable.toList = tableOf hh := by
  obtain ⟨m9, meth9, c9, hn9, h1, h2, -, -, h6, -⟩ := Cond.codeWith_spec h
  cases Option.some.inj (hn9.symm.trans B.named)
  cases Option.some.inj (h1.symm.trans B.method)
  cases Option.some.inj (h2.symm.trans (Stand.of_body B).code)
  rw [← h6, table_eq]
end Bodies
end VXA
/-! ===== END ===== -/
/-! ===== BEGIN a static call of a method with an exception table ===== -/
section VXS
variable {p : Program} {l : Launch} {e : Env} {R : Room} {s : State} {m : MethodId} {args : Array Value} {below : List Frame} {meth : Method} {c : Code} {T : State} {H : Heap} {locs : List Loc} {cells slots : Nat}
abbrev vx_CSW (R : Room) (s : State) (args : Array Value) (own : String) (index : Nat) (y : MethodName) (bytes : ByteArray) (maxL : Nat) (ret : Option FieldType) (hh : List (Nat × Nat × Nat × Nat)) (ws : List Cond) (rm : Room) (mc ms n : Nat) : Prop :=
  (rm.cells = mc ∧ rm.slots = ms ∧ rm.frames + 1 ≤ R.frames ∧ 8 + (maxL + 11) + rm.locals ≤ R.locals ∧ (∀ w ∈ ws, ∀ (a' : Array Value) (U : State), s.WarmedH U.vm → w.before a' U = true) ∧ Cond.codeWith y bytes maxL ret hh ∈ ws) ∧
  (Cond.codeWith y bytes maxL ret hh).before args s = true ∧ (Cond.initialized y.cls).before args s = true ∧ (y.cls ≠ "java/lang/invoke/MethodHandle" ∧ y.cls ≠ "java/lang/invoke/VarHandle") ∧
  (∀ sig, parseMethodDescriptor y.desc = some sig → n = sig.parameters.length) ∧ (Cond.methodLink own index y).before args s = true ∧ (Cond.static y).before args s = true
theorem vx_cwSW {own : String} {index maxL mc ms : Nat} {y : MethodName} {bytes : ByteArray} {ret : Option FieldType} {hh : List (Nat × Nat × Nat × Nat)} {Ts ws ws' : List Cond} {rm : Room} (n : Nat) (ht : ∀ w ∈ Ts, w.before args s = true) (hT : GoodIn Ts (va_wsS own index y ws)) (hw : ws = Cond.codeWith y bytes maxL ret hh :: ws') (hrc : rm.cells = mc) (hrs : rm.slots = ms)
    (hd : y.cls ≠ "java/lang/invoke/MethodHandle" ∧ y.cls ≠ "java/lang/invoke/VarHandle" ∧ (parseMethodDescriptor y.desc).map (fun d => d.parameters.length) = some n) (hR : rm.frames + 1 ≤ R.frames ∧ 8 + (maxL + 11) + rm.locals ≤ R.locals) :
    vx_CSW R s args own index y bytes maxL ret hh ws rm mc ms n := by
  have ok : ∀ w ∈ va_wsS own index y ws, w.before args s = true := fun w h => ht w (hT w h).1
  have hG : GoodIn Ts ws := fun w h => hT w (by unfold va_wsS; exact List.mem_append_right _ h)
  have hc : Cond.codeWith y bytes maxL ret hh ∈ ws := by rw [hw]; exact List.mem_cons_self
  refine ⟨⟨hrc, hrs, hR.1, hR.2, pay_in ht hG, hc⟩, ht _ (hG _ hc).1, ok _ (by simp [va_wsS]), ⟨hd.1, hd.2.1⟩, fun sig h => ?_, ok _ (by simp [va_wsS]), ok _ (by simp [va_wsS])⟩
  have h2 := hd.2.2
  rw [h] at h2
  exact (Option.some.inj h2).symm
theorem vx_callSW (X : Stand p l e R s m args below meth c T locs cells slots) (hexec : p.tables.exec = Jvm.exec) {own : String} {index : Nat} {y : MethodName} {bytes : ByteArray} {maxL : Nat} {ret : Option FieldType} {hh : List (Nat × Nat × Nat × Nat)}
    (hown : s.vm.findClass own = some m.cls) (hlink : (Cond.methodLink own index y).before args s = true) (hstat : (Cond.static y).before args s = true) (hinit : (Cond.initialized y.cls).before args s = true)
    (hcode : (Cond.codeWith y bytes maxL ret hh).before args s = true) (hy : y.cls ≠ "java/lang/invoke/MethodHandle" ∧ y.cls ≠ "java/lang/invoke/VarHandle")
    {W9 : Nat} {Pre : Pt → Array Value → Prop} {Post : Pt → Array Value → Option Value → Pt → Prop} (hK : Back l R p e below s args y 3 W9 Pre Post)
    {g : JFrame} (hg : g.method = m) (hsize : g.locals.size = c.maxLocals) {argsL rest : List Value} (hlen : ∀ sig, parseMethodDescriptor y.desc = some sig → argsL.length = sig.parameters.length)
    (hstack : g.stack = argsL.reverse ++ rest) (hW : 2 * g.monitorRoom + (rest.map fun v => v.category).sum ≤ W9) (hdg : decode c.code g.pc = .ok (.invokestatic index, 3))
    (hpre : ∀ vm₁, s.WarmedH vm₁ → Pre ⟨T.setVm vm₁, locs, cells, slots⟩ argsL.toArray) :
    ∃ (v : Option Value) (vm₁ : Vm) (B : Pt), s.WarmedH vm₁ ∧ Stand p l e R s m args below meth c B.U B.locs B.cells B.slots ∧ Post ⟨T.setVm vm₁, locs, cells, slots⟩ argsL.toArray v B ∧
      ∀ target, Steps p.tables e below (B.U.setTop { g with pc := g.pc + 3, stack := v.toList ++ rest }) target → Steps p.tables e below (T.setTop g) target := by
  obtain ⟨mk, methM, cM, hnamed, hmethM, -, -, -, -, -, -, hsigM⟩ := Cond.codeWith_spec hcode
  have hstatic : methM.isStatic = true := Cond.static_spec hnamed hmethM hstat
  obtain ⟨kP, hkP, -⟩ := className_of_methodNamed hnamed
  have hinitP : kP.init = .initialized := Cond.initialized_spec (findClass_of_methodNamed hnamed) hkP hinit
  obtain ⟨vm₁, X₁, hstep₁⟩ := X.invokestatic hexec hown hlink hnamed hmethM hstatic hkP hinitP hy (g := g) hg (argsL := argsL) (rest := rest) (hlen _ hsigM) hstack hdg
  obtain ⟨v, B, X', hpost, hsteps⟩ := hK m meth c ⟨T.setVm vm₁, locs, cells, slots⟩ { g with stack := rest } (.invokestatic index) mk argsL.toArray X₁ hg hsize hdg hW (X₁.named hnamed) (hpre vm₁ X₁.warmed)
  exact ⟨v, vm₁, B, X₁.warmed, X', hpost, fun target h => hstep₁ _ fun acts => by rw [doInvoke_state]; exact hsteps.trans h⟩
theorem vx_runSW {y : MethodName} {bytes cc : ByteArray} {maxL nL mc ms n index : Nat} {ret : Option FieldType} {hh : List (Nat × Nat × Nat × Nat)} {ws : List Cond} {rm : Room} {Pc : Array Value → State → Prop} {Qc : Array Value → State → Outcome → State → Prop} {free : Addr → Prop} {Ts : List Cond} {own : String} {As rest : List Value} {g : JFrame}
    (S : CallFix p m c cc nL s args Ts own) (hM : Met l y ws rm Pc Qc mc ms free) (cw : vx_CSW R s args own index y bytes maxL ret hh ws rm mc ms n) (hp : PreS s H Pc As)
    (hg : g.method = m) (hn : As.length = n) (hsize : g.locals.size = nL) (hstack : g.stack = As.reverse ++ rest) (hW : 2 * g.monitorRoom + (rest.map fun v => v.category).sum ≤ 8) (hdg : decode cc g.pc = .ok (.invokestatic index, 3)) (hf : cells + mc ≤ R.cells ∧ slots + ms ≤ R.slots) :
    va_Run p l e R s m args below meth c H locs cells slots mc ms g rest (Qc As.toArray) (free) := by
  obtain ⟨⟨hrc, hrs, hfr, hlo, hws, hcw⟩, hcode, hini, hy, hlen, hl, hstt⟩ := cw
  have hK : Back l R p e below s args y 3 8 (PreOf R mc ms Pc) (PostOf Qc mc ms free) := va_backW (hh := hh) (bytes := bytes) (maxL := maxL) (ret := ret) hM hp.1 hrc hrs hfr hlo hws hcw (fun a' U hW => word_at hW (Or.inl (by first | rfl | simp [Cond.onTables, Cond.keeps, Cond.steady])) hini)
  obtain ⟨hx, hb, hml, ho, -⟩ := S
  intro T hT X
  obtain ⟨v, vm₁, ⟨U', l2, c2, s2⟩, hW₁, X', ⟨g', mk, t, L, e1, e2, hq, h1, hL, h2, h3⟩, st⟩ := vx_callSW X hx (hh := hh) (bytes := bytes) (maxL := maxL) (ret := ret) ho hl hstt hini hcode hy hK hg (hsize.trans hml.symm) (argsL := As) (rest := rest) (fun sig h => hn.trans (hlen sig h)) hstack hW (by rw [hb]; exact hdg)
    (fun vm₁ hW₁ => ⟨hf.1, hf.2, hp.2 (T.setVm vm₁) hT hW₁⟩)
  dsimp only [Pt.U, Pt.locs, Pt.cells, Pt.slots] at X' e1 e2 h1 h2 h3 st
  subst h1; subst h2; subst h3
  exact ⟨v, (T.setVm vm₁).calling g' mk As.toArray, t, U', L, hT, X', hL, e1, e2, hq, st⟩
/-- not caught here, past rows that name other classes: it goes on to the caller -/
theorem vx_outP {p : Program} {l : Launch} {e : Env} {R : Room} {s : State} {m : MethodId} {args : Array Value} {below : List Frame} {meth : Method} {c : Code} {H : Heap} {locs : List Loc} {cells slots : Nat} {free : Addr → Prop} {ls : Array Slot} {rest : List Value} {Qc : Array Value → State → Outcome → State → Prop} {XC : String → State → State → Prop}
    {pc : Nat} {own E : String} {ce : Cell} {q : Addr} {mc ms : Nat} (hown : s.vm.findClass own = some m.cls) (hlocks : meth.locks = false)
    (hpass : ∀ z ∈ c.exceptionTable.toList, covers z pc = false ∨ (z.catchType ≠ 0 ∧ ∃ nm : String, (Cond.classLink own z.catchType nm).before args s = true ∧ va_Nc E nm s)) (hcell : H[q]? = some ce) (hv : ce.vm = .none) (hcl : s.vm.findClass E = some ce.cls)
    (hx : ∀ t : State, t.heap = H → s.vm.Alike t.vm → XC E s t) (hf : ∀ z ∈ locs, free z.base) (hc : cells ≤ mc) (hs : slots ≤ ms) :
    vx_W p l e R s m args below meth c H locs cells slots (vx_MQ below Qc XC args s mc ms free) (F0 m pc ls rest) q := by
  intro T hT X
  have hpl : e.platform.magicAccessors = ({} : Platform).magicAccessors := by rw [X.admits.platform]
  obtain ⟨vm', hW', X', st⟩ := X.outThrough hlocks q (g := F0 m pc ls rest) rfl rfl rfl (cell := ce) (by rw [hT]; exact hcell) (by rw [hv]; rfl)
    (by obtain ⟨k9, h9, -⟩ := Vm.findClass_spec hcl; exact ⟨k9, h9⟩) (fun z hz => by
      rcases hpass z hz with h | ⟨hz0, nm, hl1, hn1⟩
      · exact Or.inl h
      · obtain ⟨c6, hc6, hcl6⟩ := Cond.classLink_spec hown hl1 e.platform hpl
        obtain ⟨a8, b8, h1, h2, h3⟩ := hn1
        cases Option.some.inj (h1.symm.trans hcl)
        cases Option.some.inj (h2.symm.trans hc6)
        exact Or.inr ⟨hz0, _, hcl6, h3⟩)
  obtain ⟨g₀, hfr⟩ := X'.frames_eq
  have hcell9 : ((T.setVm vm').setFrames (.throwing q :: below)).heap[q]? = some ce := by
    show T.heap[q]? = some ce
    rw [hT]; exact hcell
  have hend : Ended ((T.setVm vm').setFrames (.throwing q :: below)) below (.threw q) := State.frames_setFrames _ (State.cur_lt_of_frames hfr)
  refine ⟨(T.setVm vm').setFrames (.throwing q :: below), ?_, .threw q, X'.here.running, hend, Or.inr ⟨q, rfl, E, ce, locs, hx _ hT (X'.ends _).1.alike, hcell9, hv, hcl, (X'.ends _).1, (X'.ends _).2.mono hc hs, hf⟩⟩
  rw [X.pushThrowing_eq]
  exact st
/-- a thing of a world lies in the heap -/
theorem vx_lt {D : va_G} {cl : List vw_C} {ws : va_W} {H1 : Heap} (h : va_P D cl ws H1) {k : Nat} {q : Nat × va_E} (hk : ws[k]? = some q) : q.1 < H1.size := (h k q hk).lt
end VXS
/-! ===== END ===== -/
/-! ===== BEGIN methods with a table of their own: called by a name, returning or throwing ===== -/
section VXH
/-! vx_backW, vx_callVX, vx_callSX, vx_callVW, vx_runVW, vx_runVX, vx_runSX, vx_ofWH follow the same proofs as their sisters above (Free/Laws.lean, Shelf42/LK1.lean); vx_outP calls Shelf42/NT130.lean (outThrough). -/
section
variable {l : Launch} {R : Room} {p : Program} {e : Env} {below : List Frame} {s : State} {sargs : Array Value} {y : MethodName} {len W9 : Nat}
theorem vx_backW {ws : List Cond} {rm : Room} {Pc : Array Value → State → Prop} {Qc : Array Value → State → Outcome → State → Prop} {XC : String → State → State → Prop} {mc ms : Nat} {free : Addr → Prop} {bytes : ByteArray} {maxL : Nat} {ret : Option FieldType} {hh : List (Nat × Nat × Nat × Nat)}
    (hM : vx_Met l y ws rm Pc Qc XC mc ms free) (hblind : FrameBlind Pc) (hrc : rm.cells = mc) (hrs : rm.slots = ms)
    (hframes : rm.frames + 1 ≤ R.frames) (hlocals : W9 + (maxL + 11) + rm.locals ≤ R.locals)
    (hws : ∀ w ∈ ws, ∀ a' U, s.WarmedH U.vm → w.before a' U = true) (hcode : Cond.codeWith y bytes maxL ret hh ∈ ws) (hinit : ∀ a' U, s.WarmedH U.vm → (Cond.initialized y.cls).before a' U = true) :
    vx_Back l R p e below s sargs y len W9 (PreOf R mc ms Pc) (PostOf Qc mc ms free) (vx_Post XC mc ms free) := by
  intro m meth c A g ig mk a X hg hsize hdg hW hn hp
  have h1 : (headSpec ws rm).pre.before a A.U = true := atoms_intro fun w hw => hws w hw _ _ X.warmed
  have h2 : (Cond.codeWith y bytes maxL ret hh).before a A.U = true := hws _ hcode _ _ X.warmed
  have h3 : (Cond.initialized y.cls).before a A.U = true := hinit _ _ X.warmed
  have h4 : A.cells + (headSpec ws rm).room.cells ≤ R.cells := by rw [show (headSpec ws rm).room.cells = mc from hrc]; exact hp.1
  have h5 : A.slots + (headSpec ws rm).room.slots ≤ R.slots := by rw [show (headSpec ws rm).room.slots = ms from hrs]; exact hp.2.1
  have hPc : Pc a (A.U.calling g mk a) := hblind _ _ _ _ hp.2.2
  obtain ⟨U, Ls, c0, s0⟩ := A
  dsimp only [Pt.U, Pt.locs, Pt.cells, Pt.slots] at h1 h2 h3 h4 h5 X hn hPc ⊢
  obtain ⟨m9, methY, cY, hn9, hmY, hcY, -, hlY, -⟩ := Cond.codeWith_spec h2
  cases Option.some.inj (hn9.symm.trans hn)
  obtain ⟨kY, hkY, -⟩ := className_of_methodNamed hn
  have hinitY : kY.init = .initialized := Cond.initialized_spec (findClass_of_methodNamed hn) hkY h3
  have h : At U g.method c below := by rw [hg]; exact X.here
  have hlocals9 : W9 + (maxL + 11) + (headSpec ws rm).room.locals ≤ R.locals := hlocals
  have happ : (headSpec ws rm).appliesLoose y e.platform (U.calling g mk a) = true :=
    Spec.appliesLoose_calling (g := g) h hdg hn hkY hinitY
      (X.room_calling (g := g) (R' := (headSpec ws rm).room) hsize hmY hcY hframes (by rw [hlY]; omega) h4 h5) h1
  obtain ⟨mid, hmid⟩ := h.above
  have hfr : (U.setTop g).frames = (.java g :: mid) ++ below := by rw [State.frames_setTop' g h.top, hmid]; rfl
  obtain ⟨o, s₂, hsteps, -, hend, hq⟩ := Steps.callFree hM p X.admits X.cas X.clock (acts := []) hfr happ hPc trivial
  have hq' : vx_Q Qc XC mc ms free a (U.calling g mk a) o s₂ := hq
  rw [State.frames_setTop' g h.top] at hend
  obtain ⟨g₀, hg0⟩ := Option.isSome_iff_exists.mp h.top
  obtain ⟨r, hr⟩ := State.topJava?_eq_some.mp hg0
  have hr' : (({ U with heap := s₂.heap, slotsUsed := s₂.slotsUsed } : State).setVm s₂.vm).frames = .java g₀ :: r := hr
  rcases hq' with ⟨hqc, L, hfe, hL⟩ | ⟨q, rfl, E, ce, L, hx, hce, hcv, hcl, hW₂, hsm, hL⟩
  · obtain ⟨⟨v, rfl⟩, hW₂, e2, q2, q3, q4, q5, q6⟩ := id hfe
    have e3 : s₂ = ({ (U.calling g mk a).setFrames s₂.frames with heap := s₂.heap, slotsUsed := s₂.slotsUsed } : State).setVm s₂.vm := by
      have : s₂ = ({ s₂ with vm := (U.calling g mk a).vm } : State).setVm s₂.vm := rfl
      rw [e2] at this
      exact this
    obtain ⟨c₂, i₂, len₂, hc₂, hd₂, hf₂⟩ := hend
    have hW' : U.WarmedH s₂.vm := hW₂
    have hcc : c₂ = c := by
      have h1 : s₂.code? g.method = U.code? g.method := by
        rw [State.code?_eq, State.code?_eq, hW'.alike.method?]
      exact Option.some.inj (hc₂.symm.trans (h1.trans h.code))
    subst hcc
    have hlen : len₂ = len := by rw [hdg] at hd₂; cases hd₂; rfl
    subst hlen
    have hs₂ : s₂ = (({ U with heap := s₂.heap, slotsUsed := s₂.slotsUsed } : State).setVm s₂.vm).setTop { g with pc := g.pc + len₂, stack := v.toList ++ g.stack } := by
      refine e3.trans ?_
      rw [hf₂, State.calling_eq h.top, State.setFrames_setFrames, State.setTop_of_frames _ hr', hr]
      rfl
    have hsame : U.sameButNew ({ U with heap := s₂.heap, slotsUsed := s₂.slotsUsed } : State) L mc ms := by
      refine ⟨?_, q2, q3, q4, q5, q6⟩
      obtain ⟨t, ht, -⟩ := State.frames_cons hr
      show ({ U with heap := s₂.heap, slotsUsed := s₂.slotsUsed } : State) = { U.setFrames U.frames with heap := s₂.heap, slotsUsed := s₂.slotsUsed }
      rw [State.setFrames_self ht]
    subst hg
    refine Or.inl ⟨v, ⟨(({ U with heap := s₂.heap, slotsUsed := s₂.slotsUsed } : State).setVm s₂.vm), Ls ++ L, c0 + mc, s0 + ms⟩,
      ⟨X.admits, X.cas, X.clock, X.frames, X.room, X.hears, X.method, X.code, (X.here.setHeapUsed s₂.heap s₂.slotsUsed).setVm hW'.alike, X.tail, State.WarmedH.trans X.warmed hW', X.limits, X.bytes, X.same.trans (hsame.setVm s.vm)⟩,
      ⟨g, mk, s₂, L, rfl, rfl, hqc, rfl, hL, rfl, rfl⟩, ?_⟩
    show Steps p.tables e below _ ((({ U with heap := s₂.heap, slotsUsed := s₂.slotsUsed } : State).setVm s₂.vm).setTop { g with pc := g.pc + len₂, stack := v.toList ++ g.stack })
    rw [← hs₂]
    exact hsteps
  · obtain ⟨e2, q2, q3, q4, q5, q6⟩ := id hsm
    have e3 : s₂ = ({ (U.calling g mk a).setFrames s₂.frames with heap := s₂.heap, slotsUsed := s₂.slotsUsed } : State).setVm s₂.vm := by
      have : s₂ = ({ s₂ with vm := (U.calling g mk a).vm } : State).setVm s₂.vm := rfl
      rw [e2] at this
      exact this
    have hf₂ : s₂.frames = .throwing q :: .java g :: U.frames.tail := hend
    have hW' : U.WarmedH s₂.vm := hW₂
    have hs₂ : s₂ = ((({ U with heap := s₂.heap, slotsUsed := s₂.slotsUsed } : State).setVm s₂.vm).setTop g).pushFrame (.throwing q) := by
      refine e3.trans ?_
      rw [hf₂, State.calling_eq h.top, State.setFrames_setFrames, State.pushFrame, State.frames_setTop _ hr', State.setTop_of_frames _ hr', State.setFrames_setFrames, hr]
      rfl
    have hsame : U.sameButNew ({ U with heap := s₂.heap, slotsUsed := s₂.slotsUsed } : State) L mc ms := by
      refine ⟨?_, q2, q3, q4, q5, q6⟩
      obtain ⟨t, ht, -⟩ := State.frames_cons hr
      show ({ U with heap := s₂.heap, slotsUsed := s₂.slotsUsed } : State) = { U.setFrames U.frames with heap := s₂.heap, slotsUsed := s₂.slotsUsed }
      rw [State.setFrames_self ht]
    subst hg
    refine Or.inr ⟨q, ⟨(({ U with heap := s₂.heap, slotsUsed := s₂.slotsUsed } : State).setVm s₂.vm), Ls ++ L, c0 + mc, s0 + ms⟩,
      ⟨X.admits, X.cas, X.clock, X.frames, X.room, X.hears, X.method, X.code, (X.here.setHeapUsed s₂.heap s₂.slotsUsed).setVm hW'.alike, X.tail, State.WarmedH.trans X.warmed hW', X.limits, X.bytes, X.same.trans (hsame.setVm s.vm)⟩,
      ⟨g, mk, s₂, L, E, ce, rfl, rfl, hx, hce, hcv, hcl, rfl, hL, rfl, rfl⟩, ?_⟩
    show Steps p.tables e below _ (((({ U with heap := s₂.heap, slotsUsed := s₂.slotsUsed } : State).setVm s₂.vm).setTop g).pushFrame (.throwing q))
    rw [← hs₂]
    exact hsteps
end
variable {p : Program} {l : Launch} {e : Env} {R : Room} {s : State} {m : MethodId} {args : Array Value} {below : List Frame} {meth : Method} {c : Code} {T : State} {H : Heap} {locs : List Loc} {cells slots : Nat}
theorem vx_callVX (X : Stand p l e R s m args below meth c T locs cells slots) (hexec : p.tables.exec = Jvm.exec) {own C : String} {index : Nat} {y : MethodName} {bytes : ByteArray} {maxL : Nat} {ret : Option FieldType} {hh : List (Nat × Nat × Nat × Nat)}
    (hown : s.vm.findClass own = some m.cls) (hlink : (Cond.methodLink own index y).before args s = true) (hinst : (Cond.instanceMethod y).before args s = true) (hsel : (Cond.selects C y y).before args s = true)
    (hcode : (Cond.codeWith y bytes maxL ret hh).before args s = true) (hy : y.cls ≠ "java/lang/invoke/MethodHandle" ∧ y.cls ≠ "java/lang/invoke/VarHandle")
    {W9 : Nat} {Pre : Pt → Array Value → Prop} {Post : Pt → Array Value → Option Value → Pt → Prop} {PostX : Pt → Array Value → Addr → Pt → Prop} (hK : vx_Back l R p e below s args y 3 W9 Pre Post PostX)
    {b : Addr} {cellB : Cell} (hcell : T.heap[b]? = some cellB) (hobj : cellB.vm.isStatics = false) (hcls : s.vm.findClass C = some cellB.cls)
    {g : JFrame} (hg : g.method = m) (hsize : g.locals.size = c.maxLocals) {argsL rest : List Value} (hlen : ∀ sig, parseMethodDescriptor y.desc = some sig → argsL.length = sig.parameters.length)
    (hstack : g.stack = argsL.reverse ++ .ref b :: rest) (hW : 2 * g.monitorRoom + (rest.map fun v => v.category).sum ≤ W9) (hdg : decode c.code g.pc = .ok (.invokevirtual index, 3))
    (hpre : ∀ vm₁, s.WarmedH vm₁ → Pre ⟨T.setVm vm₁, locs, cells, slots⟩ (Value.ref b :: argsL).toArray) :
    (∃ (v : Option Value) (vm₁ : Vm) (B : Pt), s.WarmedH vm₁ ∧ Stand p l e R s m args below meth c B.U B.locs B.cells B.slots ∧ Post ⟨T.setVm vm₁, locs, cells, slots⟩ (Value.ref b :: argsL).toArray v B ∧
      ∀ target, Steps p.tables e below (B.U.setTop { g with pc := g.pc + 3, stack := v.toList ++ rest }) target → Steps p.tables e below (T.setTop g) target) ∨
    (∃ (q : Addr) (vm₁ : Vm) (B : Pt), s.WarmedH vm₁ ∧ Stand p l e R s m args below meth c B.U B.locs B.cells B.slots ∧ PostX ⟨T.setVm vm₁, locs, cells, slots⟩ (Value.ref b :: argsL).toArray q B ∧
      Steps p.tables e below (T.setTop g) ((B.U.setTop { g with stack := rest }).pushFrame (.throwing q))) := by
  obtain ⟨mk, methM, hnamed, hmethM, hstM, habM⟩ := Cond.instanceMethod_spec hinst
  obtain ⟨m8, methM', cM, hn8, hmethM', -, -, -, -, -, -, hsigM⟩ := Cond.codeWith_spec hcode
  cases Option.some.inj (hn8.symm.trans hnamed)
  cases hmethM.symm.trans hmethM'
  obtain ⟨c2, r2, m2, q1, q2, q3, q4, kP, hkP, hkPi⟩ := Cond.selects_spec hsel
  cases hcls.symm.trans q1
  cases (State.methodFound?_of_named hnamed hy).symm.trans q2
  cases hnamed.symm.trans q3
  have hselP : selectMethod e.platform s.vm cellB.cls mk = .method mk := by rw [Launch.admits_selectMethod X.admits]; exact q4
  obtain ⟨vm₁, X₁, hstep₁⟩ := X.invokevirtual hexec hown hlink hnamed hmethM hstM hkP hkPi hy (a := b) (cell := cellB) hcell
    (fun z h => by rw [h] at hobj; cases hobj) hselP hmethM habM hkP hkPi (g := g) hg (argsL := argsL) (rest := rest) (hlen _ hsigM) hstack hdg
  rcases hK m meth c ⟨T.setVm vm₁, locs, cells, slots⟩ { g with stack := rest } (.invokevirtual index) mk (Value.ref b :: argsL).toArray X₁ hg hsize hdg hW (X₁.named hnamed) (hpre vm₁ X₁.warmed) with ⟨v, B, X', hpost, hsteps⟩ | ⟨q, B, X', hpost, hsteps⟩
  · exact Or.inl ⟨v, vm₁, B, X₁.warmed, X', hpost, fun target h => hstep₁ _ fun acts => by rw [doInvoke_state]; exact hsteps.trans h⟩
  · exact Or.inr ⟨q, vm₁, B, X₁.warmed, X', hpost, hstep₁ _ fun acts => by rw [doInvoke_state]; exact hsteps⟩
theorem vx_callSX (X : Stand p l e R s m args below meth c T locs cells slots) (hexec : p.tables.exec = Jvm.exec) {own : String} {index : Nat} {y : MethodName} {bytes : ByteArray} {maxL : Nat} {ret : Option FieldType} {hh : List (Nat × Nat × Nat × Nat)}
    (hown : s.vm.findClass own = some m.cls) (hlink : (Cond.methodLink own index y).before args s = true) (hstat : (Cond.static y).before args s = true) (hinit : (Cond.initialized y.cls).before args s = true)
    (hcode : (Cond.codeWith y bytes maxL ret hh).before args s = true) (hy : y.cls ≠ "java/lang/invoke/MethodHandle" ∧ y.cls ≠ "java/lang/invoke/VarHandle")
    {W9 : Nat} {Pre : Pt → Array Value → Prop} {Post : Pt → Array Value → Option Value → Pt → Prop} {PostX : Pt → Array Value → Addr → Pt → Prop} (hK : vx_Back l R p e below s args y 3 W9 Pre Post PostX)
    {g : JFrame} (hg : g.method = m) (hsize : g.locals.size = c.maxLocals) {argsL rest : List Value} (hlen : ∀ sig, parseMethodDescriptor y.desc = some sig → argsL.length = sig.parameters.length)
    (hstack : g.stack = argsL.reverse ++ rest) (hW : 2 * g.monitorRoom + (rest.map fun v => v.category).sum ≤ W9) (hdg : decode c.code g.pc = .ok (.invokestatic index, 3))
    (hpre : ∀ vm₁, s.WarmedH vm₁ → Pre ⟨T.setVm vm₁, locs, cells, slots⟩ argsL.toArray) :
    (∃ (v : Option Value) (vm₁ : Vm) (B : Pt), s.WarmedH vm₁ ∧ Stand p l e R s m args below meth c B.U B.locs B.cells B.slots ∧ Post ⟨T.setVm vm₁, locs, cells, slots⟩ argsL.toArray v B ∧
      ∀ target, Steps p.tables e below (B.U.setTop { g with pc := g.pc + 3, stack := v.toList ++ rest }) target → Steps p.tables e below (T.setTop g) target) ∨
    (∃ (q : Addr) (vm₁ : Vm) (B : Pt), s.WarmedH vm₁ ∧ Stand p l e R s m args below meth c B.U B.locs B.cells B.slots ∧ PostX ⟨T.setVm vm₁, locs, cells, slots⟩ argsL.toArray q B ∧
      Steps p.tables e below (T.setTop g) ((B.U.setTop { g with stack := rest }).pushFrame (.throwing q))) := by
  obtain ⟨mk, methM, cM, hnamed, hmethM, -, -, -, -, -, -, hsigM⟩ := Cond.codeWith_spec hcode
  have hstatic : methM.isStatic = true := Cond.static_spec hnamed hmethM hstat
  obtain ⟨kP, hkP, -⟩ := className_of_methodNamed hnamed
  have hinitP : kP.init = .initialized := Cond.initialized_spec (findClass_of_methodNamed hnamed) hkP hinit
  obtain ⟨vm₁, X₁, hstep₁⟩ := X.invokestatic hexec hown hlink hnamed hmethM hstatic hkP hinitP hy (g := g) hg (argsL := argsL) (rest := rest) (hlen _ hsigM) hstack hdg
  rcases hK m meth c ⟨T.setVm vm₁, locs, cells, slots⟩ { g with stack := rest } (.invokestatic index) mk argsL.toArray X₁ hg hsize hdg hW (X₁.named hnamed) (hpre vm₁ X₁.warmed) with ⟨v, B, X', hpost, hsteps⟩ | ⟨q, B, X', hpost, hsteps⟩
  · exact Or.inl ⟨v, vm₁, B, X₁.warmed, X', hpost, fun target h => hstep₁ _ fun acts => by rw [doInvoke_state]; exact hsteps.trans h⟩
  · exact Or.inr ⟨q, vm₁, B, X₁.warmed, X', hpost, hstep₁ _ fun acts => by rw [doInvoke_state]; exact hsteps⟩
theorem vx_callVW (X : Stand p l e R s m args below meth c T locs cells slots) (hexec : p.tables.exec = Jvm.exec) {own C : String} {index : Nat} {y : MethodName} {bytes : ByteArray} {maxL : Nat} {ret : Option FieldType} {hh : List (Nat × Nat × Nat × Nat)}
    (hown : s.vm.findClass own = some m.cls) (hlink : (Cond.methodLink own index y).before args s = true) (hinst : (Cond.instanceMethod y).before args s = true) (hsel : (Cond.selects C y y).before args s = true)
    (hcode : (Cond.codeWith y bytes maxL ret hh).before args s = true) (hy : y.cls ≠ "java/lang/invoke/MethodHandle" ∧ y.cls ≠ "java/lang/invoke/VarHandle")
    {W9 : Nat} {Pre : Pt → Array Value → Prop} {Post : Pt → Array Value → Option Value → Pt → Prop} (hK : Back l R p e below s args y 3 W9 Pre Post)
    {b : Addr} {cellB : Cell} (hcell : T.heap[b]? = some cellB) (hobj : cellB.vm.isStatics = false) (hcls : s.vm.findClass C = some cellB.cls)
    {g : JFrame} (hg : g.method = m) (hsize : g.locals.size = c.maxLocals) {argsL rest : List Value} (hlen : ∀ sig, parseMethodDescriptor y.desc = some sig → argsL.length = sig.parameters.length)
    (hstack : g.stack = argsL.reverse ++ .ref b :: rest) (hW : 2 * g.monitorRoom + (rest.map fun v => v.category).sum ≤ W9) (hdg : decode c.code g.pc = .ok (.invokevirtual index, 3))
    (hpre : ∀ vm₁, s.WarmedH vm₁ → Pre ⟨T.setVm vm₁, locs, cells, slots⟩ (Value.ref b :: argsL).toArray) :
    ∃ (v : Option Value) (vm₁ : Vm) (B : Pt), s.WarmedH vm₁ ∧ Stand p l e R s m args below meth c B.U B.locs B.cells B.slots ∧ Post ⟨T.setVm vm₁, locs, cells, slots⟩ (Value.ref b :: argsL).toArray v B ∧
      ∀ target, Steps p.tables e below (B.U.setTop { g with pc := g.pc + 3, stack := v.toList ++ rest }) target → Steps p.tables e below (T.setTop g) target := by
  obtain ⟨mk, methM, hnamed, hmethM, hstM, habM⟩ := Cond.instanceMethod_spec hinst
  obtain ⟨m8, methM', cM, hn8, hmethM', -, -, -, -, -, -, hsigM⟩ := Cond.codeWith_spec hcode
  cases Option.some.inj (hn8.symm.trans hnamed)
  cases hmethM.symm.trans hmethM'
  obtain ⟨c2, r2, m2, q1, q2, q3, q4, kP, hkP, hkPi⟩ := Cond.selects_spec hsel
  cases hcls.symm.trans q1
  cases (State.methodFound?_of_named hnamed hy).symm.trans q2
  cases hnamed.symm.trans q3
  have hselP : selectMethod e.platform s.vm cellB.cls mk = .method mk := by rw [Launch.admits_selectMethod X.admits]; exact q4
  obtain ⟨vm₁, X₁, hstep₁⟩ := X.invokevirtual hexec hown hlink hnamed hmethM hstM hkP hkPi hy (a := b) (cell := cellB) hcell
    (fun z h => by rw [h] at hobj; cases hobj) hselP hmethM habM hkP hkPi (g := g) hg (argsL := argsL) (rest := rest) (hlen _ hsigM) hstack hdg
  obtain ⟨v, B, X', hpost, hsteps⟩ := hK m meth c ⟨T.setVm vm₁, locs, cells, slots⟩ { g with stack := rest } (.invokevirtual index) mk (Value.ref b :: argsL).toArray X₁ hg hsize hdg hW (X₁.named hnamed) (hpre vm₁ X₁.warmed)
  exact ⟨v, vm₁, B, X₁.warmed, X', hpost, fun target h => hstep₁ _ fun acts => by rw [doInvoke_state]; exact hsteps.trans h⟩
abbrev vx_CVW (R : Room) (s : State) (args : Array Value) (own C : String) (index : Nat) (y : MethodName) (bytes : ByteArray) (maxL : Nat) (ret : Option FieldType) (hh : List (Nat × Nat × Nat × Nat)) (ws : List Cond) (rm : Room) (mc ms n : Nat) : Prop :=
  (rm.cells = mc ∧ rm.slots = ms ∧ rm.frames + 1 ≤ R.frames ∧ 8 + (maxL + 11) + rm.locals ≤ R.locals ∧ (∀ w ∈ ws, ∀ (a' : Array Value) (U : State), s.WarmedH U.vm → w.before a' U = true) ∧ Cond.codeWith y bytes maxL ret hh ∈ ws) ∧
  (Cond.codeWith y bytes maxL ret hh).before args s = true ∧ (Cond.initialized y.cls).before args s = true ∧ (y.cls ≠ "java/lang/invoke/MethodHandle" ∧ y.cls ≠ "java/lang/invoke/VarHandle") ∧
  (∀ sig, parseMethodDescriptor y.desc = some sig → n = sig.parameters.length) ∧ (Cond.methodLink own index y).before args s = true ∧ (Cond.instanceMethod y).before args s = true ∧ (Cond.selects C y y).before args s = true
theorem vx_cwVW {own C : String} {index maxL mc ms : Nat} {y : MethodName} {bytes : ByteArray} {ret : Option FieldType} {hh : List (Nat × Nat × Nat × Nat)} {Ts ws ws' : List Cond} {rm : Room} (n : Nat) (ht : ∀ w ∈ Ts, w.before args s = true) (hT : GoodIn Ts (wsV own index C y ws)) (hw : ws = Cond.codeWith y bytes maxL ret hh :: ws') (hrc : rm.cells = mc) (hrs : rm.slots = ms)
    (hd : y.cls = C ∧ y.cls ≠ "java/lang/invoke/MethodHandle" ∧ y.cls ≠ "java/lang/invoke/VarHandle" ∧ (parseMethodDescriptor y.desc).map (fun d => d.parameters.length) = some n) (hR : rm.frames + 1 ≤ R.frames ∧ 8 + (maxL + 11) + rm.locals ≤ R.locals) :
    vx_CVW R s args own C index y bytes maxL ret hh ws rm mc ms n := by
  obtain ⟨hC, hd⟩ := hd
  subst hC
  have ok : ∀ w ∈ wsV own index y.cls y ws, w.before args s = true := fun w h => ht w (hT w h).1
  have hG : GoodIn Ts ws := fun w h => hT w (by unfold wsV; exact List.mem_append_right _ h)
  have hc : Cond.codeWith y bytes maxL ret hh ∈ ws := by rw [hw]; exact List.mem_cons_self
  refine ⟨⟨hrc, hrs, hR.1, hR.2, pay_in ht hG, hc⟩, ht _ (hG _ hc).1, ok _ (by simp [wsV]), ⟨hd.1, hd.2.1⟩, fun sig h => ?_, ok _ (by simp [wsV]), ok _ (by simp [wsV]), ok _ (by simp [wsV])⟩
  have h2 := hd.2.2
  rw [h] at h2
  exact (Option.some.inj h2).symm
theorem vx_runVW {y : MethodName} {bytes cc : ByteArray} {maxL nL mc ms n index : Nat} {ret : Option FieldType} {hh : List (Nat × Nat × Nat × Nat)} {ws : List Cond} {rm : Room} {Pc : Array Value → State → Prop} {Qc : Array Value → State → Outcome → State → Prop} {free : Addr → Prop} {Ts : List Cond} {own C : String} {b : Addr} {As rest : List Value} {g : JFrame}
    (S : CallFix p m c cc nL s args Ts own) (hM : Met l y ws rm Pc Qc mc ms free) (cw : vx_CVW R s args own C index y bytes maxL ret hh ws rm mc ms n) (hp : PreV s H C b Pc As)
    (hg : g.method = m) (hn : As.length = n) (hsize : g.locals.size = nL) (hstack : g.stack = As.reverse ++ .ref b :: rest) (hW : 2 * g.monitorRoom + (rest.map fun v => v.category).sum ≤ 8) (hdg : decode cc g.pc = .ok (.invokevirtual index, 3)) (hf : cells + mc ≤ R.cells ∧ slots + ms ≤ R.slots) :
    va_Run p l e R s m args below meth c H locs cells slots mc ms g rest (Qc (Value.ref b :: As).toArray) free := by
  obtain ⟨⟨hrc, hrs, hfr, hlo, hws, hcw⟩, hcode, hini, hy, hlen, hl, hin, hse⟩ := cw
  have hK : Back l R p e below s args y 3 8 (PreOf R mc ms Pc) (PostOf Qc mc ms free) := va_backW (hh := hh) (bytes := bytes) (maxL := maxL) (ret := ret) hM hp.1 hrc hrs hfr hlo hws hcw (fun a' U hW => word_at hW (Or.inl (by first | rfl | simp [Cond.onTables, Cond.keeps, Cond.steady])) hini)
  obtain ⟨hx, hb, hml, ho, -⟩ := S
  obtain ⟨-, ⟨cellB, hcB, hoB, hclB⟩, hPc⟩ := hp
  intro T hT X
  obtain ⟨v, vm₁, ⟨U', l2, c2, s2⟩, hW₁, X', ⟨g', mk, t, L, e1, e2, hq, h1, hL, h2, h3⟩, st⟩ := vx_callVW X hx (C := C) (hh := hh) (bytes := bytes) (maxL := maxL) (ret := ret) ho hl hin hse hcode hy hK (by rw [hT]; exact hcB) hoB hclB hg (hsize.trans hml.symm) (argsL := As) (rest := rest) (fun sig h => hn.trans (hlen sig h)) hstack hW (by rw [hb]; exact hdg)
    (fun vm₁ hW₁ => ⟨hf.1, hf.2, hPc (T.setVm vm₁) hT hW₁⟩)
  dsimp only [Pt.U, Pt.locs, Pt.cells, Pt.slots] at X' e1 e2 h1 h2 h3 st
  subst h1; subst h2; subst h3
  exact ⟨v, (T.setVm vm₁).calling g' mk (Value.ref b :: As).toArray, t, U', L, hT, X', hL, e1, e2, hq, st⟩
section
variable {y : MethodName} {bytes cc : ByteArray} {maxL nL mc ms n index : Nat} {ret : Option FieldType} {ws : List Cond} {rm : Room} {Pc : Array Value → State → Prop} {Qc : Array Value → State → Outcome → State → Prop} {XC : String → State → State → Prop} {free : Addr → Prop} {Ts : List Cond} {own C : String} {b : Addr} {As rest : List Value} {g : JFrame}
theorem vx_runVX {hh : List (Nat × Nat × Nat × Nat)} (S : CallFix p m c cc nL s args Ts own) (hM : vx_Met l y ws rm Pc Qc XC mc ms free) (cw : vx_CVW R s args own C index y bytes maxL ret hh ws rm mc ms n) (hp : PreV s H C b Pc As)
    (hg : g.method = m) (hn : As.length = n) (hsize : g.locals.size = nL) (hstack : g.stack = As.reverse ++ .ref b :: rest) (hW : 2 * g.monitorRoom + (rest.map fun v => v.category).sum ≤ 8) (hdg : decode cc g.pc = .ok (.invokevirtual index, 3)) (hf : cells + mc ≤ R.cells ∧ slots + ms ≤ R.slots) :
    vx_Run p l e R s m args below meth c H locs cells slots mc ms g rest (Qc (Value.ref b :: As).toArray) XC free := by
  obtain ⟨⟨hrc, hrs, hfr, hlo, hws, hcw⟩, hcode, hini, hy, hlen, hl, hin, hse⟩ := cw
  have hK : vx_Back l R p e below s args y 3 8 (PreOf R mc ms Pc) (PostOf Qc mc ms free) (vx_Post XC mc ms free) := vx_backW (hh := hh) (bytes := bytes) (maxL := maxL) (ret := ret) hM hp.1 hrc hrs hfr hlo hws hcw (fun a' U hW => word_at hW (Or.inl (by first | rfl | simp [Cond.onTables, Cond.keeps, Cond.steady])) hini)
  obtain ⟨hx, hb, hml, ho, -⟩ := S
  obtain ⟨-, ⟨cellB, hcB, hoB, hclB⟩, hPc⟩ := hp
  intro T hT X
  rcases vx_callVX X hx (C := C) (hh := hh) (bytes := bytes) (maxL := maxL) (ret := ret) ho hl hin hse hcode hy hK (by rw [hT]; exact hcB) hoB hclB hg (hsize.trans hml.symm) (argsL := As) (rest := rest) (fun sig h => hn.trans (hlen sig h)) hstack hW (by rw [hb]; exact hdg)
    (fun vm₁ hW₁ => ⟨hf.1, hf.2, hPc (T.setVm vm₁) hT hW₁⟩) with ⟨v, vm₁, ⟨U', l2, c2, s2⟩, hW₁, X', ⟨g', mk, t, L, e1, e2, hq, h1, hL, h2, h3⟩, st⟩ | ⟨q, vm₁, ⟨U', l2, c2, s2⟩, hW₁, X', ⟨g', mk, t, L, E, ce, e1, e2, hq, hce, hcv, hcl, h1, hL, h2, h3⟩, st⟩
  · dsimp only [Pt.U, Pt.locs, Pt.cells, Pt.slots] at X' e1 e2 h1 h2 h3 st
    subst h1; subst h2; subst h3
    exact Or.inl ⟨v, (T.setVm vm₁).calling g' mk (Value.ref b :: As).toArray, t, U', L, hT, X', hL, e1, e2, hq, st⟩
  · dsimp only [Pt.U, Pt.locs, Pt.cells, Pt.slots] at X' e1 e2 h1 h2 h3 st hcl
    subst h1; subst h2; subst h3
    exact Or.inr ⟨q, (T.setVm vm₁).calling g' mk (Value.ref b :: As).toArray, t, U', L, E, ce, hT, X', hL, e1, e2, hq, hce, hcv, vx_cls hW₁ hcl, st⟩
theorem vx_runSX {hh : List (Nat × Nat × Nat × Nat)} (S : CallFix p m c cc nL s args Ts own) (hM : vx_Met l y ws rm Pc Qc XC mc ms free) (cw : vx_CSW R s args own index y bytes maxL ret hh ws rm mc ms n) (hp : PreS s H Pc As)
    (hg : g.method = m) (hn : As.length = n) (hsize : g.locals.size = nL) (hstack : g.stack = As.reverse ++ rest) (hW : 2 * g.monitorRoom + (rest.map fun v => v.category).sum ≤ 8) (hdg : decode cc g.pc = .ok (.invokestatic index, 3)) (hf : cells + mc ≤ R.cells ∧ slots + ms ≤ R.slots) :
    vx_Run p l e R s m args below meth c H locs cells slots mc ms g rest (Qc As.toArray) XC free := by
  obtain ⟨⟨hrc, hrs, hfr, hlo, hws, hcw⟩, hcode, hini, hy, hlen, hl, hstt⟩ := cw
  have hK : vx_Back l R p e below s args y 3 8 (PreOf R mc ms Pc) (PostOf Qc mc ms free) (vx_Post XC mc ms free) := vx_backW (hh := hh) (bytes := bytes) (maxL := maxL) (ret := ret) hM hp.1 hrc hrs hfr hlo hws hcw (fun a' U hW => word_at hW (Or.inl (by first | rfl | simp [Cond.onTables, Cond.keeps, Cond.steady])) hini)
  obtain ⟨hx, hb, hml, ho, -⟩ := S
  intro T hT X
  rcases vx_callSX X hx (hh := hh) (bytes := bytes) (maxL := maxL) (ret := ret) ho hl hstt hini hcode hy hK hg (hsize.trans hml.symm) (argsL := As) (rest := rest) (fun sig h => hn.trans (hlen sig h)) hstack hW (by rw [hb]; exact hdg)
    (fun vm₁ hW₁ => ⟨hf.1, hf.2, hp.2 (T.setVm vm₁) hT hW₁⟩) with ⟨v, vm₁, ⟨U', l2, c2, s2⟩, hW₁, X', ⟨g', mk, t, L, e1, e2, hq, h1, hL, h2, h3⟩, st⟩ | ⟨q, vm₁, ⟨U', l2, c2, s2⟩, hW₁, X', ⟨g', mk, t, L, E, ce, e1, e2, hq, hce, hcv, hcl, h1, hL, h2, h3⟩, st⟩
  · dsimp only [Pt.U, Pt.locs, Pt.cells, Pt.slots] at X' e1 e2 h1 h2 h3 st
    subst h1; subst h2; subst h3
    exact Or.inl ⟨v, (T.setVm vm₁).calling g' mk As.toArray, t, U', L, hT, X', hL, e1, e2, hq, st⟩
  · dsimp only [Pt.U, Pt.locs, Pt.cells, Pt.slots] at X' e1 e2 h1 h2 h3 st hcl
    subst h1; subst h2; subst h3
    exact Or.inr ⟨q, (T.setVm vm₁).calling g' mk As.toArray, t, U', L, E, ce, hT, X', hL, e1, e2, hq, hce, hcv, vx_cls hW₁ hcl, st⟩
end
end VXH
theorem vx_ofWH {l : Launch} {y : MethodName} {ws ws' : List Cond} {rm : Room} {Pc : Array Value → State → Prop} {Qc : Array Value → State → Outcome → State → Prop} {XC : String → State → State → Prop} {mc ms : Nat} {free : Addr → Prop} {cc : ByteArray} {maxL : Nat} {ret : Option FieldType} {hh : List (Nat × Nat × Nat × Nat)}
    (hy : plainName y.cls = true) (hw : ws = Cond.codeWith y cc maxL ret hh :: ws')
    (body : ∀ p e s m args below meth c s₁, BodyLoose p l y (headSpec ws rm) cc maxL ret e s m args below meth c s₁ → c.maxLocals = maxL → Pc args s →
      W p l e (headSpec ws rm).room s m args below meth c s.heap [] 0 0 (vx_MQ below Qc XC args s mc ms free) (entryFrame m args maxL)) : vx_Met l y ws rm Pc Qc XC mc ms free := by
  refine MetFree.of_bodyS (code := cc) (maxLocals := maxL) (ret := ret) hy ?_ ?_
  · intro args s m h hn
    obtain ⟨m9, meth, c, hn9, h1, h2, h3, h4, -, h5, h6, -⟩ := Cond.codeWith_spec (atoms_spec (ws := ws) h _ (by rw [hw]; exact List.mem_cons_self))
    cases hn.symm.trans hn9
    exact ⟨meth, c, h1, h2, h3, h4, h5, h6⟩
  · intro p e s m args below meth c s₁ B hml hP _
    have hh0 : s₁.heap = s.heap := by rw [B.state]; rfl
    obtain ⟨t, a1, o, b1, b2, b3⟩ := body p e s m args below meth c s₁ B hml hP s₁ hh0 (Stand.of_body B)
    exact ⟨t, o, a1, b1, b2, b3⟩
/-! ===== END ===== -/
/-- the words of the throws of the machine itself, without the four of the heap -/
def vx_atN (n : Nat) : List Cond := (Bundle.npeArmAtoms n).filter vx_no
def vx_atM (X : String) (names : List String) : List Cond := (Bundle.messageArmAtoms X names).filter vx_no
end
section
def RX0 : String := "Stagecargo$Piece"
def TX0 : u_T := fun k => match k with
  | 0 => ("Stagecargo$Piece", "weight", "I", false)
  | 1 => ("Stagecargo$Piece", "minutes", "I", false)
  | 2 => ("Stagecargo$Piece", "worth", "I", false)
  | 3 => ("Stagecargo$Piece", "truck", "I", false)
  | 4 => ("Stagecargo$Piece", "left", "I", false)
  | 5 => ("Stagecargo$Piece", "right", "I", false)
  | 6 => ("Stagecargo$Piece", "leftLoad", "I", false)
  | 7 => ("Stagecargo$Piece", "rightLoad", "I", false)
  | _ => ("Stagecargo$Piece", "needs", "I", false)
def tyX0 : Nat → FieldType := fun k => match k with
  | 0 => .int
  | 1 => .int
  | 2 => .int
  | 3 => .int
  | 4 => .int
  | 5 => .int
  | 6 => .int
  | 7 => .int
  | _ => .int
abbrev wsX00 : List Cond := u_ws RX0 TX0 9
theorem nmX0 : ∀ a, a < 9 → ∀ b, b < 9 → a ≠ b → (TX0 a).2.1 ≠ (TX0 b).2.1 := by decide +kernel
theorem tyX0_ok : ∀ k, k < 9 → parseFieldDescriptor (TX0 k).2.2.1 = some (tyX0 k) := by decide +kernel
abbrev cX0_init : ByteArray := prog_2_method_1_code
def yX0_init : MethodName := ⟨RX0, "<init>", "()V"⟩
abbrev cX0_isFixed : ByteArray := prog_2_method_2_code
def yX0_isFixed : MethodName := ⟨RX0, "isFixed", "()Z"⟩
abbrev cX0_loadAt : ByteArray := prog_2_method_3_code
def yX0_loadAt : MethodName := ⟨RX0, "loadAt", "(I)I"⟩
def RX1 : String := "Stagecargo$Point"
def TX1 : u_T := fun k => match k with
  | 0 => ("Stagecargo$Point", "place", "I", false)
  | _ => ("Stagecargo$Point", "limit", "I", false)
def tyX1 : Nat → FieldType := fun k => match k with
  | 0 => .int
  | _ => .int
abbrev wsX10 : List Cond := u_ws RX1 TX1 2
theorem nmX1 : ∀ a, a < 2 → ∀ b, b < 2 → a ≠ b → (TX1 a).2.1 ≠ (TX1 b).2.1 := by decide +kernel
theorem tyX1_ok : ∀ k, k < 2 → parseFieldDescriptor (TX1 k).2.2.1 = some (tyX1 k) := by decide +kernel
abbrev cX1_init : ByteArray := prog_3_method_1_code
def yX1_init : MethodName := ⟨RX1, "<init>", "()V"⟩
def RX2 : String := "Stagecargo$Rig"
def TX2 : u_T := fun k => match k with
  | 0 => ("Stagecargo$Rig", "order", "[I", true)
  | 1 => ("Stagecargo$Rig", "begins", "[I", true)
  | 2 => ("Stagecargo$Rig", "ends", "[I", true)
  | 3 => ("Stagecargo$Rig", "works", "[I", true)
  | 4 => ("Stagecargo$Rig", "loads", "[I", true)
  | 5 => ("Stagecargo$Rig", "size", "I", false)
  | 6 => ("Stagecargo$Rig", "members", "I", false)
  | _ => ("Stagecargo$Rig", "worth", "I", false)
def tyX2 : Nat → FieldType := fun k => match k with
  | 0 => .array .int
  | 1 => .array .int
  | 2 => .array .int
  | 3 => .array .int
  | 4 => .array .int
  | 5 => .int
  | 6 => .int
  | _ => .int
abbrev wsX20 : List Cond := u_ws RX2 TX2 8
theorem nmX2 : ∀ a, a < 8 → ∀ b, b < 8 → a ≠ b → (TX2 a).2.1 ≠ (TX2 b).2.1 := by decide +kernel
theorem tyX2_ok : ∀ k, k < 8 → parseFieldDescriptor (TX2 k).2.2.1 = some (tyX2 k) := by decide +kernel
abbrev cX2_init : ByteArray := prog_4_method_1_code
def yX2_init : MethodName := ⟨RX2, "<init>", "()V"⟩
abbrev cX2_lastMinute : ByteArray := prog_4_method_2_code
def yX2_lastMinute : MethodName := ⟨RX2, "lastMinute", "()I"⟩
abbrev cX2_workAtEnd : ByteArray := prog_4_method_3_code
def yX2_workAtEnd : MethodName := ⟨RX2, "workAtEnd", "()I"⟩
abbrev cX2_indexOf : ByteArray := prog_4_method_4_code
def yX2_indexOf : MethodName := ⟨RX2, "indexOf", "(I)I"⟩
abbrev cX2_isWorkedOn : ByteArray := prog_4_method_5_code
def yX2_isWorkedOn : MethodName := ⟨RX2, "isWorkedOn", "(I)Z"⟩
abbrev cX2_empty : ByteArray := prog_4_method_6_code
def yX2_empty : MethodName := ⟨RX2, "empty", "()V"⟩
abbrev cX2_copyFrom : ByteArray := prog_4_method_7_code
def yX2_copyFrom : MethodName := ⟨RX2, "copyFrom", "(LStagecargo$Rig;)V"⟩
def RX3 : String := "Stagecargo$Town"
def TX3 : u_T := fun k => match k with
  | 0 => ("Stagecargo$Town", "number", "I", true)
  | 1 => ("Stagecargo$Town", "allowance", "I", false)
  | 2 => ("Stagecargo$Town", "stretch", "I", false)
  | 3 => ("Stagecargo$Town", "pause", "I", false)
  | 4 => ("Stagecargo$Town", "curfew", "I", false)
  | 5 => ("Stagecargo$Town", "rate", "I", false)
  | 6 => ("Stagecargo$Town", "overtime", "I", false)
  | _ => ("Stagecargo$Town", "overtimeRate", "I", false)
def tyX3 : Nat → FieldType := fun k => match k with
  | 0 => .int
  | 1 => .int
  | 2 => .int
  | 3 => .int
  | 4 => .int
  | 5 => .int
  | 6 => .int
  | _ => .int
abbrev wsX30 : List Cond := u_ws RX3 TX3 8
theorem nmX3 : ∀ a, a < 8 → ∀ b, b < 8 → a ≠ b → (TX3 a).2.1 ≠ (TX3 b).2.1 := by decide +kernel
theorem tyX3_ok : ∀ k, k < 8 → parseFieldDescriptor (TX3 k).2.2.1 = some (tyX3 k) := by decide +kernel
abbrev cX3_init : ByteArray := prog_5_method_1_code
def yX3_init : MethodName := ⟨RX3, "<init>", "(I)V"⟩
abbrev cX3_allows : ByteArray := prog_5_method_2_code
def yX3_allows : MethodName := ⟨RX3, "allows", "(LStagecargo$Point;)I"⟩
def RX4 : String := "Stagecargo"
def TX4 : u_T := fun k => match k with
  | 0 => ("Stagecargo", "points", "[LStagecargo$Point;", true)
  | 1 => ("Stagecargo", "pieces", "[LStagecargo$Piece;", true)
  | 2 => ("Stagecargo", "towns", "[LStagecargo$Town;", true)
  | 3 => ("Stagecargo", "arrivals", "[I", true)
  | 4 => ("Stagecargo", "rig", "LStagecargo$Rig;", true)
  | 5 => ("Stagecargo", "trial", "LStagecargo$Rig;", true)
  | 6 => ("Stagecargo", "best", "LStagecargo$Rig;", true)
  | 7 => ("Stagecargo", "pointCount", "I", false)
  | 8 => ("Stagecargo", "pieceCount", "I", false)
  | 9 => ("Stagecargo", "townCount", "I", false)
  | 10 => ("Stagecargo", "present", "LStagecargo$Town;", false)
  | 11 => ("Stagecargo", "triedCount", "I", false)
  | _ => ("Stagecargo", "triedWorth", "I", false)
def tyX4 : Nat → FieldType := fun k => match k with
  | 0 => .array (.object "Stagecargo$Point")
  | 1 => .array (.object "Stagecargo$Piece")
  | 2 => .array (.object "Stagecargo$Town")
  | 3 => .array .int
  | 4 => .object "Stagecargo$Rig"
  | 5 => .object "Stagecargo$Rig"
  | 6 => .object "Stagecargo$Rig"
  | 7 => .int
  | 8 => .int
  | 9 => .int
  | 10 => .object "Stagecargo$Town"
  | 11 => .int
  | _ => .int
abbrev wsX40 : List Cond := u_ws RX4 TX4 13
theorem nmX4 : ∀ a, a < 13 → ∀ b, b < 13 → a ≠ b → (TX4 a).2.1 ≠ (TX4 b).2.1 := by decide +kernel
theorem tyX4_ok : ∀ k, k < 13 → parseFieldDescriptor (TX4 k).2.2.1 = some (tyX4 k) := by decide +kernel
abbrev cX4_init : ByteArray := prog_1_method_1_code
def yX4_init : MethodName := ⟨RX4, "<init>", "()V"⟩
abbrev cX4_addPoint : ByteArray := prog_1_method_2_code
def yX4_addPoint : MethodName := ⟨RX4, "addPoint", "(II)I"⟩
abbrev cX4_addPiece : ByteArray := prog_1_method_3_code
def yX4_addPiece : MethodName := ⟨RX4, "addPiece", "(IIII)I"⟩
abbrev cX4_fix : ByteArray := prog_1_method_4_code
def yX4_fix : MethodName := ⟨RX4, "fix", "(IIIII)I"⟩
abbrev cX4_need : ByteArray := prog_1_method_5_code
def yX4_need : MethodName := ⟨RX4, "need", "(II)I"⟩
abbrev cX4_setArrival : ByteArray := prog_1_method_6_code
def yX4_setArrival : MethodName := ⟨RX4, "setArrival", "(II)I"⟩
abbrev cX4_addTown : ByteArray := prog_1_method_7_code
def yX4_addTown : MethodName := ⟨RX4, "addTown", "(IIII)I"⟩
abbrev cX4_setRates : ByteArray := prog_1_method_8_code
def yX4_setRates : MethodName := ⟨RX4, "setRates", "(IIII)I"⟩
abbrev cX4_come : ByteArray := prog_1_method_9_code
def yX4_come : MethodName := ⟨RX4, "come", "(I)I"⟩
abbrev cX4_town : ByteArray := prog_1_method_10_code
def yX4_town : MethodName := ⟨RX4, "town", "()I"⟩
abbrev cX4_loadOn : ByteArray := prog_1_method_11_code
def yX4_loadOn : MethodName := ⟨RX4, "loadOn", "(II)I"⟩
abbrev cX4_mayBear : ByteArray := prog_1_method_12_code
def yX4_mayBear : MethodName := ⟨RX4, "mayBear", "(I)I"⟩
abbrev cX4_bears : ByteArray := prog_1_method_13_code
def yX4_bears : MethodName := ⟨RX4, "bears", "(I)I"⟩
abbrev cX4_reason : ByteArray := prog_1_method_14_code
def yX4_reason : MethodName := ⟨RX4, "reason", "(I)C"⟩
abbrev cX4_hang : ByteArray := prog_1_method_15_code
def yX4_hang : MethodName := ⟨RX4, "hang", "(I)I"⟩
abbrev cX4_takeDown : ByteArray := prog_1_method_16_code
def yX4_takeDown : MethodName := ⟨RX4, "takeDown", "()I"⟩
abbrev cX4_hung : ByteArray := prog_1_method_17_code
def yX4_hung : MethodName := ⟨RX4, "hung", "()I"⟩
abbrev cX4_hungAt : ByteArray := prog_1_method_18_code
def yX4_hungAt : MethodName := ⟨RX4, "hungAt", "(I)I"⟩
abbrev cX4_beginOf : ByteArray := prog_1_method_19_code
def yX4_beginOf : MethodName := ⟨RX4, "beginOf", "(I)I"⟩
abbrev cX4_end : ByteArray := prog_1_method_20_code
def yX4_end : MethodName := ⟨RX4, "end", "()I"⟩
abbrev cX4_work : ByteArray := prog_1_method_21_code
def yX4_work : MethodName := ⟨RX4, "work", "()I"⟩
abbrev cX4_cost : ByteArray := prog_1_method_22_code
def yX4_cost : MethodName := ⟨RX4, "cost", "()J"⟩
abbrev cX4_costByMinutes : ByteArray := prog_1_method_23_code
def yX4_costByMinutes : MethodName := ⟨RX4, "costByMinutes", "()J"⟩
abbrev cX4_bestWorth : ByteArray := prog_1_method_24_code
def yX4_bestWorth : MethodName := ⟨RX4, "bestWorth", "()I"⟩
abbrev cX4_bestByAll : ByteArray := prog_1_method_25_code
def yX4_bestByAll : MethodName := ⟨RX4, "bestByAll", "()I"⟩
abbrev cX4_bestEnd : ByteArray := prog_1_method_26_code
def yX4_bestEnd : MethodName := ⟨RX4, "bestEnd", "()I"⟩
abbrev cX4_bestCost : ByteArray := prog_1_method_27_code
def yX4_bestCost : MethodName := ⟨RX4, "bestCost", "()I"⟩
abbrev cX4_bestSize : ByteArray := prog_1_method_28_code
def yX4_bestSize : MethodName := ⟨RX4, "bestSize", "()I"⟩
abbrev cX4_bestAt : ByteArray := prog_1_method_29_code
def yX4_bestAt : MethodName := ⟨RX4, "bestAt", "(I)I"⟩
abbrev cX4_complete : ByteArray := prog_1_method_30_code
def yX4_complete : MethodName := ⟨RX4, "complete", "()I"⟩
abbrev cX4_completions : ByteArray := prog_1_method_31_code
def yX4_completions : MethodName := ⟨RX4, "completions", "()I"⟩
abbrev cX4_tightest : ByteArray := prog_1_method_32_code
def yX4_tightest : MethodName := ⟨RX4, "tightest", "()I"⟩
abbrev cX4_hungShare : ByteArray := prog_1_method_33_code
def yX4_hungShare : MethodName := ⟨RX4, "hungShare", "()F"⟩
abbrev cX4_meanLoad : ByteArray := prog_1_method_34_code
def yX4_meanLoad : MethodName := ⟨RX4, "meanLoad", "()D"⟩
abbrev cX4_isSound : ByteArray := prog_1_method_35_code
def yX4_isSound : MethodName := ⟨RX4, "isSound", "()Z"⟩
abbrev cX4_isOutside : ByteArray := prog_1_method_36_code
def yX4_isOutside : MethodName := ⟨RX4, "isOutside", "(III)Z"⟩
abbrev cX4_checkPoint : ByteArray := prog_1_method_37_code
def yX4_checkPoint : MethodName := ⟨RX4, "checkPoint", "(I)V"⟩
abbrev cX4_checkPiece : ByteArray := prog_1_method_38_code
def yX4_checkPiece : MethodName := ⟨RX4, "checkPiece", "(I)V"⟩
abbrev cX4_checkTown : ByteArray := prog_1_method_39_code
def yX4_checkTown : MethodName := ⟨RX4, "checkTown", "(I)V"⟩
abbrev cX4_checkNotHung : ByteArray := prog_1_method_40_code
def yX4_checkNotHung : MethodName := ⟨RX4, "checkNotHung", "(I)V"⟩
abbrev cX4_pieceAt : ByteArray := prog_1_method_41_code
def yX4_pieceAt : MethodName := ⟨RX4, "pieceAt", "(LStagecargo$Rig;I)I"⟩
abbrev cX4_isIn : ByteArray := prog_1_method_42_code
def yX4_isIn : MethodName := ⟨RX4, "isIn", "(II)Z"⟩
abbrev cX4_loadOfPart : ByteArray := prog_1_method_43_code
def yX4_loadOfPart : MethodName := ⟨RX4, "loadOfPart", "(II)I"⟩
abbrev cX4_allNeedsOf : ByteArray := prog_1_method_44_code
def yX4_allNeedsOf : MethodName := ⟨RX4, "allNeedsOf", "(I)I"⟩
abbrev cX4_isInUse : ByteArray := prog_1_method_45_code
def yX4_isInUse : MethodName := ⟨RX4, "isInUse", "(I)Z"⟩
abbrev cX4_leftAt : ByteArray := prog_1_method_46_code
def yX4_leftAt : MethodName := ⟨RX4, "leftAt", "(ILStagecargo$Town;)I"⟩
abbrev cX4_reasonAgainst : ByteArray := prog_1_method_47_code
def yX4_reasonAgainst : MethodName := ⟨RX4, "reasonAgainst", "(LStagecargo$Rig;I)C"⟩
abbrev cX4_overloads : ByteArray := prog_1_method_48_code
def yX4_overloads : MethodName := ⟨RX4, "overloads", "(LStagecargo$Rig;LStagecargo$Piece;LStagecargo$Town;)Z"⟩
abbrev cX4_workCarried : ByteArray := prog_1_method_49_code
def yX4_workCarried : MethodName := ⟨RX4, "workCarried", "(LStagecargo$Rig;LStagecargo$Piece;LStagecargo$Town;)I"⟩
abbrev cX4_beginNext : ByteArray := prog_1_method_50_code
def yX4_beginNext : MethodName := ⟨RX4, "beginNext", "(LStagecargo$Rig;LStagecargo$Piece;LStagecargo$Town;)I"⟩
abbrev cX4_workNext : ByteArray := prog_1_method_51_code
def yX4_workNext : MethodName := ⟨RX4, "workNext", "(LStagecargo$Rig;LStagecargo$Piece;LStagecargo$Town;)I"⟩
abbrev cX4_putOn : ByteArray := prog_1_method_52_code
def yX4_putOn : MethodName := ⟨RX4, "putOn", "(LStagecargo$Rig;ILStagecargo$Town;)V"⟩
abbrev cX4_takeLastOff : ByteArray := prog_1_method_53_code
def yX4_takeLastOff : MethodName := ⟨RX4, "takeLastOff", "(LStagecargo$Rig;)V"⟩
abbrev cX4_costByPieces : ByteArray := prog_1_method_54_code
def yX4_costByPieces : MethodName := ⟨RX4, "costByPieces", "(LStagecargo$Rig;)I"⟩
abbrev cX4_costMinuteByMinute : ByteArray := prog_1_method_55_code
def yX4_costMinuteByMinute : MethodName := ⟨RX4, "costMinuteByMinute", "()J"⟩
abbrev cX4_findBest : ByteArray := prog_1_method_56_code
def yX4_findBest : MethodName := ⟨RX4, "findBest", "()V"⟩
abbrev cX4_seekBest : ByteArray := prog_1_method_57_code
def yX4_seekBest : MethodName := ⟨RX4, "seekBest", "(LStagecargo;LStagecargo$Town;I)V"⟩
abbrev cX4_isBetter : ByteArray := prog_1_method_58_code
def yX4_isBetter : MethodName := ⟨RX4, "isBetter", "(LStagecargo$Rig;LStagecargo$Rig;)Z"⟩
abbrev cX4_mayLeadToBetter : ByteArray := prog_1_method_59_code
def yX4_mayLeadToBetter : MethodName := ⟨RX4, "mayLeadToBetter", "(LStagecargo$Town;)Z"⟩
abbrev cX4_mayComeLater : ByteArray := prog_1_method_60_code
def yX4_mayComeLater : MethodName := ⟨RX4, "mayComeLater", "(LStagecargo$Piece;LStagecargo$Town;)Z"⟩
abbrev cX4_tryAllCompletions : ByteArray := prog_1_method_61_code
def yX4_tryAllCompletions : MethodName := ⟨RX4, "tryAllCompletions", "()V"⟩
abbrev cX4_tryAllFrom : ByteArray := prog_1_method_62_code
def yX4_tryAllFrom : MethodName := ⟨RX4, "tryAllFrom", "(LStagecargo;I)V"⟩
abbrev cX4_noPointOverloaded : ByteArray := prog_1_method_63_code
def yX4_noPointOverloaded : MethodName := ⟨RX4, "noPointOverloaded", "(LStagecargo$Town;)Z"⟩
abbrev cX4_needsHungBefore : ByteArray := prog_1_method_64_code
def yX4_needsHungBefore : MethodName := ⟨RX4, "needsHungBefore", "()Z"⟩
def RX5 : String := "StagecargoModel"
def TX5 : u_T := fun k => match k with
  | 0 => ("StagecargoModel", "points", "I", false)
  | 1 => ("StagecargoModel", "places", "[I", true)
  | 2 => ("StagecargoModel", "limits", "[I", true)
  | 3 => ("StagecargoModel", "pieces", "I", false)
  | 4 => ("StagecargoModel", "weights", "[I", true)
  | 5 => ("StagecargoModel", "minutes", "[I", true)
  | 6 => ("StagecargoModel", "worths", "[I", true)
  | 7 => ("StagecargoModel", "trucks", "[I", true)
  | 8 => ("StagecargoModel", "areFixed", "[Z", true)
  | 9 => ("StagecargoModel", "lefts", "[I", true)
  | 10 => ("StagecargoModel", "rights", "[I", true)
  | 11 => ("StagecargoModel", "centres", "[I", true)
  | 12 => ("StagecargoModel", "angles", "[I", true)
  | 13 => ("StagecargoModel", "needs", "[I", true)
  | 14 => ("StagecargoModel", "arrivals", "[I", true)
  | 15 => ("StagecargoModel", "towns", "I", false)
  | 16 => ("StagecargoModel", "allowances", "[I", true)
  | 17 => ("StagecargoModel", "stretches", "[I", true)
  | 18 => ("StagecargoModel", "pauses", "[I", true)
  | 19 => ("StagecargoModel", "curfews", "[I", true)
  | 20 => ("StagecargoModel", "rates", "[I", true)
  | 21 => ("StagecargoModel", "overtimes", "[I", true)
  | 22 => ("StagecargoModel", "overtimeRates", "[I", true)
  | 23 => ("StagecargoModel", "town", "I", false)
  | 24 => ("StagecargoModel", "hung", "I", false)
  | 25 => ("StagecargoModel", "order", "[I", true)
  | 26 => ("StagecargoModel", "begins", "[I", true)
  | 27 => ("StagecargoModel", "works", "[I", true)
  | 28 => ("StagecargoModel", "rigs", "I", false)
  | 29 => ("StagecargoModel", "bestWorth", "I", false)
  | 30 => ("StagecargoModel", "bestEnd", "I", false)
  | 31 => ("StagecargoModel", "bestCost", "I", false)
  | 32 => ("StagecargoModel", "bestSize", "I", false)
  | 33 => ("StagecargoModel", "best", "[I", true)
  | _ => ("StagecargoModel", "code", "I", false)
def tyX5 : Nat → FieldType := fun k => match k with
  | 0 => .int
  | 1 => .array .int
  | 2 => .array .int
  | 3 => .int
  | 4 => .array .int
  | 5 => .array .int
  | 6 => .array .int
  | 7 => .array .int
  | 8 => .array .boolean
  | 9 => .array .int
  | 10 => .array .int
  | 11 => .array .int
  | 12 => .array .int
  | 13 => .array .int
  | 14 => .array .int
  | 15 => .int
  | 16 => .array .int
  | 17 => .array .int
  | 18 => .array .int
  | 19 => .array .int
  | 20 => .array .int
  | 21 => .array .int
  | 22 => .array .int
  | 23 => .int
  | 24 => .int
  | 25 => .array .int
  | 26 => .array .int
  | 27 => .array .int
  | 28 => .int
  | 29 => .int
  | 30 => .int
  | 31 => .int
  | 32 => .int
  | 33 => .array .int
  | _ => .int
abbrev wsX50 : List Cond := u_ws RX5 TX5 35
theorem nmX5 : ∀ a, a < 35 → ∀ b, b < 35 → a ≠ b → (TX5 a).2.1 ≠ (TX5 b).2.1 := by decide +kernel
theorem tyX5_ok : ∀ k, k < 35 → parseFieldDescriptor (TX5 k).2.2.1 = some (tyX5 k) := by decide +kernel
abbrev cX5_init : ByteArray := prog_7_method_1_code
def yX5_init : MethodName := ⟨RX5, "<init>", "()V"⟩
abbrev cX5_thrown : ByteArray := prog_7_method_2_code
def yX5_thrown : MethodName := ⟨RX5, "thrown", "()I"⟩
abbrev cX5_fails : ByteArray := prog_7_method_3_code
def yX5_fails : MethodName := ⟨RX5, "fails", "(I)Z"⟩
abbrev cX5_tells : ByteArray := prog_7_method_4_code
def yX5_tells : MethodName := ⟨RX5, "tells", "(I)I"⟩
abbrev cX5_in : ByteArray := prog_7_method_5_code
def yX5_in : MethodName := ⟨RX5, "in", "(III)Z"⟩
abbrev cX5_isNoPoint : ByteArray := prog_7_method_6_code
def yX5_isNoPoint : MethodName := ⟨RX5, "isNoPoint", "(I)Z"⟩
abbrev cX5_isNoPiece : ByteArray := prog_7_method_7_code
def yX5_isNoPiece : MethodName := ⟨RX5, "isNoPiece", "(I)Z"⟩
abbrev cX5_inRig : ByteArray := prog_7_method_8_code
def yX5_inRig : MethodName := ⟨RX5, "inRig", "(I)I"⟩
abbrev cX5_addPoint : ByteArray := prog_7_method_9_code
def yX5_addPoint : MethodName := ⟨RX5, "addPoint", "(II)I"⟩
abbrev cX5_addPiece : ByteArray := prog_7_method_10_code
def yX5_addPiece : MethodName := ⟨RX5, "addPiece", "(IIII)I"⟩
abbrev cX5_partOfRight : ByteArray := prog_7_method_11_code
def yX5_partOfRight : MethodName := ⟨RX5, "partOfRight", "(I)I"⟩
abbrev cX5_isFixing : ByteArray := prog_7_method_12_code
def yX5_isFixing : MethodName := ⟨RX5, "isFixing", "(IIII)Z"⟩
abbrev cX5_fix : ByteArray := prog_7_method_13_code
def yX5_fix : MethodName := ⟨RX5, "fix", "(IIIII)I"⟩
abbrev cX5_needsAtLast : ByteArray := prog_7_method_14_code
def yX5_needsAtLast : MethodName := ⟨RX5, "needsAtLast", "(II)Z"⟩
abbrev cX5_need : ByteArray := prog_7_method_15_code
def yX5_need : MethodName := ⟨RX5, "need", "(II)I"⟩
abbrev cX5_isBusy : ByteArray := prog_7_method_16_code
def yX5_isBusy : MethodName := ⟨RX5, "isBusy", "(I)Z"⟩
abbrev cX5_setArrival : ByteArray := prog_7_method_17_code
def yX5_setArrival : MethodName := ⟨RX5, "setArrival", "(II)I"⟩
abbrev cX5_addTown : ByteArray := prog_7_method_18_code
def yX5_addTown : MethodName := ⟨RX5, "addTown", "(IIII)I"⟩
abbrev cX5_isNoTown : ByteArray := prog_7_method_19_code
def yX5_isNoTown : MethodName := ⟨RX5, "isNoTown", "(I)Z"⟩
abbrev cX5_setRates : ByteArray := prog_7_method_20_code
def yX5_setRates : MethodName := ⟨RX5, "setRates", "(IIII)I"⟩
abbrev cX5_come : ByteArray := prog_7_method_21_code
def yX5_come : MethodName := ⟨RX5, "come", "(I)I"⟩
abbrev cX5_town : ByteArray := prog_7_method_22_code
def yX5_town : MethodName := ⟨RX5, "town", "()I"⟩
abbrev cX5_load : ByteArray := prog_7_method_23_code
def yX5_load : MethodName := ⟨RX5, "load", "(II)I"⟩
abbrev cX5_loadOn : ByteArray := prog_7_method_24_code
def yX5_loadOn : MethodName := ⟨RX5, "loadOn", "(II)I"⟩
abbrev cX5_may : ByteArray := prog_7_method_25_code
def yX5_may : MethodName := ⟨RX5, "may", "(I)I"⟩
abbrev cX5_mayBear : ByteArray := prog_7_method_26_code
def yX5_mayBear : MethodName := ⟨RX5, "mayBear", "(I)I"⟩
abbrev cX5_borne : ByteArray := prog_7_method_27_code
def yX5_borne : MethodName := ⟨RX5, "borne", "(I)I"⟩
abbrev cX5_bears : ByteArray := prog_7_method_28_code
def yX5_bears : MethodName := ⟨RX5, "bears", "(I)I"⟩
abbrev cX5_endOf : ByteArray := prog_7_method_29_code
def yX5_endOf : MethodName := ⟨RX5, "endOf", "(I)I"⟩
abbrev cX5_lastEnd : ByteArray := prog_7_method_30_code
def yX5_lastEnd : MethodName := ⟨RX5, "lastEnd", "()I"⟩
abbrev cX5_lastWork : ByteArray := prog_7_method_31_code
def yX5_lastWork : MethodName := ⟨RX5, "lastWork", "()I"⟩
abbrev cX5_isAnew : ByteArray := prog_7_method_32_code
def yX5_isAnew : MethodName := ⟨RX5, "isAnew", "(I)Z"⟩
abbrev cX5_beginNext : ByteArray := prog_7_method_33_code
def yX5_beginNext : MethodName := ⟨RX5, "beginNext", "(I)I"⟩
abbrev cX5_isTooMuch : ByteArray := prog_7_method_34_code
def yX5_isTooMuch : MethodName := ⟨RX5, "isTooMuch", "(I)Z"⟩
abbrev cX5_lacks : ByteArray := prog_7_method_35_code
def yX5_lacks : MethodName := ⟨RX5, "lacks", "(I)Z"⟩
abbrev cX5_why : ByteArray := prog_7_method_36_code
def yX5_why : MethodName := ⟨RX5, "why", "(I)C"⟩
abbrev cX5_reason : ByteArray := prog_7_method_37_code
def yX5_reason : MethodName := ⟨RX5, "reason", "(I)C"⟩
abbrev cX5_hangs : ByteArray := prog_7_method_38_code
def yX5_hangs : MethodName := ⟨RX5, "hangs", "(I)V"⟩
abbrev cX5_hang : ByteArray := prog_7_method_39_code
def yX5_hang : MethodName := ⟨RX5, "hang", "(I)I"⟩
abbrev cX5_takeDown : ByteArray := prog_7_method_40_code
def yX5_takeDown : MethodName := ⟨RX5, "takeDown", "()I"⟩
abbrev cX5_hung : ByteArray := prog_7_method_41_code
def yX5_hung : MethodName := ⟨RX5, "hung", "()I"⟩
abbrev cX5_hungAt : ByteArray := prog_7_method_42_code
def yX5_hungAt : MethodName := ⟨RX5, "hungAt", "(I)I"⟩
abbrev cX5_beginOf : ByteArray := prog_7_method_43_code
def yX5_beginOf : MethodName := ⟨RX5, "beginOf", "(I)I"⟩
abbrev cX5_end : ByteArray := prog_7_method_44_code
def yX5_end : MethodName := ⟨RX5, "end", "()I"⟩
abbrev cX5_work : ByteArray := prog_7_method_45_code
def yX5_work : MethodName := ⟨RX5, "work", "()I"⟩
abbrev cX5_costs : ByteArray := prog_7_method_46_code
def yX5_costs : MethodName := ⟨RX5, "costs", "()I"⟩
abbrev cX5_told : ByteArray := prog_7_method_47_code
def yX5_told : MethodName := ⟨RX5, "told", "()J"⟩
abbrev cX5_cost : ByteArray := prog_7_method_48_code
def yX5_cost : MethodName := ⟨RX5, "cost", "()J"⟩
abbrev cX5_costByMinutes : ByteArray := prog_7_method_49_code
def yX5_costByMinutes : MethodName := ⟨RX5, "costByMinutes", "()J"⟩
abbrev cX5_worth : ByteArray := prog_7_method_50_code
def yX5_worth : MethodName := ⟨RX5, "worth", "()I"⟩
abbrev cX5_isBetter : ByteArray := prog_7_method_51_code
def yX5_isBetter : MethodName := ⟨RX5, "isBetter", "()Z"⟩
abbrev cX5_tries : ByteArray := prog_7_method_52_code
def yX5_tries : MethodName := ⟨RX5, "tries", "()V"⟩
abbrev cX5_searches : ByteArray := prog_7_method_53_code
def yX5_searches : MethodName := ⟨RX5, "searches", "()V"⟩
abbrev cX5_bestOf : ByteArray := prog_7_method_54_code
def yX5_bestOf : MethodName := ⟨RX5, "bestOf", "(I)I"⟩
abbrev cX5_bestWorth : ByteArray := prog_7_method_55_code
def yX5_bestWorth : MethodName := ⟨RX5, "bestWorth", "()I"⟩
abbrev cX5_bestByAll : ByteArray := prog_7_method_56_code
def yX5_bestByAll : MethodName := ⟨RX5, "bestByAll", "()I"⟩
abbrev cX5_bestEnd : ByteArray := prog_7_method_57_code
def yX5_bestEnd : MethodName := ⟨RX5, "bestEnd", "()I"⟩
abbrev cX5_bestCost : ByteArray := prog_7_method_58_code
def yX5_bestCost : MethodName := ⟨RX5, "bestCost", "()I"⟩
abbrev cX5_bestSize : ByteArray := prog_7_method_59_code
def yX5_bestSize : MethodName := ⟨RX5, "bestSize", "()I"⟩
abbrev cX5_bestAt : ByteArray := prog_7_method_60_code
def yX5_bestAt : MethodName := ⟨RX5, "bestAt", "(I)I"⟩
abbrev cX5_complete : ByteArray := prog_7_method_61_code
def yX5_complete : MethodName := ⟨RX5, "complete", "()I"⟩
abbrev cX5_completions : ByteArray := prog_7_method_62_code
def yX5_completions : MethodName := ⟨RX5, "completions", "()I"⟩
abbrev cX5_tightest : ByteArray := prog_7_method_63_code
def yX5_tightest : MethodName := ⟨RX5, "tightest", "()I"⟩
abbrev cX5_hungShare : ByteArray := prog_7_method_64_code
def yX5_hungShare : MethodName := ⟨RX5, "hungShare", "()F"⟩
abbrev cX5_meanLoad : ByteArray := prog_7_method_65_code
def yX5_meanLoad : MethodName := ⟨RX5, "meanLoad", "()D"⟩
abbrev cX5_isSound : ByteArray := prog_7_method_66_code
def yX5_isSound : MethodName := ⟨RX5, "isSound", "()Z"⟩
def RJx145de : String := "java/io/Serializable"
def TJx145de : u_T := fun k => match k with
  | _ => ("", "", "", false)
def tyJx145de : Nat → FieldType := fun k => match k with
  | _ => .int
abbrev wsJx145de0 : List Cond := u_ws RJx145de TJx145de 0
theorem nmJx145de : ∀ a, a < 0 → ∀ b, b < 0 → a ≠ b → (TJx145de a).2.1 ≠ (TJx145de b).2.1 := by decide +kernel
theorem tyJx145de_ok : ∀ k, k < 0 → parseFieldDescriptor (TJx145de k).2.2.1 = some (tyJx145de k) := by decide +kernel
def RJx00060 : String := "java/lang/ArrayIndexOutOfBoundsException"
def TJx00060 : u_T := fun k => match k with
  | 0 => ("java/lang/Throwable", "backtrace", "Ljava/lang/Object;", false)
  | 1 => ("java/lang/Throwable", "detailMessage", "Ljava/lang/String;", false)
  | 2 => ("java/lang/Throwable", "cause", "Ljava/lang/Throwable;", false)
  | 3 => ("java/lang/Throwable", "stackTrace", "[Ljava/lang/StackTraceElement;", false)
  | 4 => ("java/lang/Throwable", "depth", "I", false)
  | _ => ("java/lang/Throwable", "suppressedExceptions", "Ljava/util/List;", false)
def tyJx00060 : Nat → FieldType := fun k => match k with
  | 0 => .object "java/lang/Object"
  | 1 => .object "java/lang/String"
  | 2 => .object "java/lang/Throwable"
  | 3 => .array (.object "java/lang/StackTraceElement")
  | 4 => .int
  | _ => .object "java/util/List"
abbrev wsJx000600 : List Cond := u_ws RJx00060 TJx00060 6
theorem nmJx00060 : ∀ a, a < 6 → ∀ b, b < 6 → a ≠ b → (TJx00060 a).2.1 ≠ (TJx00060 b).2.1 := by decide +kernel
theorem tyJx00060_ok : ∀ k, k < 6 → parseFieldDescriptor (TJx00060 k).2.2.1 = some (tyJx00060 k) := by decide +kernel
abbrev cJx00060_init_a7421 : ByteArray := prog_10_method_2_code
def yJx00060_init_a7421 : MethodName := ⟨RJx00060, "<init>", "(Ljava/lang/String;)V"⟩
def RJ6 : String := "java/lang/Integer"
def TJ6 : u_T := fun k => match k with
  | _ => ("", "", "", false)
def tyJ6 : Nat → FieldType := fun k => match k with
  | _ => .int
abbrev wsJ60 : List Cond := u_ws RJ6 TJ6 0
theorem nmJ6 : ∀ a, a < 0 → ∀ b, b < 0 → a ≠ b → (TJ6 a).2.1 ≠ (TJ6 b).2.1 := by decide +kernel
theorem tyJ6_ok : ∀ k, k < 0 → parseFieldDescriptor (TJ6 k).2.2.1 = some (tyJ6 k) := by decide +kernel
abbrev cJ6_bitCount_0f7a4 : ByteArray := prog_15_method_49_code
def yJ6_bitCount_0f7a4 : MethodName := ⟨RJ6, "bitCount", "(I)I"⟩
def RJ9 : String := "java/lang/Math"
def TJ9 : u_T := fun k => match k with
  | _ => ("", "", "", false)
def tyJ9 : Nat → FieldType := fun k => match k with
  | _ => .int
abbrev wsJ90 : List Cond := u_ws RJ9 TJ9 0
theorem nmJ9 : ∀ a, a < 0 → ∀ b, b < 0 → a ≠ b → (TJ9 a).2.1 ≠ (TJ9 b).2.1 := by decide +kernel
theorem tyJ9_ok : ∀ k, k < 0 → parseFieldDescriptor (TJ9 k).2.2.1 = some (tyJ9 k) := by decide +kernel
abbrev cJ9_max_7cf53 : ByteArray := prog_16_method_65_code
def yJ9_max_7cf53 : MethodName := ⟨RJ9, "max", "(II)I"⟩
abbrev cJ9_min_7cf53 : ByteArray := prog_16_method_69_code
def yJ9_min_7cf53 : MethodName := ⟨RJ9, "min", "(II)I"⟩
def RJ0 : String := "java/lang/String"
def TJ0 : u_T := fun k => match k with
  | 0 => ("java/lang/String", "value", "[B", true)
  | _ => ("java/lang/String", "coder", "B", true)
def tyJ0 : Nat → FieldType := fun k => match k with
  | 0 => .array .byte
  | _ => .byte
abbrev wsJ00 : List Cond := u_ws RJ0 TJ0 2
theorem nmJ0 : ∀ a, a < 2 → ∀ b, b < 2 → a ≠ b → (TJ0 a).2.1 ≠ (TJ0 b).2.1 := by decide +kernel
theorem tyJ0_ok : ∀ k, k < 2 → parseFieldDescriptor (TJ0 k).2.2.1 = some (tyJ0 k) := by decide +kernel
def RL : String := "StagecargoLaw"
abbrev cL_addPoint : ByteArray := method_3_code
def yL_addPoint : MethodName := ⟨RL, "addPoint", "(LStagecargo;II[J)I"⟩
abbrev cL_addPiece : ByteArray := method_4_code
def yL_addPiece : MethodName := ⟨RL, "addPiece", "(LStagecargo;IIII[J)I"⟩
abbrev cL_fix : ByteArray := method_5_code
def yL_fix : MethodName := ⟨RL, "fix", "(LStagecargo;IIIII[J)I"⟩
abbrev cL_need : ByteArray := method_6_code
def yL_need : MethodName := ⟨RL, "need", "(LStagecargo;II[J)I"⟩
abbrev cL_setArrival : ByteArray := method_7_code
def yL_setArrival : MethodName := ⟨RL, "setArrival", "(LStagecargo;II[J)I"⟩
abbrev cL_addTown : ByteArray := method_8_code
def yL_addTown : MethodName := ⟨RL, "addTown", "(LStagecargo;IIII[J)I"⟩
abbrev cL_setRates : ByteArray := method_9_code
def yL_setRates : MethodName := ⟨RL, "setRates", "(LStagecargo;IIII[J)I"⟩
abbrev cL_come : ByteArray := method_10_code
def yL_come : MethodName := ⟨RL, "come", "(LStagecargo;I[J)I"⟩
abbrev cL_town : ByteArray := method_11_code
def yL_town : MethodName := ⟨RL, "town", "(LStagecargo;[J)I"⟩
abbrev cL_loadOn : ByteArray := method_12_code
def yL_loadOn : MethodName := ⟨RL, "loadOn", "(LStagecargo;II[J)I"⟩
abbrev cL_mayBear : ByteArray := method_13_code
def yL_mayBear : MethodName := ⟨RL, "mayBear", "(LStagecargo;I[J)I"⟩
abbrev cL_bears : ByteArray := method_14_code
def yL_bears : MethodName := ⟨RL, "bears", "(LStagecargo;I[J)I"⟩
abbrev cL_reason : ByteArray := method_15_code
def yL_reason : MethodName := ⟨RL, "reason", "(LStagecargo;I[J)I"⟩
abbrev cL_hang : ByteArray := method_16_code
def yL_hang : MethodName := ⟨RL, "hang", "(LStagecargo;I[J)I"⟩
abbrev cL_takeDown : ByteArray := method_17_code
def yL_takeDown : MethodName := ⟨RL, "takeDown", "(LStagecargo;[J)I"⟩
abbrev cL_hungAt : ByteArray := method_18_code
def yL_hungAt : MethodName := ⟨RL, "hungAt", "(LStagecargo;I[J)I"⟩
abbrev cL_beginOf : ByteArray := method_19_code
def yL_beginOf : MethodName := ⟨RL, "beginOf", "(LStagecargo;I[J)I"⟩
abbrev cL_bestAt : ByteArray := method_20_code
def yL_bestAt : MethodName := ⟨RL, "bestAt", "(LStagecargo;I[J)I"⟩
abbrev cL_tightest : ByteArray := method_21_code
def yL_tightest : MethodName := ⟨RL, "tightest", "(LStagecargo;[J)I"⟩
abbrev cL_hungShare : ByteArray := method_22_code
def yL_hungShare : MethodName := ⟨RL, "hungShare", "(LStagecargo;[D)I"⟩
abbrev cL_meanLoad : ByteArray := method_23_code
def yL_meanLoad : MethodName := ⟨RL, "meanLoad", "(LStagecargo;[D)I"⟩
abbrev cL_law : ByteArray := code
def yL_law : MethodName := ⟨RL, "law", "([I)Z"⟩
end
section
theorem dX0_init_0 : decode cX0_init 0 = .ok (.aload_n 0, 1) := by decide +kernel
theorem dX0_init_1 : decode cX0_init 1 = .ok (.invokespecial 3, 3) := by decide +kernel
theorem dX0_init_4 : decode cX0_init 4 = .ok (.aload_n 0, 1) := by decide +kernel
theorem dX0_init_5 : decode cX0_init 5 = .ok (.iconst 0, 1) := by decide +kernel
theorem dX0_init_6 : decode cX0_init 6 = .ok (.putfield 9, 3) := by decide +kernel
theorem dX0_init_9 : decode cX0_init 9 = .ok (.aload_n 0, 1) := by decide +kernel
theorem dX0_init_10 : decode cX0_init 10 = .ok (.iconst 0, 1) := by decide +kernel
theorem dX0_init_11 : decode cX0_init 11 = .ok (.putfield 15, 3) := by decide +kernel
theorem dX0_init_14 : decode cX0_init 14 = .ok (.aload_n 0, 1) := by decide +kernel
theorem dX0_init_15 : decode cX0_init 15 = .ok (.iconst 0, 1) := by decide +kernel
theorem dX0_init_16 : decode cX0_init 16 = .ok (.putfield 18, 3) := by decide +kernel
theorem dX0_init_19 : decode cX0_init 19 = .ok (.aload_n 0, 1) := by decide +kernel
theorem dX0_init_20 : decode cX0_init 20 = .ok (.iconst 0, 1) := by decide +kernel
theorem dX0_init_21 : decode cX0_init 21 = .ok (.putfield 21, 3) := by decide +kernel
theorem dX0_init_24 : decode cX0_init 24 = .ok (.aload_n 0, 1) := by decide +kernel
theorem dX0_init_25 : decode cX0_init 25 = .ok (.iconst (-1), 1) := by decide +kernel
theorem dX0_init_26 : decode cX0_init 26 = .ok (.putfield 24, 3) := by decide +kernel
theorem dX0_init_29 : decode cX0_init 29 = .ok (.aload_n 0, 1) := by decide +kernel
theorem dX0_init_30 : decode cX0_init 30 = .ok (.iconst (-1), 1) := by decide +kernel
theorem dX0_init_31 : decode cX0_init 31 = .ok (.putfield 27, 3) := by decide +kernel
theorem dX0_init_34 : decode cX0_init 34 = .ok (.aload_n 0, 1) := by decide +kernel
theorem dX0_init_35 : decode cX0_init 35 = .ok (.iconst 0, 1) := by decide +kernel
theorem dX0_init_36 : decode cX0_init 36 = .ok (.putfield 30, 3) := by decide +kernel
theorem dX0_init_39 : decode cX0_init 39 = .ok (.aload_n 0, 1) := by decide +kernel
theorem dX0_init_40 : decode cX0_init 40 = .ok (.iconst 0, 1) := by decide +kernel
theorem dX0_init_41 : decode cX0_init 41 = .ok (.putfield 33, 3) := by decide +kernel
theorem dX0_init_44 : decode cX0_init 44 = .ok (.aload_n 0, 1) := by decide +kernel
theorem dX0_init_45 : decode cX0_init 45 = .ok (.iconst 0, 1) := by decide +kernel
theorem dX0_init_46 : decode cX0_init 46 = .ok (.putfield 36, 3) := by decide +kernel
theorem dX0_init_49 : decode cX0_init 49 = .ok (.return_, 1) := by decide +kernel
theorem dX0_isFixed_0 : decode cX0_isFixed 0 = .ok (.aload_n 0, 1) := by decide +kernel
theorem dX0_isFixed_1 : decode cX0_isFixed 1 = .ok (.getfield 24, 3) := by decide +kernel
theorem dX0_isFixed_4 : decode cX0_isFixed 4 = .ok (.ifCond .lt 14, 3) := by decide +kernel
theorem dX0_isFixed_7 : decode cX0_isFixed 7 = .ok (.aload_n 0, 1) := by decide +kernel
theorem dX0_isFixed_8 : decode cX0_isFixed 8 = .ok (.getfield 27, 3) := by decide +kernel
theorem dX0_isFixed_11 : decode cX0_isFixed 11 = .ok (.ifCond .lt 7, 3) := by decide +kernel
theorem dX0_isFixed_14 : decode cX0_isFixed 14 = .ok (.iconst 1, 1) := by decide +kernel
theorem dX0_isFixed_15 : decode cX0_isFixed 15 = .ok (.goto 4, 3) := by decide +kernel
theorem dX0_isFixed_18 : decode cX0_isFixed 18 = .ok (.iconst 0, 1) := by decide +kernel
theorem dX0_isFixed_19 : decode cX0_isFixed 19 = .ok (.ireturn, 1) := by decide +kernel
theorem dX0_loadAt_0 : decode cX0_loadAt 0 = .ok (.iload_n 1, 1) := by decide +kernel
theorem dX0_loadAt_1 : decode cX0_loadAt 1 = .ok (.aload_n 0, 1) := by decide +kernel
theorem dX0_loadAt_2 : decode cX0_loadAt 2 = .ok (.getfield 24, 3) := by decide +kernel
theorem dX0_loadAt_5 : decode cX0_loadAt 5 = .ok (.if_icmp .ne 8, 3) := by decide +kernel
theorem dX0_loadAt_8 : decode cX0_loadAt 8 = .ok (.aload_n 0, 1) := by decide +kernel
theorem dX0_loadAt_9 : decode cX0_loadAt 9 = .ok (.getfield 30, 3) := by decide +kernel
theorem dX0_loadAt_12 : decode cX0_loadAt 12 = .ok (.ireturn, 1) := by decide +kernel
theorem dX0_loadAt_13 : decode cX0_loadAt 13 = .ok (.iload_n 1, 1) := by decide +kernel
theorem dX0_loadAt_14 : decode cX0_loadAt 14 = .ok (.aload_n 0, 1) := by decide +kernel
theorem dX0_loadAt_15 : decode cX0_loadAt 15 = .ok (.getfield 27, 3) := by decide +kernel
theorem dX0_loadAt_18 : decode cX0_loadAt 18 = .ok (.if_icmp .ne 10, 3) := by decide +kernel
theorem dX0_loadAt_21 : decode cX0_loadAt 21 = .ok (.aload_n 0, 1) := by decide +kernel
theorem dX0_loadAt_22 : decode cX0_loadAt 22 = .ok (.getfield 33, 3) := by decide +kernel
theorem dX0_loadAt_25 : decode cX0_loadAt 25 = .ok (.goto 4, 3) := by decide +kernel
theorem dX0_loadAt_28 : decode cX0_loadAt 28 = .ok (.iconst 0, 1) := by decide +kernel
theorem dX0_loadAt_29 : decode cX0_loadAt 29 = .ok (.ireturn, 1) := by decide +kernel
theorem dX1_init_0 : decode cX1_init 0 = .ok (.aload_n 0, 1) := by decide +kernel
theorem dX1_init_1 : decode cX1_init 1 = .ok (.invokespecial 1, 3) := by decide +kernel
theorem dX1_init_4 : decode cX1_init 4 = .ok (.aload_n 0, 1) := by decide +kernel
theorem dX1_init_5 : decode cX1_init 5 = .ok (.iconst 0, 1) := by decide +kernel
theorem dX1_init_6 : decode cX1_init 6 = .ok (.putfield 7, 3) := by decide +kernel
theorem dX1_init_9 : decode cX1_init 9 = .ok (.aload_n 0, 1) := by decide +kernel
theorem dX1_init_10 : decode cX1_init 10 = .ok (.iconst 0, 1) := by decide +kernel
theorem dX1_init_11 : decode cX1_init 11 = .ok (.putfield 13, 3) := by decide +kernel
theorem dX1_init_14 : decode cX1_init 14 = .ok (.return_, 1) := by decide +kernel
theorem dX2_init_0 : decode cX2_init 0 = .ok (.aload_n 0, 1) := by decide +kernel
theorem dX2_init_1 : decode cX2_init 1 = .ok (.invokespecial 3, 3) := by decide +kernel
theorem dX2_init_4 : decode cX2_init 4 = .ok (.aload_n 0, 1) := by decide +kernel
theorem dX2_init_5 : decode cX2_init 5 = .ok (.bipush 6, 2) := by decide +kernel
theorem dX2_init_7 : decode cX2_init 7 = .ok (.newarray .int, 2) := by decide +kernel
theorem dX2_init_9 : decode cX2_init 9 = .ok (.putfield 9, 3) := by decide +kernel
theorem dX2_init_12 : decode cX2_init 12 = .ok (.aload_n 0, 1) := by decide +kernel
theorem dX2_init_13 : decode cX2_init 13 = .ok (.bipush 6, 2) := by decide +kernel
theorem dX2_init_15 : decode cX2_init 15 = .ok (.newarray .int, 2) := by decide +kernel
theorem dX2_init_17 : decode cX2_init 17 = .ok (.putfield 15, 3) := by decide +kernel
theorem dX2_init_20 : decode cX2_init 20 = .ok (.aload_n 0, 1) := by decide +kernel
theorem dX2_init_21 : decode cX2_init 21 = .ok (.bipush 6, 2) := by decide +kernel
theorem dX2_init_23 : decode cX2_init 23 = .ok (.newarray .int, 2) := by decide +kernel
theorem dX2_init_25 : decode cX2_init 25 = .ok (.putfield 18, 3) := by decide +kernel
theorem dX2_init_28 : decode cX2_init 28 = .ok (.aload_n 0, 1) := by decide +kernel
theorem dX2_init_29 : decode cX2_init 29 = .ok (.bipush 6, 2) := by decide +kernel
theorem dX2_init_31 : decode cX2_init 31 = .ok (.newarray .int, 2) := by decide +kernel
theorem dX2_init_33 : decode cX2_init 33 = .ok (.putfield 21, 3) := by decide +kernel
theorem dX2_init_36 : decode cX2_init 36 = .ok (.aload_n 0, 1) := by decide +kernel
theorem dX2_init_37 : decode cX2_init 37 = .ok (.bipush 8, 2) := by decide +kernel
theorem dX2_init_39 : decode cX2_init 39 = .ok (.newarray .int, 2) := by decide +kernel
theorem dX2_init_41 : decode cX2_init 41 = .ok (.putfield 24, 3) := by decide +kernel
theorem dX2_init_44 : decode cX2_init 44 = .ok (.aload_n 0, 1) := by decide +kernel
theorem dX2_init_45 : decode cX2_init 45 = .ok (.iconst 0, 1) := by decide +kernel
theorem dX2_init_46 : decode cX2_init 46 = .ok (.putfield 27, 3) := by decide +kernel
theorem dX2_init_49 : decode cX2_init 49 = .ok (.aload_n 0, 1) := by decide +kernel
theorem dX2_init_50 : decode cX2_init 50 = .ok (.iconst 0, 1) := by decide +kernel
theorem dX2_init_51 : decode cX2_init 51 = .ok (.putfield 31, 3) := by decide +kernel
theorem dX2_init_54 : decode cX2_init 54 = .ok (.aload_n 0, 1) := by decide +kernel
theorem dX2_init_55 : decode cX2_init 55 = .ok (.iconst 0, 1) := by decide +kernel
theorem dX2_init_56 : decode cX2_init 56 = .ok (.putfield 34, 3) := by decide +kernel
theorem dX2_init_59 : decode cX2_init 59 = .ok (.return_, 1) := by decide +kernel
theorem dX2_lastMinute_0 : decode cX2_lastMinute 0 = .ok (.aload_n 0, 1) := by decide +kernel
theorem dX2_lastMinute_1 : decode cX2_lastMinute 1 = .ok (.getfield 27, 3) := by decide +kernel
theorem dX2_lastMinute_4 : decode cX2_lastMinute 4 = .ok (.ifCond .le 17, 3) := by decide +kernel
theorem dX2_lastMinute_7 : decode cX2_lastMinute 7 = .ok (.aload_n 0, 1) := by decide +kernel
theorem dX2_lastMinute_8 : decode cX2_lastMinute 8 = .ok (.getfield 18, 3) := by decide +kernel
theorem dX2_lastMinute_11 : decode cX2_lastMinute 11 = .ok (.aload_n 0, 1) := by decide +kernel
theorem dX2_lastMinute_12 : decode cX2_lastMinute 12 = .ok (.getfield 27, 3) := by decide +kernel
theorem dX2_lastMinute_15 : decode cX2_lastMinute 15 = .ok (.iconst 1, 1) := by decide +kernel
theorem dX2_lastMinute_16 : decode cX2_lastMinute 16 = .ok (.isub, 1) := by decide +kernel
theorem dX2_lastMinute_17 : decode cX2_lastMinute 17 = .ok (.iaload, 1) := by decide +kernel
theorem dX2_lastMinute_18 : decode cX2_lastMinute 18 = .ok (.goto 4, 3) := by decide +kernel
theorem dX2_lastMinute_21 : decode cX2_lastMinute 21 = .ok (.iconst 0, 1) := by decide +kernel
theorem dX2_lastMinute_22 : decode cX2_lastMinute 22 = .ok (.ireturn, 1) := by decide +kernel
theorem dX2_workAtEnd_0 : decode cX2_workAtEnd 0 = .ok (.aload_n 0, 1) := by decide +kernel
theorem dX2_workAtEnd_1 : decode cX2_workAtEnd 1 = .ok (.getfield 27, 3) := by decide +kernel
theorem dX2_workAtEnd_4 : decode cX2_workAtEnd 4 = .ok (.ifCond .le 17, 3) := by decide +kernel
theorem dX2_workAtEnd_7 : decode cX2_workAtEnd 7 = .ok (.aload_n 0, 1) := by decide +kernel
theorem dX2_workAtEnd_8 : decode cX2_workAtEnd 8 = .ok (.getfield 21, 3) := by decide +kernel
theorem dX2_workAtEnd_11 : decode cX2_workAtEnd 11 = .ok (.aload_n 0, 1) := by decide +kernel
theorem dX2_workAtEnd_12 : decode cX2_workAtEnd 12 = .ok (.getfield 27, 3) := by decide +kernel
theorem dX2_workAtEnd_15 : decode cX2_workAtEnd 15 = .ok (.iconst 1, 1) := by decide +kernel
theorem dX2_workAtEnd_16 : decode cX2_workAtEnd 16 = .ok (.isub, 1) := by decide +kernel
theorem dX2_workAtEnd_17 : decode cX2_workAtEnd 17 = .ok (.iaload, 1) := by decide +kernel
theorem dX2_workAtEnd_18 : decode cX2_workAtEnd 18 = .ok (.goto 4, 3) := by decide +kernel
theorem dX2_workAtEnd_21 : decode cX2_workAtEnd 21 = .ok (.iconst 0, 1) := by decide +kernel
theorem dX2_workAtEnd_22 : decode cX2_workAtEnd 22 = .ok (.ireturn, 1) := by decide +kernel
theorem dX2_indexOf_0 : decode cX2_indexOf 0 = .ok (.iconst 0, 1) := by decide +kernel
theorem dX2_indexOf_1 : decode cX2_indexOf 1 = .ok (.istore_n 2, 1) := by decide +kernel
theorem dX2_indexOf_2 : decode cX2_indexOf 2 = .ok (.iload_n 2, 1) := by decide +kernel
theorem dX2_indexOf_3 : decode cX2_indexOf 3 = .ok (.aload_n 0, 1) := by decide +kernel
theorem dX2_indexOf_4 : decode cX2_indexOf 4 = .ok (.getfield 27, 3) := by decide +kernel
theorem dX2_indexOf_7 : decode cX2_indexOf 7 = .ok (.if_icmp .ge 21, 3) := by decide +kernel
theorem dX2_indexOf_10 : decode cX2_indexOf 10 = .ok (.aload_n 0, 1) := by decide +kernel
theorem dX2_indexOf_11 : decode cX2_indexOf 11 = .ok (.getfield 9, 3) := by decide +kernel
theorem dX2_indexOf_14 : decode cX2_indexOf 14 = .ok (.iload_n 2, 1) := by decide +kernel
theorem dX2_indexOf_15 : decode cX2_indexOf 15 = .ok (.iaload, 1) := by decide +kernel
theorem dX2_indexOf_16 : decode cX2_indexOf 16 = .ok (.iload_n 1, 1) := by decide +kernel
theorem dX2_indexOf_17 : decode cX2_indexOf 17 = .ok (.if_icmp .ne 5, 3) := by decide +kernel
theorem dX2_indexOf_20 : decode cX2_indexOf 20 = .ok (.iload_n 2, 1) := by decide +kernel
theorem dX2_indexOf_21 : decode cX2_indexOf 21 = .ok (.ireturn, 1) := by decide +kernel
theorem dX2_indexOf_22 : decode cX2_indexOf 22 = .ok (.iinc 2 1, 3) := by decide +kernel
theorem dX2_indexOf_25 : decode cX2_indexOf 25 = .ok (.goto (-23), 3) := by decide +kernel
theorem dX2_indexOf_28 : decode cX2_indexOf 28 = .ok (.iconst (-1), 1) := by decide +kernel
theorem dX2_indexOf_29 : decode cX2_indexOf 29 = .ok (.ireturn, 1) := by decide +kernel
theorem dX2_isWorkedOn_0 : decode cX2_isWorkedOn 0 = .ok (.iconst 0, 1) := by decide +kernel
theorem dX2_isWorkedOn_1 : decode cX2_isWorkedOn 1 = .ok (.istore_n 2, 1) := by decide +kernel
theorem dX2_isWorkedOn_2 : decode cX2_isWorkedOn 2 = .ok (.iload_n 2, 1) := by decide +kernel
theorem dX2_isWorkedOn_3 : decode cX2_isWorkedOn 3 = .ok (.aload_n 0, 1) := by decide +kernel
theorem dX2_isWorkedOn_4 : decode cX2_isWorkedOn 4 = .ok (.getfield 27, 3) := by decide +kernel
theorem dX2_isWorkedOn_7 : decode cX2_isWorkedOn 7 = .ok (.if_icmp .ge 31, 3) := by decide +kernel
theorem dX2_isWorkedOn_10 : decode cX2_isWorkedOn 10 = .ok (.iload_n 1, 1) := by decide +kernel
theorem dX2_isWorkedOn_11 : decode cX2_isWorkedOn 11 = .ok (.aload_n 0, 1) := by decide +kernel
theorem dX2_isWorkedOn_12 : decode cX2_isWorkedOn 12 = .ok (.getfield 15, 3) := by decide +kernel
theorem dX2_isWorkedOn_15 : decode cX2_isWorkedOn 15 = .ok (.iload_n 2, 1) := by decide +kernel
theorem dX2_isWorkedOn_16 : decode cX2_isWorkedOn 16 = .ok (.iaload, 1) := by decide +kernel
theorem dX2_isWorkedOn_17 : decode cX2_isWorkedOn 17 = .ok (.if_icmp .lt 15, 3) := by decide +kernel
theorem dX2_isWorkedOn_20 : decode cX2_isWorkedOn 20 = .ok (.iload_n 1, 1) := by decide +kernel
theorem dX2_isWorkedOn_21 : decode cX2_isWorkedOn 21 = .ok (.aload_n 0, 1) := by decide +kernel
theorem dX2_isWorkedOn_22 : decode cX2_isWorkedOn 22 = .ok (.getfield 18, 3) := by decide +kernel
theorem dX2_isWorkedOn_25 : decode cX2_isWorkedOn 25 = .ok (.iload_n 2, 1) := by decide +kernel
theorem dX2_isWorkedOn_26 : decode cX2_isWorkedOn 26 = .ok (.iaload, 1) := by decide +kernel
theorem dX2_isWorkedOn_27 : decode cX2_isWorkedOn 27 = .ok (.if_icmp .ge 5, 3) := by decide +kernel
theorem dX2_isWorkedOn_30 : decode cX2_isWorkedOn 30 = .ok (.iconst 1, 1) := by decide +kernel
theorem dX2_isWorkedOn_31 : decode cX2_isWorkedOn 31 = .ok (.ireturn, 1) := by decide +kernel
theorem dX2_isWorkedOn_32 : decode cX2_isWorkedOn 32 = .ok (.iinc 2 1, 3) := by decide +kernel
theorem dX2_isWorkedOn_35 : decode cX2_isWorkedOn 35 = .ok (.goto (-33), 3) := by decide +kernel
theorem dX2_isWorkedOn_38 : decode cX2_isWorkedOn 38 = .ok (.iconst 0, 1) := by decide +kernel
theorem dX2_isWorkedOn_39 : decode cX2_isWorkedOn 39 = .ok (.ireturn, 1) := by decide +kernel
theorem dX2_empty_0 : decode cX2_empty 0 = .ok (.aload_n 0, 1) := by decide +kernel
theorem dX2_empty_1 : decode cX2_empty 1 = .ok (.iconst 0, 1) := by decide +kernel
theorem dX2_empty_2 : decode cX2_empty 2 = .ok (.putfield 27, 3) := by decide +kernel
theorem dX2_empty_5 : decode cX2_empty 5 = .ok (.aload_n 0, 1) := by decide +kernel
theorem dX2_empty_6 : decode cX2_empty 6 = .ok (.iconst 0, 1) := by decide +kernel
theorem dX2_empty_7 : decode cX2_empty 7 = .ok (.putfield 31, 3) := by decide +kernel
theorem dX2_empty_10 : decode cX2_empty 10 = .ok (.aload_n 0, 1) := by decide +kernel
theorem dX2_empty_11 : decode cX2_empty 11 = .ok (.iconst 0, 1) := by decide +kernel
theorem dX2_empty_12 : decode cX2_empty 12 = .ok (.putfield 34, 3) := by decide +kernel
theorem dX2_empty_15 : decode cX2_empty 15 = .ok (.iconst 0, 1) := by decide +kernel
theorem dX2_empty_16 : decode cX2_empty 16 = .ok (.istore_n 1, 1) := by decide +kernel
theorem dX2_empty_17 : decode cX2_empty 17 = .ok (.iload_n 1, 1) := by decide +kernel
theorem dX2_empty_18 : decode cX2_empty 18 = .ok (.bipush 8, 2) := by decide +kernel
theorem dX2_empty_20 : decode cX2_empty 20 = .ok (.if_icmp .ge 16, 3) := by decide +kernel
theorem dX2_empty_23 : decode cX2_empty 23 = .ok (.aload_n 0, 1) := by decide +kernel
theorem dX2_empty_24 : decode cX2_empty 24 = .ok (.getfield 24, 3) := by decide +kernel
theorem dX2_empty_27 : decode cX2_empty 27 = .ok (.iload_n 1, 1) := by decide +kernel
theorem dX2_empty_28 : decode cX2_empty 28 = .ok (.iconst 0, 1) := by decide +kernel
theorem dX2_empty_29 : decode cX2_empty 29 = .ok (.iastore, 1) := by decide +kernel
theorem dX2_empty_30 : decode cX2_empty 30 = .ok (.iinc 1 1, 3) := by decide +kernel
theorem dX2_empty_33 : decode cX2_empty 33 = .ok (.goto (-16), 3) := by decide +kernel
theorem dX2_empty_36 : decode cX2_empty 36 = .ok (.return_, 1) := by decide +kernel
theorem dX2_copyFrom_0 : decode cX2_copyFrom 0 = .ok (.aload_n 0, 1) := by decide +kernel
theorem dX2_copyFrom_1 : decode cX2_copyFrom 1 = .ok (.aload_n 1, 1) := by decide +kernel
theorem dX2_copyFrom_2 : decode cX2_copyFrom 2 = .ok (.getfield 27, 3) := by decide +kernel
theorem dX2_copyFrom_5 : decode cX2_copyFrom 5 = .ok (.putfield 27, 3) := by decide +kernel
theorem dX2_copyFrom_8 : decode cX2_copyFrom 8 = .ok (.aload_n 0, 1) := by decide +kernel
theorem dX2_copyFrom_9 : decode cX2_copyFrom 9 = .ok (.aload_n 1, 1) := by decide +kernel
theorem dX2_copyFrom_10 : decode cX2_copyFrom 10 = .ok (.getfield 31, 3) := by decide +kernel
theorem dX2_copyFrom_13 : decode cX2_copyFrom 13 = .ok (.putfield 31, 3) := by decide +kernel
theorem dX2_copyFrom_16 : decode cX2_copyFrom 16 = .ok (.aload_n 0, 1) := by decide +kernel
theorem dX2_copyFrom_17 : decode cX2_copyFrom 17 = .ok (.aload_n 1, 1) := by decide +kernel
theorem dX2_copyFrom_18 : decode cX2_copyFrom 18 = .ok (.getfield 34, 3) := by decide +kernel
theorem dX2_copyFrom_21 : decode cX2_copyFrom 21 = .ok (.putfield 34, 3) := by decide +kernel
theorem dX2_copyFrom_24 : decode cX2_copyFrom 24 = .ok (.iconst 0, 1) := by decide +kernel
theorem dX2_copyFrom_25 : decode cX2_copyFrom 25 = .ok (.istore_n 2, 1) := by decide +kernel
theorem dX2_copyFrom_26 : decode cX2_copyFrom 26 = .ok (.iload_n 2, 1) := by decide +kernel
theorem dX2_copyFrom_27 : decode cX2_copyFrom 27 = .ok (.bipush 6, 2) := by decide +kernel
theorem dX2_copyFrom_29 : decode cX2_copyFrom 29 = .ok (.if_icmp .ge 57, 3) := by decide +kernel
theorem dX2_copyFrom_32 : decode cX2_copyFrom 32 = .ok (.aload_n 0, 1) := by decide +kernel
theorem dX2_copyFrom_33 : decode cX2_copyFrom 33 = .ok (.getfield 9, 3) := by decide +kernel
theorem dX2_copyFrom_36 : decode cX2_copyFrom 36 = .ok (.iload_n 2, 1) := by decide +kernel
theorem dX2_copyFrom_37 : decode cX2_copyFrom 37 = .ok (.aload_n 1, 1) := by decide +kernel
theorem dX2_copyFrom_38 : decode cX2_copyFrom 38 = .ok (.getfield 9, 3) := by decide +kernel
theorem dX2_copyFrom_41 : decode cX2_copyFrom 41 = .ok (.iload_n 2, 1) := by decide +kernel
theorem dX2_copyFrom_42 : decode cX2_copyFrom 42 = .ok (.iaload, 1) := by decide +kernel
theorem dX2_copyFrom_43 : decode cX2_copyFrom 43 = .ok (.iastore, 1) := by decide +kernel
theorem dX2_copyFrom_44 : decode cX2_copyFrom 44 = .ok (.aload_n 0, 1) := by decide +kernel
theorem dX2_copyFrom_45 : decode cX2_copyFrom 45 = .ok (.getfield 15, 3) := by decide +kernel
theorem dX2_copyFrom_48 : decode cX2_copyFrom 48 = .ok (.iload_n 2, 1) := by decide +kernel
theorem dX2_copyFrom_49 : decode cX2_copyFrom 49 = .ok (.aload_n 1, 1) := by decide +kernel
theorem dX2_copyFrom_50 : decode cX2_copyFrom 50 = .ok (.getfield 15, 3) := by decide +kernel
theorem dX2_copyFrom_53 : decode cX2_copyFrom 53 = .ok (.iload_n 2, 1) := by decide +kernel
theorem dX2_copyFrom_54 : decode cX2_copyFrom 54 = .ok (.iaload, 1) := by decide +kernel
theorem dX2_copyFrom_55 : decode cX2_copyFrom 55 = .ok (.iastore, 1) := by decide +kernel
theorem dX2_copyFrom_56 : decode cX2_copyFrom 56 = .ok (.aload_n 0, 1) := by decide +kernel
theorem dX2_copyFrom_57 : decode cX2_copyFrom 57 = .ok (.getfield 18, 3) := by decide +kernel
theorem dX2_copyFrom_60 : decode cX2_copyFrom 60 = .ok (.iload_n 2, 1) := by decide +kernel
theorem dX2_copyFrom_61 : decode cX2_copyFrom 61 = .ok (.aload_n 1, 1) := by decide +kernel
theorem dX2_copyFrom_62 : decode cX2_copyFrom 62 = .ok (.getfield 18, 3) := by decide +kernel
theorem dX2_copyFrom_65 : decode cX2_copyFrom 65 = .ok (.iload_n 2, 1) := by decide +kernel
theorem dX2_copyFrom_66 : decode cX2_copyFrom 66 = .ok (.iaload, 1) := by decide +kernel
theorem dX2_copyFrom_67 : decode cX2_copyFrom 67 = .ok (.iastore, 1) := by decide +kernel
theorem dX2_copyFrom_68 : decode cX2_copyFrom 68 = .ok (.aload_n 0, 1) := by decide +kernel
theorem dX2_copyFrom_69 : decode cX2_copyFrom 69 = .ok (.getfield 21, 3) := by decide +kernel
theorem dX2_copyFrom_72 : decode cX2_copyFrom 72 = .ok (.iload_n 2, 1) := by decide +kernel
theorem dX2_copyFrom_73 : decode cX2_copyFrom 73 = .ok (.aload_n 1, 1) := by decide +kernel
theorem dX2_copyFrom_74 : decode cX2_copyFrom 74 = .ok (.getfield 21, 3) := by decide +kernel
theorem dX2_copyFrom_77 : decode cX2_copyFrom 77 = .ok (.iload_n 2, 1) := by decide +kernel
theorem dX2_copyFrom_78 : decode cX2_copyFrom 78 = .ok (.iaload, 1) := by decide +kernel
theorem dX2_copyFrom_79 : decode cX2_copyFrom 79 = .ok (.iastore, 1) := by decide +kernel
theorem dX2_copyFrom_80 : decode cX2_copyFrom 80 = .ok (.iinc 2 1, 3) := by decide +kernel
theorem dX2_copyFrom_83 : decode cX2_copyFrom 83 = .ok (.goto (-57), 3) := by decide +kernel
theorem dX2_copyFrom_86 : decode cX2_copyFrom 86 = .ok (.iconst 0, 1) := by decide +kernel
theorem dX2_copyFrom_87 : decode cX2_copyFrom 87 = .ok (.istore_n 2, 1) := by decide +kernel
theorem dX2_copyFrom_88 : decode cX2_copyFrom 88 = .ok (.iload_n 2, 1) := by decide +kernel
theorem dX2_copyFrom_89 : decode cX2_copyFrom 89 = .ok (.bipush 8, 2) := by decide +kernel
theorem dX2_copyFrom_91 : decode cX2_copyFrom 91 = .ok (.if_icmp .ge 21, 3) := by decide +kernel
theorem dX2_copyFrom_94 : decode cX2_copyFrom 94 = .ok (.aload_n 0, 1) := by decide +kernel
theorem dX2_copyFrom_95 : decode cX2_copyFrom 95 = .ok (.getfield 24, 3) := by decide +kernel
theorem dX2_copyFrom_98 : decode cX2_copyFrom 98 = .ok (.iload_n 2, 1) := by decide +kernel
theorem dX2_copyFrom_99 : decode cX2_copyFrom 99 = .ok (.aload_n 1, 1) := by decide +kernel
theorem dX2_copyFrom_100 : decode cX2_copyFrom 100 = .ok (.getfield 24, 3) := by decide +kernel
theorem dX2_copyFrom_103 : decode cX2_copyFrom 103 = .ok (.iload_n 2, 1) := by decide +kernel
theorem dX2_copyFrom_104 : decode cX2_copyFrom 104 = .ok (.iaload, 1) := by decide +kernel
theorem dX2_copyFrom_105 : decode cX2_copyFrom 105 = .ok (.iastore, 1) := by decide +kernel
theorem dX2_copyFrom_106 : decode cX2_copyFrom 106 = .ok (.iinc 2 1, 3) := by decide +kernel
theorem dX2_copyFrom_109 : decode cX2_copyFrom 109 = .ok (.goto (-21), 3) := by decide +kernel
theorem dX2_copyFrom_112 : decode cX2_copyFrom 112 = .ok (.return_, 1) := by decide +kernel
theorem dX3_init_0 : decode cX3_init 0 = .ok (.aload_n 0, 1) := by decide +kernel
theorem dX3_init_1 : decode cX3_init 1 = .ok (.invokespecial 1, 3) := by decide +kernel
theorem dX3_init_4 : decode cX3_init 4 = .ok (.aload_n 0, 1) := by decide +kernel
theorem dX3_init_5 : decode cX3_init 5 = .ok (.iconst 0, 1) := by decide +kernel
theorem dX3_init_6 : decode cX3_init 6 = .ok (.putfield 7, 3) := by decide +kernel
theorem dX3_init_9 : decode cX3_init 9 = .ok (.aload_n 0, 1) := by decide +kernel
theorem dX3_init_10 : decode cX3_init 10 = .ok (.iconst 0, 1) := by decide +kernel
theorem dX3_init_11 : decode cX3_init 11 = .ok (.putfield 13, 3) := by decide +kernel
theorem dX3_init_14 : decode cX3_init 14 = .ok (.aload_n 0, 1) := by decide +kernel
theorem dX3_init_15 : decode cX3_init 15 = .ok (.iconst 0, 1) := by decide +kernel
theorem dX3_init_16 : decode cX3_init 16 = .ok (.putfield 16, 3) := by decide +kernel
theorem dX3_init_19 : decode cX3_init 19 = .ok (.aload_n 0, 1) := by decide +kernel
theorem dX3_init_20 : decode cX3_init 20 = .ok (.iconst 0, 1) := by decide +kernel
theorem dX3_init_21 : decode cX3_init 21 = .ok (.putfield 19, 3) := by decide +kernel
theorem dX3_init_24 : decode cX3_init 24 = .ok (.aload_n 0, 1) := by decide +kernel
theorem dX3_init_25 : decode cX3_init 25 = .ok (.iconst 0, 1) := by decide +kernel
theorem dX3_init_26 : decode cX3_init 26 = .ok (.putfield 22, 3) := by decide +kernel
theorem dX3_init_29 : decode cX3_init 29 = .ok (.aload_n 0, 1) := by decide +kernel
theorem dX3_init_30 : decode cX3_init 30 = .ok (.iconst 0, 1) := by decide +kernel
theorem dX3_init_31 : decode cX3_init 31 = .ok (.putfield 25, 3) := by decide +kernel
theorem dX3_init_34 : decode cX3_init 34 = .ok (.aload_n 0, 1) := by decide +kernel
theorem dX3_init_35 : decode cX3_init 35 = .ok (.iconst 0, 1) := by decide +kernel
theorem dX3_init_36 : decode cX3_init 36 = .ok (.putfield 28, 3) := by decide +kernel
theorem dX3_init_39 : decode cX3_init 39 = .ok (.aload_n 0, 1) := by decide +kernel
theorem dX3_init_40 : decode cX3_init 40 = .ok (.iload_n 1, 1) := by decide +kernel
theorem dX3_init_41 : decode cX3_init 41 = .ok (.putfield 31, 3) := by decide +kernel
theorem dX3_init_44 : decode cX3_init 44 = .ok (.return_, 1) := by decide +kernel
theorem dX3_allows_0 : decode cX3_allows 0 = .ok (.aload_n 1, 1) := by decide +kernel
theorem dX3_allows_1 : decode cX3_allows 1 = .ok (.getfield 34, 3) := by decide +kernel
theorem dX3_allows_4 : decode cX3_allows 4 = .ok (.aload_n 0, 1) := by decide +kernel
theorem dX3_allows_5 : decode cX3_allows 5 = .ok (.getfield 7, 3) := by decide +kernel
theorem dX3_allows_8 : decode cX3_allows 8 = .ok (.imul, 1) := by decide +kernel
theorem dX3_allows_9 : decode cX3_allows 9 = .ok (.bipush 100, 2) := by decide +kernel
theorem dX3_allows_11 : decode cX3_allows 11 = .ok (.idiv, 1) := by decide +kernel
theorem dX3_allows_12 : decode cX3_allows 12 = .ok (.ireturn, 1) := by decide +kernel
theorem dX4_init_0 : decode cX4_init 0 = .ok (.aload_n 0, 1) := by decide +kernel
theorem dX4_init_1 : decode cX4_init 1 = .ok (.invokespecial 1, 3) := by decide +kernel
theorem dX4_init_4 : decode cX4_init 4 = .ok (.aload_n 0, 1) := by decide +kernel
theorem dX4_init_5 : decode cX4_init 5 = .ok (.bipush 8, 2) := by decide +kernel
theorem dX4_init_7 : decode cX4_init 7 = .ok (.anewarray 9, 3) := by decide +kernel
theorem dX4_init_10 : decode cX4_init 10 = .ok (.putfield 11, 3) := by decide +kernel
theorem dX4_init_13 : decode cX4_init 13 = .ok (.aload_n 0, 1) := by decide +kernel
theorem dX4_init_14 : decode cX4_init 14 = .ok (.bipush 6, 2) := by decide +kernel
theorem dX4_init_16 : decode cX4_init 16 = .ok (.anewarray 15, 3) := by decide +kernel
theorem dX4_init_19 : decode cX4_init 19 = .ok (.putfield 17, 3) := by decide +kernel
theorem dX4_init_22 : decode cX4_init 22 = .ok (.aload_n 0, 1) := by decide +kernel
theorem dX4_init_23 : decode cX4_init 23 = .ok (.iconst 4, 1) := by decide +kernel
theorem dX4_init_24 : decode cX4_init 24 = .ok (.anewarray 21, 3) := by decide +kernel
theorem dX4_init_27 : decode cX4_init 27 = .ok (.putfield 23, 3) := by decide +kernel
theorem dX4_init_30 : decode cX4_init 30 = .ok (.aload_n 0, 1) := by decide +kernel
theorem dX4_init_31 : decode cX4_init 31 = .ok (.iconst 3, 1) := by decide +kernel
theorem dX4_init_32 : decode cX4_init 32 = .ok (.newarray .int, 2) := by decide +kernel
theorem dX4_init_34 : decode cX4_init 34 = .ok (.putfield 27, 3) := by decide +kernel
theorem dX4_init_37 : decode cX4_init 37 = .ok (.aload_n 0, 1) := by decide +kernel
theorem dX4_init_38 : decode cX4_init 38 = .ok (.new 31, 3) := by decide +kernel
theorem dX4_init_41 : decode cX4_init 41 = .ok (.dup, 1) := by decide +kernel
theorem dX4_init_42 : decode cX4_init 42 = .ok (.invokespecial 33, 3) := by decide +kernel
theorem dX4_init_45 : decode cX4_init 45 = .ok (.putfield 34, 3) := by decide +kernel
theorem dX4_init_48 : decode cX4_init 48 = .ok (.aload_n 0, 1) := by decide +kernel
theorem dX4_init_49 : decode cX4_init 49 = .ok (.new 31, 3) := by decide +kernel
theorem dX4_init_52 : decode cX4_init 52 = .ok (.dup, 1) := by decide +kernel
theorem dX4_init_53 : decode cX4_init 53 = .ok (.invokespecial 33, 3) := by decide +kernel
theorem dX4_init_56 : decode cX4_init 56 = .ok (.putfield 38, 3) := by decide +kernel
theorem dX4_init_59 : decode cX4_init 59 = .ok (.aload_n 0, 1) := by decide +kernel
theorem dX4_init_60 : decode cX4_init 60 = .ok (.new 31, 3) := by decide +kernel
theorem dX4_init_63 : decode cX4_init 63 = .ok (.dup, 1) := by decide +kernel
theorem dX4_init_64 : decode cX4_init 64 = .ok (.invokespecial 33, 3) := by decide +kernel
theorem dX4_init_67 : decode cX4_init 67 = .ok (.putfield 41, 3) := by decide +kernel
theorem dX4_init_70 : decode cX4_init 70 = .ok (.aload_n 0, 1) := by decide +kernel
theorem dX4_init_71 : decode cX4_init 71 = .ok (.iconst 0, 1) := by decide +kernel
theorem dX4_init_72 : decode cX4_init 72 = .ok (.putfield 44, 3) := by decide +kernel
theorem dX4_init_75 : decode cX4_init 75 = .ok (.aload_n 0, 1) := by decide +kernel
theorem dX4_init_76 : decode cX4_init 76 = .ok (.iconst 0, 1) := by decide +kernel
theorem dX4_init_77 : decode cX4_init 77 = .ok (.putfield 48, 3) := by decide +kernel
theorem dX4_init_80 : decode cX4_init 80 = .ok (.aload_n 0, 1) := by decide +kernel
theorem dX4_init_81 : decode cX4_init 81 = .ok (.iconst 0, 1) := by decide +kernel
theorem dX4_init_82 : decode cX4_init 82 = .ok (.putfield 51, 3) := by decide +kernel
theorem dX4_init_85 : decode cX4_init 85 = .ok (.aload_n 0, 1) := by decide +kernel
theorem dX4_init_86 : decode cX4_init 86 = .ok (.aconst_null, 1) := by decide +kernel
theorem dX4_init_87 : decode cX4_init 87 = .ok (.putfield 54, 3) := by decide +kernel
theorem dX4_init_90 : decode cX4_init 90 = .ok (.aload_n 0, 1) := by decide +kernel
theorem dX4_init_91 : decode cX4_init 91 = .ok (.iconst 0, 1) := by decide +kernel
theorem dX4_init_92 : decode cX4_init 92 = .ok (.putfield 58, 3) := by decide +kernel
theorem dX4_init_95 : decode cX4_init 95 = .ok (.aload_n 0, 1) := by decide +kernel
theorem dX4_init_96 : decode cX4_init 96 = .ok (.iconst 0, 1) := by decide +kernel
theorem dX4_init_97 : decode cX4_init 97 = .ok (.putfield 61, 3) := by decide +kernel
theorem dX4_init_100 : decode cX4_init 100 = .ok (.iconst 0, 1) := by decide +kernel
theorem dX4_init_101 : decode cX4_init 101 = .ok (.istore_n 1, 1) := by decide +kernel
theorem dX4_init_102 : decode cX4_init 102 = .ok (.iload_n 1, 1) := by decide +kernel
theorem dX4_init_103 : decode cX4_init 103 = .ok (.bipush 8, 2) := by decide +kernel
theorem dX4_init_105 : decode cX4_init 105 = .ok (.if_icmp .ge 22, 3) := by decide +kernel
theorem dX4_init_108 : decode cX4_init 108 = .ok (.aload_n 0, 1) := by decide +kernel
theorem dX4_init_109 : decode cX4_init 109 = .ok (.getfield 11, 3) := by decide +kernel
theorem dX4_init_112 : decode cX4_init 112 = .ok (.iload_n 1, 1) := by decide +kernel
theorem dX4_init_113 : decode cX4_init 113 = .ok (.new 9, 3) := by decide +kernel
theorem dX4_init_116 : decode cX4_init 116 = .ok (.dup, 1) := by decide +kernel
theorem dX4_init_117 : decode cX4_init 117 = .ok (.invokespecial 64, 3) := by decide +kernel
theorem dX4_init_120 : decode cX4_init 120 = .ok (.aastore, 1) := by decide +kernel
theorem dX4_init_121 : decode cX4_init 121 = .ok (.iinc 1 1, 3) := by decide +kernel
theorem dX4_init_124 : decode cX4_init 124 = .ok (.goto (-22), 3) := by decide +kernel
theorem dX4_init_127 : decode cX4_init 127 = .ok (.iconst 0, 1) := by decide +kernel
theorem dX4_init_128 : decode cX4_init 128 = .ok (.istore_n 1, 1) := by decide +kernel
theorem dX4_init_129 : decode cX4_init 129 = .ok (.iload_n 1, 1) := by decide +kernel
theorem dX4_init_130 : decode cX4_init 130 = .ok (.bipush 6, 2) := by decide +kernel
theorem dX4_init_132 : decode cX4_init 132 = .ok (.if_icmp .ge 22, 3) := by decide +kernel
theorem dX4_init_135 : decode cX4_init 135 = .ok (.aload_n 0, 1) := by decide +kernel
theorem dX4_init_136 : decode cX4_init 136 = .ok (.getfield 17, 3) := by decide +kernel
theorem dX4_init_139 : decode cX4_init 139 = .ok (.iload_n 1, 1) := by decide +kernel
theorem dX4_init_140 : decode cX4_init 140 = .ok (.new 15, 3) := by decide +kernel
theorem dX4_init_143 : decode cX4_init 143 = .ok (.dup, 1) := by decide +kernel
theorem dX4_init_144 : decode cX4_init 144 = .ok (.invokespecial 65, 3) := by decide +kernel
theorem dX4_init_147 : decode cX4_init 147 = .ok (.aastore, 1) := by decide +kernel
theorem dX4_init_148 : decode cX4_init 148 = .ok (.iinc 1 1, 3) := by decide +kernel
theorem dX4_init_151 : decode cX4_init 151 = .ok (.goto (-22), 3) := by decide +kernel
theorem dX4_init_154 : decode cX4_init 154 = .ok (.iconst 0, 1) := by decide +kernel
theorem dX4_init_155 : decode cX4_init 155 = .ok (.istore_n 1, 1) := by decide +kernel
theorem dX4_init_156 : decode cX4_init 156 = .ok (.iload_n 1, 1) := by decide +kernel
theorem dX4_init_157 : decode cX4_init 157 = .ok (.iconst 4, 1) := by decide +kernel
theorem dX4_init_158 : decode cX4_init 158 = .ok (.if_icmp .ge 23, 3) := by decide +kernel
theorem dX4_init_161 : decode cX4_init 161 = .ok (.aload_n 0, 1) := by decide +kernel
theorem dX4_init_162 : decode cX4_init 162 = .ok (.getfield 23, 3) := by decide +kernel
theorem dX4_init_165 : decode cX4_init 165 = .ok (.iload_n 1, 1) := by decide +kernel
theorem dX4_init_166 : decode cX4_init 166 = .ok (.new 21, 3) := by decide +kernel
theorem dX4_init_169 : decode cX4_init 169 = .ok (.dup, 1) := by decide +kernel
theorem dX4_init_170 : decode cX4_init 170 = .ok (.iload_n 1, 1) := by decide +kernel
theorem dX4_init_171 : decode cX4_init 171 = .ok (.invokespecial 66, 3) := by decide +kernel
theorem dX4_init_174 : decode cX4_init 174 = .ok (.aastore, 1) := by decide +kernel
theorem dX4_init_175 : decode cX4_init 175 = .ok (.iinc 1 1, 3) := by decide +kernel
theorem dX4_init_178 : decode cX4_init 178 = .ok (.goto (-22), 3) := by decide +kernel
theorem dX4_init_181 : decode cX4_init 181 = .ok (.return_, 1) := by decide +kernel
theorem dX4_addPoint_0 : decode cX4_addPoint 0 = .ok (.iload_n 1, 1) := by decide +kernel
theorem dX4_addPoint_1 : decode cX4_addPoint 1 = .ok (.iconst 0, 1) := by decide +kernel
theorem dX4_addPoint_2 : decode cX4_addPoint 2 = .ok (.bipush 60, 2) := by decide +kernel
theorem dX4_addPoint_4 : decode cX4_addPoint 4 = .ok (.invokestatic 69, 3) := by decide +kernel
theorem dX4_addPoint_7 : decode cX4_addPoint 7 = .ok (.ifCond .ne 15, 3) := by decide +kernel
theorem dX4_addPoint_10 : decode cX4_addPoint 10 = .ok (.iload_n 2, 1) := by decide +kernel
theorem dX4_addPoint_11 : decode cX4_addPoint 11 = .ok (.bipush 100, 2) := by decide +kernel
theorem dX4_addPoint_13 : decode cX4_addPoint 13 = .ok (.sipush 5000, 3) := by decide +kernel
theorem dX4_addPoint_16 : decode cX4_addPoint 16 = .ok (.invokestatic 69, 3) := by decide +kernel
theorem dX4_addPoint_19 : decode cX4_addPoint 19 = .ok (.ifCond .eq 13, 3) := by decide +kernel
theorem dX4_addPoint_22 : decode cX4_addPoint 22 = .ok (.new 73, 3) := by decide +kernel
theorem dX4_addPoint_25 : decode cX4_addPoint 25 = .ok (.dup, 1) := by decide +kernel
theorem dX4_addPoint_26 : decode cX4_addPoint 26 = .ok (.ldc 75, 2) := by decide +kernel
theorem dX4_addPoint_28 : decode cX4_addPoint 28 = .ok (.invokespecial 77, 3) := by decide +kernel
theorem dX4_addPoint_31 : decode cX4_addPoint 31 = .ok (.athrow, 1) := by decide +kernel
theorem dX4_addPoint_32 : decode cX4_addPoint 32 = .ok (.aload_n 0, 1) := by decide +kernel
theorem dX4_addPoint_33 : decode cX4_addPoint 33 = .ok (.getfield 44, 3) := by decide +kernel
theorem dX4_addPoint_36 : decode cX4_addPoint 36 = .ok (.bipush 8, 2) := by decide +kernel
theorem dX4_addPoint_38 : decode cX4_addPoint 38 = .ok (.if_icmp .lt 13, 3) := by decide +kernel
theorem dX4_addPoint_41 : decode cX4_addPoint 41 = .ok (.new 80, 3) := by decide +kernel
theorem dX4_addPoint_44 : decode cX4_addPoint 44 = .ok (.dup, 1) := by decide +kernel
theorem dX4_addPoint_45 : decode cX4_addPoint 45 = .ok (.ldc 82, 2) := by decide +kernel
theorem dX4_addPoint_47 : decode cX4_addPoint 47 = .ok (.invokespecial 84, 3) := by decide +kernel
theorem dX4_addPoint_50 : decode cX4_addPoint 50 = .ok (.athrow, 1) := by decide +kernel
theorem dX4_addPoint_51 : decode cX4_addPoint 51 = .ok (.aload_n 0, 1) := by decide +kernel
theorem dX4_addPoint_52 : decode cX4_addPoint 52 = .ok (.getfield 44, 3) := by decide +kernel
theorem dX4_addPoint_55 : decode cX4_addPoint 55 = .ok (.istore_n 3, 1) := by decide +kernel
theorem dX4_addPoint_56 : decode cX4_addPoint 56 = .ok (.aload_n 0, 1) := by decide +kernel
theorem dX4_addPoint_57 : decode cX4_addPoint 57 = .ok (.getfield 11, 3) := by decide +kernel
theorem dX4_addPoint_60 : decode cX4_addPoint 60 = .ok (.iload_n 3, 1) := by decide +kernel
theorem dX4_addPoint_61 : decode cX4_addPoint 61 = .ok (.aaload, 1) := by decide +kernel
theorem dX4_addPoint_62 : decode cX4_addPoint 62 = .ok (.iload_n 1, 1) := by decide +kernel
theorem dX4_addPoint_63 : decode cX4_addPoint 63 = .ok (.putfield 85, 3) := by decide +kernel
theorem dX4_addPoint_66 : decode cX4_addPoint 66 = .ok (.aload_n 0, 1) := by decide +kernel
theorem dX4_addPoint_67 : decode cX4_addPoint 67 = .ok (.getfield 11, 3) := by decide +kernel
theorem dX4_addPoint_70 : decode cX4_addPoint 70 = .ok (.iload_n 3, 1) := by decide +kernel
theorem dX4_addPoint_71 : decode cX4_addPoint 71 = .ok (.aaload, 1) := by decide +kernel
theorem dX4_addPoint_72 : decode cX4_addPoint 72 = .ok (.iload_n 2, 1) := by decide +kernel
theorem dX4_addPoint_73 : decode cX4_addPoint 73 = .ok (.putfield 88, 3) := by decide +kernel
theorem dX4_addPoint_76 : decode cX4_addPoint 76 = .ok (.aload_n 0, 1) := by decide +kernel
theorem dX4_addPoint_77 : decode cX4_addPoint 77 = .ok (.iload_n 3, 1) := by decide +kernel
theorem dX4_addPoint_78 : decode cX4_addPoint 78 = .ok (.iconst 1, 1) := by decide +kernel
theorem dX4_addPoint_79 : decode cX4_addPoint 79 = .ok (.iadd, 1) := by decide +kernel
theorem dX4_addPoint_80 : decode cX4_addPoint 80 = .ok (.putfield 44, 3) := by decide +kernel
theorem dX4_addPoint_83 : decode cX4_addPoint 83 = .ok (.iload_n 3, 1) := by decide +kernel
theorem dX4_addPoint_84 : decode cX4_addPoint 84 = .ok (.ireturn, 1) := by decide +kernel
theorem dX4_addPiece_0 : decode cX4_addPiece 0 = .ok (.iload_n 1, 1) := by decide +kernel
theorem dX4_addPiece_1 : decode cX4_addPiece 1 = .ok (.bipush 10, 2) := by decide +kernel
theorem dX4_addPiece_3 : decode cX4_addPiece 3 = .ok (.sipush 2000, 3) := by decide +kernel
theorem dX4_addPiece_6 : decode cX4_addPiece 6 = .ok (.invokestatic 69, 3) := by decide +kernel
theorem dX4_addPiece_9 : decode cX4_addPiece 9 = .ok (.ifCond .ne 34, 3) := by decide +kernel
theorem dX4_addPiece_12 : decode cX4_addPiece 12 = .ok (.iload_n 2, 1) := by decide +kernel
theorem dX4_addPiece_13 : decode cX4_addPiece 13 = .ok (.iconst 5, 1) := by decide +kernel
theorem dX4_addPiece_14 : decode cX4_addPiece 14 = .ok (.sipush 240, 3) := by decide +kernel
theorem dX4_addPiece_17 : decode cX4_addPiece 17 = .ok (.invokestatic 69, 3) := by decide +kernel
theorem dX4_addPiece_20 : decode cX4_addPiece 20 = .ok (.ifCond .ne 23, 3) := by decide +kernel
theorem dX4_addPiece_23 : decode cX4_addPiece 23 = .ok (.iload_n 3, 1) := by decide +kernel
theorem dX4_addPiece_24 : decode cX4_addPiece 24 = .ok (.iconst 1, 1) := by decide +kernel
theorem dX4_addPiece_25 : decode cX4_addPiece 25 = .ok (.bipush 99, 2) := by decide +kernel
theorem dX4_addPiece_27 : decode cX4_addPiece 27 = .ok (.invokestatic 69, 3) := by decide +kernel
theorem dX4_addPiece_30 : decode cX4_addPiece 30 = .ok (.ifCond .ne 13, 3) := by decide +kernel
theorem dX4_addPiece_33 : decode cX4_addPiece 33 = .ok (.iload 4, 2) := by decide +kernel
theorem dX4_addPiece_35 : decode cX4_addPiece 35 = .ok (.iconst 0, 1) := by decide +kernel
theorem dX4_addPiece_36 : decode cX4_addPiece 36 = .ok (.iconst 2, 1) := by decide +kernel
theorem dX4_addPiece_37 : decode cX4_addPiece 37 = .ok (.invokestatic 69, 3) := by decide +kernel
theorem dX4_addPiece_40 : decode cX4_addPiece 40 = .ok (.ifCond .eq 13, 3) := by decide +kernel
theorem dX4_addPiece_43 : decode cX4_addPiece 43 = .ok (.new 73, 3) := by decide +kernel
theorem dX4_addPiece_46 : decode cX4_addPiece 46 = .ok (.dup, 1) := by decide +kernel
theorem dX4_addPiece_47 : decode cX4_addPiece 47 = .ok (.ldc 91, 2) := by decide +kernel
theorem dX4_addPiece_49 : decode cX4_addPiece 49 = .ok (.invokespecial 77, 3) := by decide +kernel
theorem dX4_addPiece_52 : decode cX4_addPiece 52 = .ok (.athrow, 1) := by decide +kernel
theorem dX4_addPiece_53 : decode cX4_addPiece 53 = .ok (.aload_n 0, 1) := by decide +kernel
theorem dX4_addPiece_54 : decode cX4_addPiece 54 = .ok (.getfield 48, 3) := by decide +kernel
theorem dX4_addPiece_57 : decode cX4_addPiece 57 = .ok (.bipush 6, 2) := by decide +kernel
theorem dX4_addPiece_59 : decode cX4_addPiece 59 = .ok (.if_icmp .lt 13, 3) := by decide +kernel
theorem dX4_addPiece_62 : decode cX4_addPiece 62 = .ok (.new 80, 3) := by decide +kernel
theorem dX4_addPiece_65 : decode cX4_addPiece 65 = .ok (.dup, 1) := by decide +kernel
theorem dX4_addPiece_66 : decode cX4_addPiece 66 = .ok (.ldc 93, 2) := by decide +kernel
theorem dX4_addPiece_68 : decode cX4_addPiece 68 = .ok (.invokespecial 84, 3) := by decide +kernel
theorem dX4_addPiece_71 : decode cX4_addPiece 71 = .ok (.athrow, 1) := by decide +kernel
theorem dX4_addPiece_72 : decode cX4_addPiece 72 = .ok (.aload_n 0, 1) := by decide +kernel
theorem dX4_addPiece_73 : decode cX4_addPiece 73 = .ok (.getfield 48, 3) := by decide +kernel
theorem dX4_addPiece_76 : decode cX4_addPiece 76 = .ok (.istore 5, 2) := by decide +kernel
theorem dX4_addPiece_78 : decode cX4_addPiece 78 = .ok (.aload_n 0, 1) := by decide +kernel
theorem dX4_addPiece_79 : decode cX4_addPiece 79 = .ok (.getfield 17, 3) := by decide +kernel
theorem dX4_addPiece_82 : decode cX4_addPiece 82 = .ok (.iload 5, 2) := by decide +kernel
theorem dX4_addPiece_84 : decode cX4_addPiece 84 = .ok (.aaload, 1) := by decide +kernel
theorem dX4_addPiece_85 : decode cX4_addPiece 85 = .ok (.astore 6, 2) := by decide +kernel
theorem dX4_addPiece_87 : decode cX4_addPiece 87 = .ok (.aload 6, 2) := by decide +kernel
theorem dX4_addPiece_89 : decode cX4_addPiece 89 = .ok (.iload_n 1, 1) := by decide +kernel
theorem dX4_addPiece_90 : decode cX4_addPiece 90 = .ok (.putfield 95, 3) := by decide +kernel
theorem dX4_addPiece_93 : decode cX4_addPiece 93 = .ok (.aload 6, 2) := by decide +kernel
theorem dX4_addPiece_95 : decode cX4_addPiece 95 = .ok (.iload_n 2, 1) := by decide +kernel
theorem dX4_addPiece_96 : decode cX4_addPiece 96 = .ok (.putfield 98, 3) := by decide +kernel
theorem dX4_addPiece_99 : decode cX4_addPiece 99 = .ok (.aload 6, 2) := by decide +kernel
theorem dX4_addPiece_101 : decode cX4_addPiece 101 = .ok (.iload_n 3, 1) := by decide +kernel
theorem dX4_addPiece_102 : decode cX4_addPiece 102 = .ok (.putfield 101, 3) := by decide +kernel
theorem dX4_addPiece_105 : decode cX4_addPiece 105 = .ok (.aload 6, 2) := by decide +kernel
theorem dX4_addPiece_107 : decode cX4_addPiece 107 = .ok (.iload 4, 2) := by decide +kernel
theorem dX4_addPiece_109 : decode cX4_addPiece 109 = .ok (.putfield 104, 3) := by decide +kernel
theorem dX4_addPiece_112 : decode cX4_addPiece 112 = .ok (.aload_n 0, 1) := by decide +kernel
theorem dX4_addPiece_113 : decode cX4_addPiece 113 = .ok (.iload 5, 2) := by decide +kernel
theorem dX4_addPiece_115 : decode cX4_addPiece 115 = .ok (.iconst 1, 1) := by decide +kernel
theorem dX4_addPiece_116 : decode cX4_addPiece 116 = .ok (.iadd, 1) := by decide +kernel
theorem dX4_addPiece_117 : decode cX4_addPiece 117 = .ok (.putfield 48, 3) := by decide +kernel
theorem dX4_addPiece_120 : decode cX4_addPiece 120 = .ok (.iload 5, 2) := by decide +kernel
theorem dX4_addPiece_122 : decode cX4_addPiece 122 = .ok (.ireturn, 1) := by decide +kernel
theorem dX4_fix_0 : decode cX4_fix 0 = .ok (.aload_n 0, 1) := by decide +kernel
theorem dX4_fix_1 : decode cX4_fix 1 = .ok (.iload_n 1, 1) := by decide +kernel
theorem dX4_fix_2 : decode cX4_fix 2 = .ok (.invokevirtual 107, 3) := by decide +kernel
theorem dX4_fix_5 : decode cX4_fix 5 = .ok (.aload_n 0, 1) := by decide +kernel
theorem dX4_fix_6 : decode cX4_fix 6 = .ok (.iload_n 2, 1) := by decide +kernel
theorem dX4_fix_7 : decode cX4_fix 7 = .ok (.invokevirtual 110, 3) := by decide +kernel
theorem dX4_fix_10 : decode cX4_fix 10 = .ok (.aload_n 0, 1) := by decide +kernel
theorem dX4_fix_11 : decode cX4_fix 11 = .ok (.iload_n 3, 1) := by decide +kernel
theorem dX4_fix_12 : decode cX4_fix 12 = .ok (.invokevirtual 110, 3) := by decide +kernel
theorem dX4_fix_15 : decode cX4_fix 15 = .ok (.aload_n 0, 1) := by decide +kernel
theorem dX4_fix_16 : decode cX4_fix 16 = .ok (.getfield 11, 3) := by decide +kernel
theorem dX4_fix_19 : decode cX4_fix 19 = .ok (.iload_n 2, 1) := by decide +kernel
theorem dX4_fix_20 : decode cX4_fix 20 = .ok (.aaload, 1) := by decide +kernel
theorem dX4_fix_21 : decode cX4_fix 21 = .ok (.getfield 85, 3) := by decide +kernel
theorem dX4_fix_24 : decode cX4_fix 24 = .ok (.istore 6, 2) := by decide +kernel
theorem dX4_fix_26 : decode cX4_fix 26 = .ok (.aload_n 0, 1) := by decide +kernel
theorem dX4_fix_27 : decode cX4_fix 27 = .ok (.getfield 11, 3) := by decide +kernel
theorem dX4_fix_30 : decode cX4_fix 30 = .ok (.iload_n 3, 1) := by decide +kernel
theorem dX4_fix_31 : decode cX4_fix 31 = .ok (.aaload, 1) := by decide +kernel
theorem dX4_fix_32 : decode cX4_fix 32 = .ok (.getfield 85, 3) := by decide +kernel
theorem dX4_fix_35 : decode cX4_fix 35 = .ok (.istore 7, 2) := by decide +kernel
theorem dX4_fix_37 : decode cX4_fix 37 = .ok (.iload 7, 2) := by decide +kernel
theorem dX4_fix_39 : decode cX4_fix 39 = .ok (.iload 6, 2) := by decide +kernel
theorem dX4_fix_41 : decode cX4_fix 41 = .ok (.isub, 1) := by decide +kernel
theorem dX4_fix_42 : decode cX4_fix 42 = .ok (.istore 8, 2) := by decide +kernel
theorem dX4_fix_44 : decode cX4_fix 44 = .ok (.iload 8, 2) := by decide +kernel
theorem dX4_fix_46 : decode cX4_fix 46 = .ok (.ifCond .le 26, 3) := by decide +kernel
theorem dX4_fix_49 : decode cX4_fix 49 = .ok (.iload 4, 2) := by decide +kernel
theorem dX4_fix_51 : decode cX4_fix 51 = .ok (.iload 6, 2) := by decide +kernel
theorem dX4_fix_53 : decode cX4_fix 53 = .ok (.iload 7, 2) := by decide +kernel
theorem dX4_fix_55 : decode cX4_fix 55 = .ok (.invokestatic 69, 3) := by decide +kernel
theorem dX4_fix_58 : decode cX4_fix 58 = .ok (.ifCond .ne 14, 3) := by decide +kernel
theorem dX4_fix_61 : decode cX4_fix 61 = .ok (.iload 5, 2) := by decide +kernel
theorem dX4_fix_63 : decode cX4_fix 63 = .ok (.iconst 0, 1) := by decide +kernel
theorem dX4_fix_64 : decode cX4_fix 64 = .ok (.bipush 60, 2) := by decide +kernel
theorem dX4_fix_66 : decode cX4_fix 66 = .ok (.invokestatic 69, 3) := by decide +kernel
theorem dX4_fix_69 : decode cX4_fix 69 = .ok (.ifCond .eq 13, 3) := by decide +kernel
theorem dX4_fix_72 : decode cX4_fix 72 = .ok (.new 73, 3) := by decide +kernel
theorem dX4_fix_75 : decode cX4_fix 75 = .ok (.dup, 1) := by decide +kernel
theorem dX4_fix_76 : decode cX4_fix 76 = .ok (.ldc 113, 2) := by decide +kernel
theorem dX4_fix_78 : decode cX4_fix 78 = .ok (.invokespecial 77, 3) := by decide +kernel
theorem dX4_fix_81 : decode cX4_fix 81 = .ok (.athrow, 1) := by decide +kernel
theorem dX4_fix_82 : decode cX4_fix 82 = .ok (.aload_n 0, 1) := by decide +kernel
theorem dX4_fix_83 : decode cX4_fix 83 = .ok (.iload_n 1, 1) := by decide +kernel
theorem dX4_fix_84 : decode cX4_fix 84 = .ok (.invokevirtual 115, 3) := by decide +kernel
theorem dX4_fix_87 : decode cX4_fix 87 = .ok (.aload_n 0, 1) := by decide +kernel
theorem dX4_fix_88 : decode cX4_fix 88 = .ok (.getfield 17, 3) := by decide +kernel
theorem dX4_fix_91 : decode cX4_fix 91 = .ok (.iload_n 1, 1) := by decide +kernel
theorem dX4_fix_92 : decode cX4_fix 92 = .ok (.aaload, 1) := by decide +kernel
theorem dX4_fix_93 : decode cX4_fix 93 = .ok (.astore 9, 2) := by decide +kernel
theorem dX4_fix_95 : decode cX4_fix 95 = .ok (.aload 9, 2) := by decide +kernel
theorem dX4_fix_97 : decode cX4_fix 97 = .ok (.getfield 95, 3) := by decide +kernel
theorem dX4_fix_100 : decode cX4_fix 100 = .ok (.iload 4, 2) := by decide +kernel
theorem dX4_fix_102 : decode cX4_fix 102 = .ok (.iload 6, 2) := by decide +kernel
theorem dX4_fix_104 : decode cX4_fix 104 = .ok (.isub, 1) := by decide +kernel
theorem dX4_fix_105 : decode cX4_fix 105 = .ok (.imul, 1) := by decide +kernel
theorem dX4_fix_106 : decode cX4_fix 106 = .ok (.iload 8, 2) := by decide +kernel
theorem dX4_fix_108 : decode cX4_fix 108 = .ok (.idiv, 1) := by decide +kernel
theorem dX4_fix_109 : decode cX4_fix 109 = .ok (.istore 10, 2) := by decide +kernel
theorem dX4_fix_111 : decode cX4_fix 111 = .ok (.aload 9, 2) := by decide +kernel
theorem dX4_fix_113 : decode cX4_fix 113 = .ok (.iload_n 2, 1) := by decide +kernel
theorem dX4_fix_114 : decode cX4_fix 114 = .ok (.putfield 118, 3) := by decide +kernel
theorem dX4_fix_117 : decode cX4_fix 117 = .ok (.aload 9, 2) := by decide +kernel
theorem dX4_fix_119 : decode cX4_fix 119 = .ok (.iload_n 3, 1) := by decide +kernel
theorem dX4_fix_120 : decode cX4_fix 120 = .ok (.putfield 121, 3) := by decide +kernel
theorem dX4_fix_123 : decode cX4_fix 123 = .ok (.aload 9, 2) := by decide +kernel
theorem dX4_fix_125 : decode cX4_fix 125 = .ok (.aload 9, 2) := by decide +kernel
theorem dX4_fix_127 : decode cX4_fix 127 = .ok (.getfield 95, 3) := by decide +kernel
theorem dX4_fix_130 : decode cX4_fix 130 = .ok (.iload 10, 2) := by decide +kernel
theorem dX4_fix_132 : decode cX4_fix 132 = .ok (.isub, 1) := by decide +kernel
theorem dX4_fix_133 : decode cX4_fix 133 = .ok (.iload 5, 2) := by decide +kernel
theorem dX4_fix_135 : decode cX4_fix 135 = .ok (.invokestatic 124, 3) := by decide +kernel
theorem dX4_fix_138 : decode cX4_fix 138 = .ok (.putfield 128, 3) := by decide +kernel
theorem dX4_fix_141 : decode cX4_fix 141 = .ok (.aload 9, 2) := by decide +kernel
theorem dX4_fix_143 : decode cX4_fix 143 = .ok (.iload 10, 2) := by decide +kernel
theorem dX4_fix_145 : decode cX4_fix 145 = .ok (.iload 5, 2) := by decide +kernel
theorem dX4_fix_147 : decode cX4_fix 147 = .ok (.invokestatic 124, 3) := by decide +kernel
theorem dX4_fix_150 : decode cX4_fix 150 = .ok (.putfield 131, 3) := by decide +kernel
theorem dX4_fix_153 : decode cX4_fix 153 = .ok (.iload 10, 2) := by decide +kernel
theorem dX4_fix_155 : decode cX4_fix 155 = .ok (.ireturn, 1) := by decide +kernel
theorem dX4_need_0 : decode cX4_need 0 = .ok (.aload_n 0, 1) := by decide +kernel
theorem dX4_need_1 : decode cX4_need 1 = .ok (.iload_n 1, 1) := by decide +kernel
theorem dX4_need_2 : decode cX4_need 2 = .ok (.invokevirtual 107, 3) := by decide +kernel
theorem dX4_need_5 : decode cX4_need 5 = .ok (.aload_n 0, 1) := by decide +kernel
theorem dX4_need_6 : decode cX4_need 6 = .ok (.iload_n 2, 1) := by decide +kernel
theorem dX4_need_7 : decode cX4_need 7 = .ok (.invokevirtual 107, 3) := by decide +kernel
theorem dX4_need_10 : decode cX4_need 10 = .ok (.iload_n 1, 1) := by decide +kernel
theorem dX4_need_11 : decode cX4_need 11 = .ok (.iload_n 2, 1) := by decide +kernel
theorem dX4_need_12 : decode cX4_need 12 = .ok (.if_icmp .ne 13, 3) := by decide +kernel
theorem dX4_need_15 : decode cX4_need 15 = .ok (.new 73, 3) := by decide +kernel
theorem dX4_need_18 : decode cX4_need 18 = .ok (.dup, 1) := by decide +kernel
theorem dX4_need_19 : decode cX4_need 19 = .ok (.ldc 134, 2) := by decide +kernel
theorem dX4_need_21 : decode cX4_need 21 = .ok (.invokespecial 77, 3) := by decide +kernel
theorem dX4_need_24 : decode cX4_need 24 = .ok (.athrow, 1) := by decide +kernel
theorem dX4_need_25 : decode cX4_need 25 = .ok (.iload_n 1, 1) := by decide +kernel
theorem dX4_need_26 : decode cX4_need 26 = .ok (.aload_n 0, 1) := by decide +kernel
theorem dX4_need_27 : decode cX4_need 27 = .ok (.iload_n 2, 1) := by decide +kernel
theorem dX4_need_28 : decode cX4_need 28 = .ok (.invokevirtual 136, 3) := by decide +kernel
theorem dX4_need_31 : decode cX4_need 31 = .ok (.invokestatic 140, 3) := by decide +kernel
theorem dX4_need_34 : decode cX4_need 34 = .ok (.ifCond .eq 13, 3) := by decide +kernel
theorem dX4_need_37 : decode cX4_need 37 = .ok (.new 144, 3) := by decide +kernel
theorem dX4_need_40 : decode cX4_need 40 = .ok (.dup, 1) := by decide +kernel
theorem dX4_need_41 : decode cX4_need 41 = .ok (.ldc 146, 2) := by decide +kernel
theorem dX4_need_43 : decode cX4_need 43 = .ok (.invokespecial 148, 3) := by decide +kernel
theorem dX4_need_46 : decode cX4_need 46 = .ok (.athrow, 1) := by decide +kernel
theorem dX4_need_47 : decode cX4_need 47 = .ok (.aload_n 0, 1) := by decide +kernel
theorem dX4_need_48 : decode cX4_need 48 = .ok (.iload_n 1, 1) := by decide +kernel
theorem dX4_need_49 : decode cX4_need 49 = .ok (.invokevirtual 115, 3) := by decide +kernel
theorem dX4_need_52 : decode cX4_need 52 = .ok (.aload_n 0, 1) := by decide +kernel
theorem dX4_need_53 : decode cX4_need 53 = .ok (.getfield 17, 3) := by decide +kernel
theorem dX4_need_56 : decode cX4_need 56 = .ok (.iload_n 1, 1) := by decide +kernel
theorem dX4_need_57 : decode cX4_need 57 = .ok (.aaload, 1) := by decide +kernel
theorem dX4_need_58 : decode cX4_need 58 = .ok (.dup, 1) := by decide +kernel
theorem dX4_need_59 : decode cX4_need 59 = .ok (.getfield 149, 3) := by decide +kernel
theorem dX4_need_62 : decode cX4_need 62 = .ok (.iconst 1, 1) := by decide +kernel
theorem dX4_need_63 : decode cX4_need 63 = .ok (.iload_n 2, 1) := by decide +kernel
theorem dX4_need_64 : decode cX4_need 64 = .ok (.ishl, 1) := by decide +kernel
theorem dX4_need_65 : decode cX4_need 65 = .ok (.ior, 1) := by decide +kernel
theorem dX4_need_66 : decode cX4_need 66 = .ok (.putfield 149, 3) := by decide +kernel
theorem dX4_need_69 : decode cX4_need 69 = .ok (.aload_n 0, 1) := by decide +kernel
theorem dX4_need_70 : decode cX4_need 70 = .ok (.getfield 17, 3) := by decide +kernel
theorem dX4_need_73 : decode cX4_need 73 = .ok (.iload_n 1, 1) := by decide +kernel
theorem dX4_need_74 : decode cX4_need 74 = .ok (.aaload, 1) := by decide +kernel
theorem dX4_need_75 : decode cX4_need 75 = .ok (.getfield 149, 3) := by decide +kernel
theorem dX4_need_78 : decode cX4_need 78 = .ok (.invokestatic 152, 3) := by decide +kernel
theorem dX4_need_81 : decode cX4_need 81 = .ok (.ireturn, 1) := by decide +kernel
theorem dX4_setArrival_0 : decode cX4_setArrival 0 = .ok (.iload_n 1, 1) := by decide +kernel
theorem dX4_setArrival_1 : decode cX4_setArrival 1 = .ok (.iconst 0, 1) := by decide +kernel
theorem dX4_setArrival_2 : decode cX4_setArrival 2 = .ok (.iconst 2, 1) := by decide +kernel
theorem dX4_setArrival_3 : decode cX4_setArrival 3 = .ok (.invokestatic 69, 3) := by decide +kernel
theorem dX4_setArrival_6 : decode cX4_setArrival 6 = .ok (.ifCond .eq 13, 3) := by decide +kernel
theorem dX4_setArrival_9 : decode cX4_setArrival 9 = .ok (.new 157, 3) := by decide +kernel
theorem dX4_setArrival_12 : decode cX4_setArrival 12 = .ok (.dup, 1) := by decide +kernel
theorem dX4_setArrival_13 : decode cX4_setArrival 13 = .ok (.ldc 159, 2) := by decide +kernel
theorem dX4_setArrival_15 : decode cX4_setArrival 15 = .ok (.invokespecial 161, 3) := by decide +kernel
theorem dX4_setArrival_18 : decode cX4_setArrival 18 = .ok (.athrow, 1) := by decide +kernel
theorem dX4_setArrival_19 : decode cX4_setArrival 19 = .ok (.iload_n 2, 1) := by decide +kernel
theorem dX4_setArrival_20 : decode cX4_setArrival 20 = .ok (.iconst 0, 1) := by decide +kernel
theorem dX4_setArrival_21 : decode cX4_setArrival 21 = .ok (.sipush 1440, 3) := by decide +kernel
theorem dX4_setArrival_24 : decode cX4_setArrival 24 = .ok (.invokestatic 69, 3) := by decide +kernel
theorem dX4_setArrival_27 : decode cX4_setArrival 27 = .ok (.ifCond .eq 13, 3) := by decide +kernel
theorem dX4_setArrival_30 : decode cX4_setArrival 30 = .ok (.new 73, 3) := by decide +kernel
theorem dX4_setArrival_33 : decode cX4_setArrival 33 = .ok (.dup, 1) := by decide +kernel
theorem dX4_setArrival_34 : decode cX4_setArrival 34 = .ok (.ldc 162, 2) := by decide +kernel
theorem dX4_setArrival_36 : decode cX4_setArrival 36 = .ok (.invokespecial 77, 3) := by decide +kernel
theorem dX4_setArrival_39 : decode cX4_setArrival 39 = .ok (.athrow, 1) := by decide +kernel
theorem dX4_setArrival_40 : decode cX4_setArrival 40 = .ok (.aload_n 0, 1) := by decide +kernel
theorem dX4_setArrival_41 : decode cX4_setArrival 41 = .ok (.iload_n 1, 1) := by decide +kernel
theorem dX4_setArrival_42 : decode cX4_setArrival 42 = .ok (.invokevirtual 164, 3) := by decide +kernel
theorem dX4_setArrival_45 : decode cX4_setArrival 45 = .ok (.ifCond .eq 13, 3) := by decide +kernel
theorem dX4_setArrival_48 : decode cX4_setArrival 48 = .ok (.new 80, 3) := by decide +kernel
theorem dX4_setArrival_51 : decode cX4_setArrival 51 = .ok (.dup, 1) := by decide +kernel
theorem dX4_setArrival_52 : decode cX4_setArrival 52 = .ok (.ldc 168, 2) := by decide +kernel
theorem dX4_setArrival_54 : decode cX4_setArrival 54 = .ok (.invokespecial 84, 3) := by decide +kernel
theorem dX4_setArrival_57 : decode cX4_setArrival 57 = .ok (.athrow, 1) := by decide +kernel
theorem dX4_setArrival_58 : decode cX4_setArrival 58 = .ok (.aload_n 0, 1) := by decide +kernel
theorem dX4_setArrival_59 : decode cX4_setArrival 59 = .ok (.getfield 27, 3) := by decide +kernel
theorem dX4_setArrival_62 : decode cX4_setArrival 62 = .ok (.iload_n 1, 1) := by decide +kernel
theorem dX4_setArrival_63 : decode cX4_setArrival 63 = .ok (.iaload, 1) := by decide +kernel
theorem dX4_setArrival_64 : decode cX4_setArrival 64 = .ok (.istore_n 3, 1) := by decide +kernel
theorem dX4_setArrival_65 : decode cX4_setArrival 65 = .ok (.aload_n 0, 1) := by decide +kernel
theorem dX4_setArrival_66 : decode cX4_setArrival 66 = .ok (.getfield 27, 3) := by decide +kernel
theorem dX4_setArrival_69 : decode cX4_setArrival 69 = .ok (.iload_n 1, 1) := by decide +kernel
theorem dX4_setArrival_70 : decode cX4_setArrival 70 = .ok (.iload_n 2, 1) := by decide +kernel
theorem dX4_setArrival_71 : decode cX4_setArrival 71 = .ok (.iastore, 1) := by decide +kernel
theorem dX4_setArrival_72 : decode cX4_setArrival 72 = .ok (.iload_n 3, 1) := by decide +kernel
theorem dX4_setArrival_73 : decode cX4_setArrival 73 = .ok (.ireturn, 1) := by decide +kernel
theorem dX4_addTown_0 : decode cX4_addTown 0 = .ok (.iload_n 1, 1) := by decide +kernel
theorem dX4_addTown_1 : decode cX4_addTown 1 = .ok (.bipush 10, 2) := by decide +kernel
theorem dX4_addTown_3 : decode cX4_addTown 3 = .ok (.bipush 100, 2) := by decide +kernel
theorem dX4_addTown_5 : decode cX4_addTown 5 = .ok (.invokestatic 69, 3) := by decide +kernel
theorem dX4_addTown_8 : decode cX4_addTown 8 = .ok (.ifCond .ne 38, 3) := by decide +kernel
theorem dX4_addTown_11 : decode cX4_addTown 11 = .ok (.iload_n 2, 1) := by decide +kernel
theorem dX4_addTown_12 : decode cX4_addTown 12 = .ok (.bipush 30, 2) := by decide +kernel
theorem dX4_addTown_14 : decode cX4_addTown 14 = .ok (.sipush 480, 3) := by decide +kernel
theorem dX4_addTown_17 : decode cX4_addTown 17 = .ok (.invokestatic 69, 3) := by decide +kernel
theorem dX4_addTown_20 : decode cX4_addTown 20 = .ok (.ifCond .ne 26, 3) := by decide +kernel
theorem dX4_addTown_23 : decode cX4_addTown 23 = .ok (.iload_n 3, 1) := by decide +kernel
theorem dX4_addTown_24 : decode cX4_addTown 24 = .ok (.iconst 5, 1) := by decide +kernel
theorem dX4_addTown_25 : decode cX4_addTown 25 = .ok (.bipush 120, 2) := by decide +kernel
theorem dX4_addTown_27 : decode cX4_addTown 27 = .ok (.invokestatic 69, 3) := by decide +kernel
theorem dX4_addTown_30 : decode cX4_addTown 30 = .ok (.ifCond .ne 16, 3) := by decide +kernel
theorem dX4_addTown_33 : decode cX4_addTown 33 = .ok (.iload 4, 2) := by decide +kernel
theorem dX4_addTown_35 : decode cX4_addTown 35 = .ok (.bipush 60, 2) := by decide +kernel
theorem dX4_addTown_37 : decode cX4_addTown 37 = .ok (.sipush 1440, 3) := by decide +kernel
theorem dX4_addTown_40 : decode cX4_addTown 40 = .ok (.invokestatic 69, 3) := by decide +kernel
theorem dX4_addTown_43 : decode cX4_addTown 43 = .ok (.ifCond .eq 13, 3) := by decide +kernel
theorem dX4_addTown_46 : decode cX4_addTown 46 = .ok (.new 73, 3) := by decide +kernel
theorem dX4_addTown_49 : decode cX4_addTown 49 = .ok (.dup, 1) := by decide +kernel
theorem dX4_addTown_50 : decode cX4_addTown 50 = .ok (.ldc 170, 2) := by decide +kernel
theorem dX4_addTown_52 : decode cX4_addTown 52 = .ok (.invokespecial 77, 3) := by decide +kernel
theorem dX4_addTown_55 : decode cX4_addTown 55 = .ok (.athrow, 1) := by decide +kernel
theorem dX4_addTown_56 : decode cX4_addTown 56 = .ok (.aload_n 0, 1) := by decide +kernel
theorem dX4_addTown_57 : decode cX4_addTown 57 = .ok (.getfield 51, 3) := by decide +kernel
theorem dX4_addTown_60 : decode cX4_addTown 60 = .ok (.iconst 4, 1) := by decide +kernel
theorem dX4_addTown_61 : decode cX4_addTown 61 = .ok (.if_icmp .lt 13, 3) := by decide +kernel
theorem dX4_addTown_64 : decode cX4_addTown 64 = .ok (.new 80, 3) := by decide +kernel
theorem dX4_addTown_67 : decode cX4_addTown 67 = .ok (.dup, 1) := by decide +kernel
theorem dX4_addTown_68 : decode cX4_addTown 68 = .ok (.ldc 172, 2) := by decide +kernel
theorem dX4_addTown_70 : decode cX4_addTown 70 = .ok (.invokespecial 84, 3) := by decide +kernel
theorem dX4_addTown_73 : decode cX4_addTown 73 = .ok (.athrow, 1) := by decide +kernel
theorem dX4_addTown_74 : decode cX4_addTown 74 = .ok (.aload_n 0, 1) := by decide +kernel
theorem dX4_addTown_75 : decode cX4_addTown 75 = .ok (.getfield 51, 3) := by decide +kernel
theorem dX4_addTown_78 : decode cX4_addTown 78 = .ok (.istore 5, 2) := by decide +kernel
theorem dX4_addTown_80 : decode cX4_addTown 80 = .ok (.aload_n 0, 1) := by decide +kernel
theorem dX4_addTown_81 : decode cX4_addTown 81 = .ok (.getfield 23, 3) := by decide +kernel
theorem dX4_addTown_84 : decode cX4_addTown 84 = .ok (.iload 5, 2) := by decide +kernel
theorem dX4_addTown_86 : decode cX4_addTown 86 = .ok (.aaload, 1) := by decide +kernel
theorem dX4_addTown_87 : decode cX4_addTown 87 = .ok (.astore 6, 2) := by decide +kernel
theorem dX4_addTown_89 : decode cX4_addTown 89 = .ok (.aload 6, 2) := by decide +kernel
theorem dX4_addTown_91 : decode cX4_addTown 91 = .ok (.iload_n 1, 1) := by decide +kernel
theorem dX4_addTown_92 : decode cX4_addTown 92 = .ok (.putfield 174, 3) := by decide +kernel
theorem dX4_addTown_95 : decode cX4_addTown 95 = .ok (.aload 6, 2) := by decide +kernel
theorem dX4_addTown_97 : decode cX4_addTown 97 = .ok (.iload_n 2, 1) := by decide +kernel
theorem dX4_addTown_98 : decode cX4_addTown 98 = .ok (.putfield 177, 3) := by decide +kernel
theorem dX4_addTown_101 : decode cX4_addTown 101 = .ok (.aload 6, 2) := by decide +kernel
theorem dX4_addTown_103 : decode cX4_addTown 103 = .ok (.iload_n 3, 1) := by decide +kernel
theorem dX4_addTown_104 : decode cX4_addTown 104 = .ok (.putfield 180, 3) := by decide +kernel
theorem dX4_addTown_107 : decode cX4_addTown 107 = .ok (.aload 6, 2) := by decide +kernel
theorem dX4_addTown_109 : decode cX4_addTown 109 = .ok (.iload 4, 2) := by decide +kernel
theorem dX4_addTown_111 : decode cX4_addTown 111 = .ok (.putfield 183, 3) := by decide +kernel
theorem dX4_addTown_114 : decode cX4_addTown 114 = .ok (.aload_n 0, 1) := by decide +kernel
theorem dX4_addTown_115 : decode cX4_addTown 115 = .ok (.iload 5, 2) := by decide +kernel
theorem dX4_addTown_117 : decode cX4_addTown 117 = .ok (.iconst 1, 1) := by decide +kernel
theorem dX4_addTown_118 : decode cX4_addTown 118 = .ok (.iadd, 1) := by decide +kernel
theorem dX4_addTown_119 : decode cX4_addTown 119 = .ok (.putfield 51, 3) := by decide +kernel
theorem dX4_addTown_122 : decode cX4_addTown 122 = .ok (.iload 5, 2) := by decide +kernel
theorem dX4_addTown_124 : decode cX4_addTown 124 = .ok (.ireturn, 1) := by decide +kernel
theorem dX4_setRates_0 : decode cX4_setRates 0 = .ok (.aload_n 0, 1) := by decide +kernel
theorem dX4_setRates_1 : decode cX4_setRates 1 = .ok (.iload_n 1, 1) := by decide +kernel
theorem dX4_setRates_2 : decode cX4_setRates 2 = .ok (.invokevirtual 186, 3) := by decide +kernel
theorem dX4_setRates_5 : decode cX4_setRates 5 = .ok (.iload_n 2, 1) := by decide +kernel
theorem dX4_setRates_6 : decode cX4_setRates 6 = .ok (.iconst 0, 1) := by decide +kernel
theorem dX4_setRates_7 : decode cX4_setRates 7 = .ok (.bipush 99, 2) := by decide +kernel
theorem dX4_setRates_9 : decode cX4_setRates 9 = .ok (.invokestatic 69, 3) := by decide +kernel
theorem dX4_setRates_12 : decode cX4_setRates 12 = .ok (.ifCond .ne 25, 3) := by decide +kernel
theorem dX4_setRates_15 : decode cX4_setRates 15 = .ok (.iload_n 3, 1) := by decide +kernel
theorem dX4_setRates_16 : decode cX4_setRates 16 = .ok (.iconst 0, 1) := by decide +kernel
theorem dX4_setRates_17 : decode cX4_setRates 17 = .ok (.sipush 1440, 3) := by decide +kernel
theorem dX4_setRates_20 : decode cX4_setRates 20 = .ok (.invokestatic 69, 3) := by decide +kernel
theorem dX4_setRates_23 : decode cX4_setRates 23 = .ok (.ifCond .ne 14, 3) := by decide +kernel
theorem dX4_setRates_26 : decode cX4_setRates 26 = .ok (.iload 4, 2) := by decide +kernel
theorem dX4_setRates_28 : decode cX4_setRates 28 = .ok (.iconst 0, 1) := by decide +kernel
theorem dX4_setRates_29 : decode cX4_setRates 29 = .ok (.bipush 99, 2) := by decide +kernel
theorem dX4_setRates_31 : decode cX4_setRates 31 = .ok (.invokestatic 69, 3) := by decide +kernel
theorem dX4_setRates_34 : decode cX4_setRates 34 = .ok (.ifCond .eq 13, 3) := by decide +kernel
theorem dX4_setRates_37 : decode cX4_setRates 37 = .ok (.new 73, 3) := by decide +kernel
theorem dX4_setRates_40 : decode cX4_setRates 40 = .ok (.dup, 1) := by decide +kernel
theorem dX4_setRates_41 : decode cX4_setRates 41 = .ok (.ldc 189, 2) := by decide +kernel
theorem dX4_setRates_43 : decode cX4_setRates 43 = .ok (.invokespecial 77, 3) := by decide +kernel
theorem dX4_setRates_46 : decode cX4_setRates 46 = .ok (.athrow, 1) := by decide +kernel
theorem dX4_setRates_47 : decode cX4_setRates 47 = .ok (.aload_n 0, 1) := by decide +kernel
theorem dX4_setRates_48 : decode cX4_setRates 48 = .ok (.getfield 23, 3) := by decide +kernel
theorem dX4_setRates_51 : decode cX4_setRates 51 = .ok (.iload_n 1, 1) := by decide +kernel
theorem dX4_setRates_52 : decode cX4_setRates 52 = .ok (.aaload, 1) := by decide +kernel
theorem dX4_setRates_53 : decode cX4_setRates 53 = .ok (.astore 5, 2) := by decide +kernel
theorem dX4_setRates_55 : decode cX4_setRates 55 = .ok (.aload 5, 2) := by decide +kernel
theorem dX4_setRates_57 : decode cX4_setRates 57 = .ok (.getfield 191, 3) := by decide +kernel
theorem dX4_setRates_60 : decode cX4_setRates 60 = .ok (.istore 6, 2) := by decide +kernel
theorem dX4_setRates_62 : decode cX4_setRates 62 = .ok (.aload 5, 2) := by decide +kernel
theorem dX4_setRates_64 : decode cX4_setRates 64 = .ok (.iload_n 2, 1) := by decide +kernel
theorem dX4_setRates_65 : decode cX4_setRates 65 = .ok (.putfield 191, 3) := by decide +kernel
theorem dX4_setRates_68 : decode cX4_setRates 68 = .ok (.aload 5, 2) := by decide +kernel
theorem dX4_setRates_70 : decode cX4_setRates 70 = .ok (.iload_n 3, 1) := by decide +kernel
theorem dX4_setRates_71 : decode cX4_setRates 71 = .ok (.putfield 194, 3) := by decide +kernel
theorem dX4_setRates_74 : decode cX4_setRates 74 = .ok (.aload 5, 2) := by decide +kernel
theorem dX4_setRates_76 : decode cX4_setRates 76 = .ok (.iload 4, 2) := by decide +kernel
theorem dX4_setRates_78 : decode cX4_setRates 78 = .ok (.putfield 197, 3) := by decide +kernel
theorem dX4_setRates_81 : decode cX4_setRates 81 = .ok (.iload 6, 2) := by decide +kernel
theorem dX4_setRates_83 : decode cX4_setRates 83 = .ok (.ireturn, 1) := by decide +kernel
theorem dX4_come_0 : decode cX4_come 0 = .ok (.aload_n 0, 1) := by decide +kernel
theorem dX4_come_1 : decode cX4_come 1 = .ok (.iload_n 1, 1) := by decide +kernel
theorem dX4_come_2 : decode cX4_come 2 = .ok (.invokevirtual 186, 3) := by decide +kernel
theorem dX4_come_5 : decode cX4_come 5 = .ok (.aload_n 0, 1) := by decide +kernel
theorem dX4_come_6 : decode cX4_come 6 = .ok (.getfield 34, 3) := by decide +kernel
theorem dX4_come_9 : decode cX4_come 9 = .ok (.getfield 200, 3) := by decide +kernel
theorem dX4_come_12 : decode cX4_come 12 = .ok (.istore_n 2, 1) := by decide +kernel
theorem dX4_come_13 : decode cX4_come 13 = .ok (.aload_n 0, 1) := by decide +kernel
theorem dX4_come_14 : decode cX4_come 14 = .ok (.getfield 34, 3) := by decide +kernel
theorem dX4_come_17 : decode cX4_come 17 = .ok (.invokevirtual 203, 3) := by decide +kernel
theorem dX4_come_20 : decode cX4_come 20 = .ok (.aload_n 0, 1) := by decide +kernel
theorem dX4_come_21 : decode cX4_come 21 = .ok (.aload_n 0, 1) := by decide +kernel
theorem dX4_come_22 : decode cX4_come 22 = .ok (.getfield 23, 3) := by decide +kernel
theorem dX4_come_25 : decode cX4_come 25 = .ok (.iload_n 1, 1) := by decide +kernel
theorem dX4_come_26 : decode cX4_come 26 = .ok (.aaload, 1) := by decide +kernel
theorem dX4_come_27 : decode cX4_come 27 = .ok (.putfield 54, 3) := by decide +kernel
theorem dX4_come_30 : decode cX4_come 30 = .ok (.iload_n 2, 1) := by decide +kernel
theorem dX4_come_31 : decode cX4_come 31 = .ok (.ireturn, 1) := by decide +kernel
theorem dX4_town_0 : decode cX4_town 0 = .ok (.aload_n 0, 1) := by decide +kernel
theorem dX4_town_1 : decode cX4_town 1 = .ok (.getfield 54, 3) := by decide +kernel
theorem dX4_town_4 : decode cX4_town 4 = .ok (.astore_n 1, 1) := by decide +kernel
theorem dX4_town_5 : decode cX4_town 5 = .ok (.aload_n 1, 1) := by decide +kernel
theorem dX4_town_6 : decode cX4_town 6 = .ok (.ifnonnull 13, 3) := by decide +kernel
theorem dX4_town_9 : decode cX4_town 9 = .ok (.new 206, 3) := by decide +kernel
theorem dX4_town_12 : decode cX4_town 12 = .ok (.dup, 1) := by decide +kernel
theorem dX4_town_13 : decode cX4_town 13 = .ok (.ldc 208, 2) := by decide +kernel
theorem dX4_town_15 : decode cX4_town 15 = .ok (.invokespecial 210, 3) := by decide +kernel
theorem dX4_town_18 : decode cX4_town 18 = .ok (.athrow, 1) := by decide +kernel
theorem dX4_town_19 : decode cX4_town 19 = .ok (.aload_n 1, 1) := by decide +kernel
theorem dX4_town_20 : decode cX4_town 20 = .ok (.getfield 211, 3) := by decide +kernel
theorem dX4_town_23 : decode cX4_town 23 = .ok (.ireturn, 1) := by decide +kernel
theorem dX4_loadOn_0 : decode cX4_loadOn 0 = .ok (.aload_n 0, 1) := by decide +kernel
theorem dX4_loadOn_1 : decode cX4_loadOn 1 = .ok (.iload_n 1, 1) := by decide +kernel
theorem dX4_loadOn_2 : decode cX4_loadOn 2 = .ok (.invokevirtual 107, 3) := by decide +kernel
theorem dX4_loadOn_5 : decode cX4_loadOn 5 = .ok (.aload_n 0, 1) := by decide +kernel
theorem dX4_loadOn_6 : decode cX4_loadOn 6 = .ok (.iload_n 2, 1) := by decide +kernel
theorem dX4_loadOn_7 : decode cX4_loadOn 7 = .ok (.invokevirtual 110, 3) := by decide +kernel
theorem dX4_loadOn_10 : decode cX4_loadOn 10 = .ok (.aload_n 0, 1) := by decide +kernel
theorem dX4_loadOn_11 : decode cX4_loadOn 11 = .ok (.getfield 17, 3) := by decide +kernel
theorem dX4_loadOn_14 : decode cX4_loadOn 14 = .ok (.iload_n 1, 1) := by decide +kernel
theorem dX4_loadOn_15 : decode cX4_loadOn 15 = .ok (.aaload, 1) := by decide +kernel
theorem dX4_loadOn_16 : decode cX4_loadOn 16 = .ok (.iload_n 2, 1) := by decide +kernel
theorem dX4_loadOn_17 : decode cX4_loadOn 17 = .ok (.invokevirtual 214, 3) := by decide +kernel
theorem dX4_loadOn_20 : decode cX4_loadOn 20 = .ok (.ireturn, 1) := by decide +kernel
theorem dX4_mayBear_0 : decode cX4_mayBear 0 = .ok (.aload_n 0, 1) := by decide +kernel
theorem dX4_mayBear_1 : decode cX4_mayBear 1 = .ok (.iload_n 1, 1) := by decide +kernel
theorem dX4_mayBear_2 : decode cX4_mayBear 2 = .ok (.invokevirtual 110, 3) := by decide +kernel
theorem dX4_mayBear_5 : decode cX4_mayBear 5 = .ok (.aload_n 0, 1) := by decide +kernel
theorem dX4_mayBear_6 : decode cX4_mayBear 6 = .ok (.getfield 54, 3) := by decide +kernel
theorem dX4_mayBear_9 : decode cX4_mayBear 9 = .ok (.astore_n 2, 1) := by decide +kernel
theorem dX4_mayBear_10 : decode cX4_mayBear 10 = .ok (.aload_n 2, 1) := by decide +kernel
theorem dX4_mayBear_11 : decode cX4_mayBear 11 = .ok (.ifnonnull 13, 3) := by decide +kernel
theorem dX4_mayBear_14 : decode cX4_mayBear 14 = .ok (.new 80, 3) := by decide +kernel
theorem dX4_mayBear_17 : decode cX4_mayBear 17 = .ok (.dup, 1) := by decide +kernel
theorem dX4_mayBear_18 : decode cX4_mayBear 18 = .ok (.ldc 208, 2) := by decide +kernel
theorem dX4_mayBear_20 : decode cX4_mayBear 20 = .ok (.invokespecial 84, 3) := by decide +kernel
theorem dX4_mayBear_23 : decode cX4_mayBear 23 = .ok (.athrow, 1) := by decide +kernel
theorem dX4_mayBear_24 : decode cX4_mayBear 24 = .ok (.aload_n 2, 1) := by decide +kernel
theorem dX4_mayBear_25 : decode cX4_mayBear 25 = .ok (.aload_n 0, 1) := by decide +kernel
theorem dX4_mayBear_26 : decode cX4_mayBear 26 = .ok (.getfield 11, 3) := by decide +kernel
theorem dX4_mayBear_29 : decode cX4_mayBear 29 = .ok (.iload_n 1, 1) := by decide +kernel
theorem dX4_mayBear_30 : decode cX4_mayBear 30 = .ok (.aaload, 1) := by decide +kernel
theorem dX4_mayBear_31 : decode cX4_mayBear 31 = .ok (.invokevirtual 217, 3) := by decide +kernel
theorem dX4_mayBear_34 : decode cX4_mayBear 34 = .ok (.ireturn, 1) := by decide +kernel
theorem dX4_bears_0 : decode cX4_bears 0 = .ok (.aload_n 0, 1) := by decide +kernel
theorem dX4_bears_1 : decode cX4_bears 1 = .ok (.iload_n 1, 1) := by decide +kernel
theorem dX4_bears_2 : decode cX4_bears 2 = .ok (.invokevirtual 110, 3) := by decide +kernel
theorem dX4_bears_5 : decode cX4_bears 5 = .ok (.aload_n 0, 1) := by decide +kernel
theorem dX4_bears_6 : decode cX4_bears 6 = .ok (.getfield 34, 3) := by decide +kernel
theorem dX4_bears_9 : decode cX4_bears 9 = .ok (.getfield 221, 3) := by decide +kernel
theorem dX4_bears_12 : decode cX4_bears 12 = .ok (.iload_n 1, 1) := by decide +kernel
theorem dX4_bears_13 : decode cX4_bears 13 = .ok (.iaload, 1) := by decide +kernel
theorem dX4_bears_14 : decode cX4_bears 14 = .ok (.ireturn, 1) := by decide +kernel
theorem dX4_reason_0 : decode cX4_reason 0 = .ok (.aload_n 0, 1) := by decide +kernel
theorem dX4_reason_1 : decode cX4_reason 1 = .ok (.iload_n 1, 1) := by decide +kernel
theorem dX4_reason_2 : decode cX4_reason 2 = .ok (.invokevirtual 107, 3) := by decide +kernel
theorem dX4_reason_5 : decode cX4_reason 5 = .ok (.aload_n 0, 1) := by decide +kernel
theorem dX4_reason_6 : decode cX4_reason 6 = .ok (.aload_n 0, 1) := by decide +kernel
theorem dX4_reason_7 : decode cX4_reason 7 = .ok (.getfield 34, 3) := by decide +kernel
theorem dX4_reason_10 : decode cX4_reason 10 = .ok (.iload_n 1, 1) := by decide +kernel
theorem dX4_reason_11 : decode cX4_reason 11 = .ok (.invokevirtual 224, 3) := by decide +kernel
theorem dX4_reason_14 : decode cX4_reason 14 = .ok (.ireturn, 1) := by decide +kernel
theorem dX4_hang_0 : decode cX4_hang 0 = .ok (.aload_n 0, 1) := by decide +kernel
theorem dX4_hang_1 : decode cX4_hang 1 = .ok (.iload_n 1, 1) := by decide +kernel
theorem dX4_hang_2 : decode cX4_hang 2 = .ok (.invokevirtual 107, 3) := by decide +kernel
theorem dX4_hang_5 : decode cX4_hang 5 = .ok (.aload_n 0, 1) := by decide +kernel
theorem dX4_hang_6 : decode cX4_hang 6 = .ok (.getfield 54, 3) := by decide +kernel
theorem dX4_hang_9 : decode cX4_hang 9 = .ok (.astore_n 2, 1) := by decide +kernel
theorem dX4_hang_10 : decode cX4_hang 10 = .ok (.aload_n 2, 1) := by decide +kernel
theorem dX4_hang_11 : decode cX4_hang 11 = .ok (.ifnull 17, 3) := by decide +kernel
theorem dX4_hang_14 : decode cX4_hang 14 = .ok (.aload_n 0, 1) := by decide +kernel
theorem dX4_hang_15 : decode cX4_hang 15 = .ok (.aload_n 0, 1) := by decide +kernel
theorem dX4_hang_16 : decode cX4_hang 16 = .ok (.getfield 34, 3) := by decide +kernel
theorem dX4_hang_19 : decode cX4_hang 19 = .ok (.iload_n 1, 1) := by decide +kernel
theorem dX4_hang_20 : decode cX4_hang 20 = .ok (.invokevirtual 224, 3) := by decide +kernel
theorem dX4_hang_23 : decode cX4_hang 23 = .ok (.bipush 45, 2) := by decide +kernel
theorem dX4_hang_25 : decode cX4_hang 25 = .ok (.if_icmp .eq 13, 3) := by decide +kernel
theorem dX4_hang_28 : decode cX4_hang 28 = .ok (.new 80, 3) := by decide +kernel
theorem dX4_hang_31 : decode cX4_hang 31 = .ok (.dup, 1) := by decide +kernel
theorem dX4_hang_32 : decode cX4_hang 32 = .ok (.ldc 228, 2) := by decide +kernel
theorem dX4_hang_34 : decode cX4_hang 34 = .ok (.invokespecial 84, 3) := by decide +kernel
theorem dX4_hang_37 : decode cX4_hang 37 = .ok (.athrow, 1) := by decide +kernel
theorem dX4_hang_38 : decode cX4_hang 38 = .ok (.aload_n 0, 1) := by decide +kernel
theorem dX4_hang_39 : decode cX4_hang 39 = .ok (.aload_n 0, 1) := by decide +kernel
theorem dX4_hang_40 : decode cX4_hang 40 = .ok (.getfield 34, 3) := by decide +kernel
theorem dX4_hang_43 : decode cX4_hang 43 = .ok (.iload_n 1, 1) := by decide +kernel
theorem dX4_hang_44 : decode cX4_hang 44 = .ok (.aload_n 2, 1) := by decide +kernel
theorem dX4_hang_45 : decode cX4_hang 45 = .ok (.invokevirtual 230, 3) := by decide +kernel
theorem dX4_hang_48 : decode cX4_hang 48 = .ok (.aload_n 0, 1) := by decide +kernel
theorem dX4_hang_49 : decode cX4_hang 49 = .ok (.getfield 34, 3) := by decide +kernel
theorem dX4_hang_52 : decode cX4_hang 52 = .ok (.invokevirtual 234, 3) := by decide +kernel
theorem dX4_hang_55 : decode cX4_hang 55 = .ok (.ireturn, 1) := by decide +kernel
theorem dX4_takeDown_0 : decode cX4_takeDown 0 = .ok (.aload_n 0, 1) := by decide +kernel
theorem dX4_takeDown_1 : decode cX4_takeDown 1 = .ok (.getfield 34, 3) := by decide +kernel
theorem dX4_takeDown_4 : decode cX4_takeDown 4 = .ok (.getfield 200, 3) := by decide +kernel
theorem dX4_takeDown_7 : decode cX4_takeDown 7 = .ok (.ifCond .gt 13, 3) := by decide +kernel
theorem dX4_takeDown_10 : decode cX4_takeDown 10 = .ok (.new 80, 3) := by decide +kernel
theorem dX4_takeDown_13 : decode cX4_takeDown 13 = .ok (.dup, 1) := by decide +kernel
theorem dX4_takeDown_14 : decode cX4_takeDown 14 = .ok (.ldc 238, 2) := by decide +kernel
theorem dX4_takeDown_16 : decode cX4_takeDown 16 = .ok (.invokespecial 84, 3) := by decide +kernel
theorem dX4_takeDown_19 : decode cX4_takeDown 19 = .ok (.athrow, 1) := by decide +kernel
theorem dX4_takeDown_20 : decode cX4_takeDown 20 = .ok (.aload_n 0, 1) := by decide +kernel
theorem dX4_takeDown_21 : decode cX4_takeDown 21 = .ok (.getfield 34, 3) := by decide +kernel
theorem dX4_takeDown_24 : decode cX4_takeDown 24 = .ok (.getfield 240, 3) := by decide +kernel
theorem dX4_takeDown_27 : decode cX4_takeDown 27 = .ok (.aload_n 0, 1) := by decide +kernel
theorem dX4_takeDown_28 : decode cX4_takeDown 28 = .ok (.getfield 34, 3) := by decide +kernel
theorem dX4_takeDown_31 : decode cX4_takeDown 31 = .ok (.getfield 200, 3) := by decide +kernel
theorem dX4_takeDown_34 : decode cX4_takeDown 34 = .ok (.iconst 1, 1) := by decide +kernel
theorem dX4_takeDown_35 : decode cX4_takeDown 35 = .ok (.isub, 1) := by decide +kernel
theorem dX4_takeDown_36 : decode cX4_takeDown 36 = .ok (.iaload, 1) := by decide +kernel
theorem dX4_takeDown_37 : decode cX4_takeDown 37 = .ok (.istore_n 1, 1) := by decide +kernel
theorem dX4_takeDown_38 : decode cX4_takeDown 38 = .ok (.aload_n 0, 1) := by decide +kernel
theorem dX4_takeDown_39 : decode cX4_takeDown 39 = .ok (.aload_n 0, 1) := by decide +kernel
theorem dX4_takeDown_40 : decode cX4_takeDown 40 = .ok (.getfield 34, 3) := by decide +kernel
theorem dX4_takeDown_43 : decode cX4_takeDown 43 = .ok (.invokevirtual 243, 3) := by decide +kernel
theorem dX4_takeDown_46 : decode cX4_takeDown 46 = .ok (.iload_n 1, 1) := by decide +kernel
theorem dX4_takeDown_47 : decode cX4_takeDown 47 = .ok (.ireturn, 1) := by decide +kernel
theorem dX4_hung_0 : decode cX4_hung 0 = .ok (.aload_n 0, 1) := by decide +kernel
theorem dX4_hung_1 : decode cX4_hung 1 = .ok (.getfield 34, 3) := by decide +kernel
theorem dX4_hung_4 : decode cX4_hung 4 = .ok (.getfield 200, 3) := by decide +kernel
theorem dX4_hung_7 : decode cX4_hung 7 = .ok (.ireturn, 1) := by decide +kernel
theorem dX4_hungAt_0 : decode cX4_hungAt 0 = .ok (.aload_n 0, 1) := by decide +kernel
theorem dX4_hungAt_1 : decode cX4_hungAt 1 = .ok (.getfield 34, 3) := by decide +kernel
theorem dX4_hungAt_4 : decode cX4_hungAt 4 = .ok (.iload_n 1, 1) := by decide +kernel
theorem dX4_hungAt_5 : decode cX4_hungAt 5 = .ok (.invokestatic 247, 3) := by decide +kernel
theorem dX4_hungAt_8 : decode cX4_hungAt 8 = .ok (.ireturn, 1) := by decide +kernel
theorem dX4_beginOf_0 : decode cX4_beginOf 0 = .ok (.aload_n 0, 1) := by decide +kernel
theorem dX4_beginOf_1 : decode cX4_beginOf 1 = .ok (.getfield 34, 3) := by decide +kernel
theorem dX4_beginOf_4 : decode cX4_beginOf 4 = .ok (.iload_n 1, 1) := by decide +kernel
theorem dX4_beginOf_5 : decode cX4_beginOf 5 = .ok (.invokevirtual 251, 3) := by decide +kernel
theorem dX4_beginOf_8 : decode cX4_beginOf 8 = .ok (.istore_n 2, 1) := by decide +kernel
theorem dX4_beginOf_9 : decode cX4_beginOf 9 = .ok (.iload_n 2, 1) := by decide +kernel
theorem dX4_beginOf_10 : decode cX4_beginOf 10 = .ok (.ifCond .ge 13, 3) := by decide +kernel
theorem dX4_beginOf_13 : decode cX4_beginOf 13 = .ok (.new 206, 3) := by decide +kernel
theorem dX4_beginOf_16 : decode cX4_beginOf 16 = .ok (.dup, 1) := by decide +kernel
theorem dX4_beginOf_17 : decode cX4_beginOf 17 = .ok (.ldc 254, 2) := by decide +kernel
theorem dX4_beginOf_19 : decode cX4_beginOf 19 = .ok (.invokespecial 210, 3) := by decide +kernel
theorem dX4_beginOf_22 : decode cX4_beginOf 22 = .ok (.athrow, 1) := by decide +kernel
theorem dX4_beginOf_23 : decode cX4_beginOf 23 = .ok (.aload_n 0, 1) := by decide +kernel
theorem dX4_beginOf_24 : decode cX4_beginOf 24 = .ok (.getfield 34, 3) := by decide +kernel
theorem dX4_beginOf_27 : decode cX4_beginOf 27 = .ok (.getfield 256, 3) := by decide +kernel
theorem dX4_beginOf_30 : decode cX4_beginOf 30 = .ok (.iload_n 2, 1) := by decide +kernel
theorem dX4_beginOf_31 : decode cX4_beginOf 31 = .ok (.iaload, 1) := by decide +kernel
theorem dX4_beginOf_32 : decode cX4_beginOf 32 = .ok (.ireturn, 1) := by decide +kernel
theorem dX4_end_0 : decode cX4_end 0 = .ok (.aload_n 0, 1) := by decide +kernel
theorem dX4_end_1 : decode cX4_end 1 = .ok (.getfield 34, 3) := by decide +kernel
theorem dX4_end_4 : decode cX4_end 4 = .ok (.invokevirtual 234, 3) := by decide +kernel
theorem dX4_end_7 : decode cX4_end 7 = .ok (.ireturn, 1) := by decide +kernel
theorem dX4_work_0 : decode cX4_work 0 = .ok (.aload_n 0, 1) := by decide +kernel
theorem dX4_work_1 : decode cX4_work 1 = .ok (.getfield 34, 3) := by decide +kernel
theorem dX4_work_4 : decode cX4_work 4 = .ok (.invokevirtual 259, 3) := by decide +kernel
theorem dX4_work_7 : decode cX4_work 7 = .ok (.ireturn, 1) := by decide +kernel
theorem dX4_cost_0 : decode cX4_cost 0 = .ok (.aload_n 0, 1) := by decide +kernel
theorem dX4_cost_1 : decode cX4_cost 1 = .ok (.aload_n 0, 1) := by decide +kernel
theorem dX4_cost_2 : decode cX4_cost 2 = .ok (.getfield 34, 3) := by decide +kernel
theorem dX4_cost_5 : decode cX4_cost 5 = .ok (.invokevirtual 262, 3) := by decide +kernel
theorem dX4_cost_8 : decode cX4_cost 8 = .ok (.i2l, 1) := by decide +kernel
theorem dX4_cost_9 : decode cX4_cost 9 = .ok (.lreturn, 1) := by decide +kernel
theorem dX4_costByMinutes_0 : decode cX4_costByMinutes 0 = .ok (.aload_n 0, 1) := by decide +kernel
theorem dX4_costByMinutes_1 : decode cX4_costByMinutes 1 = .ok (.invokevirtual 266, 3) := by decide +kernel
theorem dX4_costByMinutes_4 : decode cX4_costByMinutes 4 = .ok (.lreturn, 1) := by decide +kernel
theorem dX4_bestWorth_0 : decode cX4_bestWorth 0 = .ok (.aload_n 0, 1) := by decide +kernel
theorem dX4_bestWorth_1 : decode cX4_bestWorth 1 = .ok (.invokevirtual 270, 3) := by decide +kernel
theorem dX4_bestWorth_4 : decode cX4_bestWorth 4 = .ok (.aload_n 0, 1) := by decide +kernel
theorem dX4_bestWorth_5 : decode cX4_bestWorth 5 = .ok (.getfield 41, 3) := by decide +kernel
theorem dX4_bestWorth_8 : decode cX4_bestWorth 8 = .ok (.getfield 273, 3) := by decide +kernel
theorem dX4_bestWorth_11 : decode cX4_bestWorth 11 = .ok (.ireturn, 1) := by decide +kernel
theorem dX4_bestByAll_0 : decode cX4_bestByAll 0 = .ok (.aload_n 0, 1) := by decide +kernel
theorem dX4_bestByAll_1 : decode cX4_bestByAll 1 = .ok (.invokevirtual 274, 3) := by decide +kernel
theorem dX4_bestByAll_4 : decode cX4_bestByAll 4 = .ok (.aload_n 0, 1) := by decide +kernel
theorem dX4_bestByAll_5 : decode cX4_bestByAll 5 = .ok (.getfield 61, 3) := by decide +kernel
theorem dX4_bestByAll_8 : decode cX4_bestByAll 8 = .ok (.ireturn, 1) := by decide +kernel
theorem dX4_bestEnd_0 : decode cX4_bestEnd 0 = .ok (.aload_n 0, 1) := by decide +kernel
theorem dX4_bestEnd_1 : decode cX4_bestEnd 1 = .ok (.invokevirtual 270, 3) := by decide +kernel
theorem dX4_bestEnd_4 : decode cX4_bestEnd 4 = .ok (.aload_n 0, 1) := by decide +kernel
theorem dX4_bestEnd_5 : decode cX4_bestEnd 5 = .ok (.getfield 41, 3) := by decide +kernel
theorem dX4_bestEnd_8 : decode cX4_bestEnd 8 = .ok (.invokevirtual 234, 3) := by decide +kernel
theorem dX4_bestEnd_11 : decode cX4_bestEnd 11 = .ok (.ireturn, 1) := by decide +kernel
theorem dX4_bestCost_0 : decode cX4_bestCost 0 = .ok (.aload_n 0, 1) := by decide +kernel
theorem dX4_bestCost_1 : decode cX4_bestCost 1 = .ok (.invokevirtual 270, 3) := by decide +kernel
theorem dX4_bestCost_4 : decode cX4_bestCost 4 = .ok (.aload_n 0, 1) := by decide +kernel
theorem dX4_bestCost_5 : decode cX4_bestCost 5 = .ok (.aload_n 0, 1) := by decide +kernel
theorem dX4_bestCost_6 : decode cX4_bestCost 6 = .ok (.getfield 41, 3) := by decide +kernel
theorem dX4_bestCost_9 : decode cX4_bestCost 9 = .ok (.invokevirtual 262, 3) := by decide +kernel
theorem dX4_bestCost_12 : decode cX4_bestCost 12 = .ok (.ireturn, 1) := by decide +kernel
theorem dX4_bestSize_0 : decode cX4_bestSize 0 = .ok (.aload_n 0, 1) := by decide +kernel
theorem dX4_bestSize_1 : decode cX4_bestSize 1 = .ok (.invokevirtual 270, 3) := by decide +kernel
theorem dX4_bestSize_4 : decode cX4_bestSize 4 = .ok (.aload_n 0, 1) := by decide +kernel
theorem dX4_bestSize_5 : decode cX4_bestSize 5 = .ok (.getfield 41, 3) := by decide +kernel
theorem dX4_bestSize_8 : decode cX4_bestSize 8 = .ok (.getfield 200, 3) := by decide +kernel
theorem dX4_bestSize_11 : decode cX4_bestSize 11 = .ok (.ireturn, 1) := by decide +kernel
theorem dX4_bestAt_0 : decode cX4_bestAt 0 = .ok (.aload_n 0, 1) := by decide +kernel
theorem dX4_bestAt_1 : decode cX4_bestAt 1 = .ok (.invokevirtual 270, 3) := by decide +kernel
theorem dX4_bestAt_4 : decode cX4_bestAt 4 = .ok (.aload_n 0, 1) := by decide +kernel
theorem dX4_bestAt_5 : decode cX4_bestAt 5 = .ok (.getfield 41, 3) := by decide +kernel
theorem dX4_bestAt_8 : decode cX4_bestAt 8 = .ok (.iload_n 1, 1) := by decide +kernel
theorem dX4_bestAt_9 : decode cX4_bestAt 9 = .ok (.invokestatic 247, 3) := by decide +kernel
theorem dX4_bestAt_12 : decode cX4_bestAt 12 = .ok (.ireturn, 1) := by decide +kernel
theorem dX4_complete_0 : decode cX4_complete 0 = .ok (.aload_n 0, 1) := by decide +kernel
theorem dX4_complete_1 : decode cX4_complete 1 = .ok (.invokevirtual 270, 3) := by decide +kernel
theorem dX4_complete_4 : decode cX4_complete 4 = .ok (.aload_n 0, 1) := by decide +kernel
theorem dX4_complete_5 : decode cX4_complete 5 = .ok (.getfield 41, 3) := by decide +kernel
theorem dX4_complete_8 : decode cX4_complete 8 = .ok (.getfield 200, 3) := by decide +kernel
theorem dX4_complete_11 : decode cX4_complete 11 = .ok (.aload_n 0, 1) := by decide +kernel
theorem dX4_complete_12 : decode cX4_complete 12 = .ok (.getfield 34, 3) := by decide +kernel
theorem dX4_complete_15 : decode cX4_complete 15 = .ok (.getfield 200, 3) := by decide +kernel
theorem dX4_complete_18 : decode cX4_complete 18 = .ok (.isub, 1) := by decide +kernel
theorem dX4_complete_19 : decode cX4_complete 19 = .ok (.istore_n 1, 1) := by decide +kernel
theorem dX4_complete_20 : decode cX4_complete 20 = .ok (.aload_n 0, 1) := by decide +kernel
theorem dX4_complete_21 : decode cX4_complete 21 = .ok (.getfield 34, 3) := by decide +kernel
theorem dX4_complete_24 : decode cX4_complete 24 = .ok (.aload_n 0, 1) := by decide +kernel
theorem dX4_complete_25 : decode cX4_complete 25 = .ok (.getfield 41, 3) := by decide +kernel
theorem dX4_complete_28 : decode cX4_complete 28 = .ok (.invokevirtual 277, 3) := by decide +kernel
theorem dX4_complete_31 : decode cX4_complete 31 = .ok (.iload_n 1, 1) := by decide +kernel
theorem dX4_complete_32 : decode cX4_complete 32 = .ok (.ireturn, 1) := by decide +kernel
theorem dX4_completions_0 : decode cX4_completions 0 = .ok (.aload_n 0, 1) := by decide +kernel
theorem dX4_completions_1 : decode cX4_completions 1 = .ok (.invokevirtual 274, 3) := by decide +kernel
theorem dX4_completions_4 : decode cX4_completions 4 = .ok (.aload_n 0, 1) := by decide +kernel
theorem dX4_completions_5 : decode cX4_completions 5 = .ok (.getfield 58, 3) := by decide +kernel
theorem dX4_completions_8 : decode cX4_completions 8 = .ok (.ireturn, 1) := by decide +kernel
theorem dX4_tightest_0 : decode cX4_tightest 0 = .ok (.aload_n 0, 1) := by decide +kernel
theorem dX4_tightest_1 : decode cX4_tightest 1 = .ok (.getfield 54, 3) := by decide +kernel
theorem dX4_tightest_4 : decode cX4_tightest 4 = .ok (.astore_n 1, 1) := by decide +kernel
theorem dX4_tightest_5 : decode cX4_tightest 5 = .ok (.aload_n 1, 1) := by decide +kernel
theorem dX4_tightest_6 : decode cX4_tightest 6 = .ok (.ifnonnull 13, 3) := by decide +kernel
theorem dX4_tightest_9 : decode cX4_tightest 9 = .ok (.new 80, 3) := by decide +kernel
theorem dX4_tightest_12 : decode cX4_tightest 12 = .ok (.dup, 1) := by decide +kernel
theorem dX4_tightest_13 : decode cX4_tightest 13 = .ok (.ldc 208, 2) := by decide +kernel
theorem dX4_tightest_15 : decode cX4_tightest 15 = .ok (.invokespecial 84, 3) := by decide +kernel
theorem dX4_tightest_18 : decode cX4_tightest 18 = .ok (.athrow, 1) := by decide +kernel
theorem dX4_tightest_19 : decode cX4_tightest 19 = .ok (.aload_n 0, 1) := by decide +kernel
theorem dX4_tightest_20 : decode cX4_tightest 20 = .ok (.getfield 44, 3) := by decide +kernel
theorem dX4_tightest_23 : decode cX4_tightest 23 = .ok (.ifCond .ne 14, 3) := by decide +kernel
theorem dX4_tightest_26 : decode cX4_tightest 26 = .ok (.new 206, 3) := by decide +kernel
theorem dX4_tightest_29 : decode cX4_tightest 29 = .ok (.dup, 1) := by decide +kernel
theorem dX4_tightest_30 : decode cX4_tightest 30 = .ok (.ldc_w 280, 3) := by decide +kernel
theorem dX4_tightest_33 : decode cX4_tightest 33 = .ok (.invokespecial 210, 3) := by decide +kernel
theorem dX4_tightest_36 : decode cX4_tightest 36 = .ok (.athrow, 1) := by decide +kernel
theorem dX4_tightest_37 : decode cX4_tightest 37 = .ok (.iconst 0, 1) := by decide +kernel
theorem dX4_tightest_38 : decode cX4_tightest 38 = .ok (.istore_n 2, 1) := by decide +kernel
theorem dX4_tightest_39 : decode cX4_tightest 39 = .ok (.iconst 1, 1) := by decide +kernel
theorem dX4_tightest_40 : decode cX4_tightest 40 = .ok (.istore_n 3, 1) := by decide +kernel
theorem dX4_tightest_41 : decode cX4_tightest 41 = .ok (.iload_n 3, 1) := by decide +kernel
theorem dX4_tightest_42 : decode cX4_tightest 42 = .ok (.aload_n 0, 1) := by decide +kernel
theorem dX4_tightest_43 : decode cX4_tightest 43 = .ok (.getfield 44, 3) := by decide +kernel
theorem dX4_tightest_46 : decode cX4_tightest 46 = .ok (.if_icmp .ge 26, 3) := by decide +kernel
theorem dX4_tightest_49 : decode cX4_tightest 49 = .ok (.aload_n 0, 1) := by decide +kernel
theorem dX4_tightest_50 : decode cX4_tightest 50 = .ok (.iload_n 3, 1) := by decide +kernel
theorem dX4_tightest_51 : decode cX4_tightest 51 = .ok (.aload_n 1, 1) := by decide +kernel
theorem dX4_tightest_52 : decode cX4_tightest 52 = .ok (.invokevirtual 282, 3) := by decide +kernel
theorem dX4_tightest_55 : decode cX4_tightest 55 = .ok (.aload_n 0, 1) := by decide +kernel
theorem dX4_tightest_56 : decode cX4_tightest 56 = .ok (.iload_n 2, 1) := by decide +kernel
theorem dX4_tightest_57 : decode cX4_tightest 57 = .ok (.aload_n 1, 1) := by decide +kernel
theorem dX4_tightest_58 : decode cX4_tightest 58 = .ok (.invokevirtual 282, 3) := by decide +kernel
theorem dX4_tightest_61 : decode cX4_tightest 61 = .ok (.if_icmp .ge 5, 3) := by decide +kernel
theorem dX4_tightest_64 : decode cX4_tightest 64 = .ok (.iload_n 3, 1) := by decide +kernel
theorem dX4_tightest_65 : decode cX4_tightest 65 = .ok (.istore_n 2, 1) := by decide +kernel
theorem dX4_tightest_66 : decode cX4_tightest 66 = .ok (.iinc 3 1, 3) := by decide +kernel
theorem dX4_tightest_69 : decode cX4_tightest 69 = .ok (.goto (-28), 3) := by decide +kernel
theorem dX4_tightest_72 : decode cX4_tightest 72 = .ok (.iload_n 2, 1) := by decide +kernel
theorem dX4_tightest_73 : decode cX4_tightest 73 = .ok (.ireturn, 1) := by decide +kernel
theorem dX4_hungShare_0 : decode cX4_hungShare 0 = .ok (.aload_n 0, 1) := by decide +kernel
theorem dX4_hungShare_1 : decode cX4_hungShare 1 = .ok (.getfield 48, 3) := by decide +kernel
theorem dX4_hungShare_4 : decode cX4_hungShare 4 = .ok (.ifCond .ne 14, 3) := by decide +kernel
theorem dX4_hungShare_7 : decode cX4_hungShare 7 = .ok (.new 286, 3) := by decide +kernel
theorem dX4_hungShare_10 : decode cX4_hungShare 10 = .ok (.dup, 1) := by decide +kernel
theorem dX4_hungShare_11 : decode cX4_hungShare 11 = .ok (.ldc_w 288, 3) := by decide +kernel
theorem dX4_hungShare_14 : decode cX4_hungShare 14 = .ok (.invokespecial 290, 3) := by decide +kernel
theorem dX4_hungShare_17 : decode cX4_hungShare 17 = .ok (.athrow, 1) := by decide +kernel
theorem dX4_hungShare_18 : decode cX4_hungShare 18 = .ok (.aload_n 0, 1) := by decide +kernel
theorem dX4_hungShare_19 : decode cX4_hungShare 19 = .ok (.getfield 34, 3) := by decide +kernel
theorem dX4_hungShare_22 : decode cX4_hungShare 22 = .ok (.getfield 200, 3) := by decide +kernel
theorem dX4_hungShare_25 : decode cX4_hungShare 25 = .ok (.i2f, 1) := by decide +kernel
theorem dX4_hungShare_26 : decode cX4_hungShare 26 = .ok (.aload_n 0, 1) := by decide +kernel
theorem dX4_hungShare_27 : decode cX4_hungShare 27 = .ok (.getfield 48, 3) := by decide +kernel
theorem dX4_hungShare_30 : decode cX4_hungShare 30 = .ok (.i2f, 1) := by decide +kernel
theorem dX4_hungShare_31 : decode cX4_hungShare 31 = .ok (.fdiv, 1) := by decide +kernel
theorem dX4_hungShare_32 : decode cX4_hungShare 32 = .ok (.freturn, 1) := by decide +kernel
theorem dX4_meanLoad_0 : decode cX4_meanLoad 0 = .ok (.aload_n 0, 1) := by decide +kernel
theorem dX4_meanLoad_1 : decode cX4_meanLoad 1 = .ok (.getfield 44, 3) := by decide +kernel
theorem dX4_meanLoad_4 : decode cX4_meanLoad 4 = .ok (.ifCond .ne 14, 3) := by decide +kernel
theorem dX4_meanLoad_7 : decode cX4_meanLoad 7 = .ok (.new 286, 3) := by decide +kernel
theorem dX4_meanLoad_10 : decode cX4_meanLoad 10 = .ok (.dup, 1) := by decide +kernel
theorem dX4_meanLoad_11 : decode cX4_meanLoad 11 = .ok (.ldc_w 291, 3) := by decide +kernel
theorem dX4_meanLoad_14 : decode cX4_meanLoad 14 = .ok (.invokespecial 290, 3) := by decide +kernel
theorem dX4_meanLoad_17 : decode cX4_meanLoad 17 = .ok (.athrow, 1) := by decide +kernel
theorem dX4_meanLoad_18 : decode cX4_meanLoad 18 = .ok (.iconst 0, 1) := by decide +kernel
theorem dX4_meanLoad_19 : decode cX4_meanLoad 19 = .ok (.istore_n 1, 1) := by decide +kernel
theorem dX4_meanLoad_20 : decode cX4_meanLoad 20 = .ok (.iconst 0, 1) := by decide +kernel
theorem dX4_meanLoad_21 : decode cX4_meanLoad 21 = .ok (.istore_n 2, 1) := by decide +kernel
theorem dX4_meanLoad_22 : decode cX4_meanLoad 22 = .ok (.iload_n 2, 1) := by decide +kernel
theorem dX4_meanLoad_23 : decode cX4_meanLoad 23 = .ok (.aload_n 0, 1) := by decide +kernel
theorem dX4_meanLoad_24 : decode cX4_meanLoad 24 = .ok (.getfield 44, 3) := by decide +kernel
theorem dX4_meanLoad_27 : decode cX4_meanLoad 27 = .ok (.if_icmp .ge 21, 3) := by decide +kernel
theorem dX4_meanLoad_30 : decode cX4_meanLoad 30 = .ok (.iload_n 1, 1) := by decide +kernel
theorem dX4_meanLoad_31 : decode cX4_meanLoad 31 = .ok (.aload_n 0, 1) := by decide +kernel
theorem dX4_meanLoad_32 : decode cX4_meanLoad 32 = .ok (.getfield 34, 3) := by decide +kernel
theorem dX4_meanLoad_35 : decode cX4_meanLoad 35 = .ok (.getfield 221, 3) := by decide +kernel
theorem dX4_meanLoad_38 : decode cX4_meanLoad 38 = .ok (.iload_n 2, 1) := by decide +kernel
theorem dX4_meanLoad_39 : decode cX4_meanLoad 39 = .ok (.iaload, 1) := by decide +kernel
theorem dX4_meanLoad_40 : decode cX4_meanLoad 40 = .ok (.iadd, 1) := by decide +kernel
theorem dX4_meanLoad_41 : decode cX4_meanLoad 41 = .ok (.istore_n 1, 1) := by decide +kernel
theorem dX4_meanLoad_42 : decode cX4_meanLoad 42 = .ok (.iinc 2 1, 3) := by decide +kernel
theorem dX4_meanLoad_45 : decode cX4_meanLoad 45 = .ok (.goto (-23), 3) := by decide +kernel
theorem dX4_meanLoad_48 : decode cX4_meanLoad 48 = .ok (.iload_n 1, 1) := by decide +kernel
theorem dX4_meanLoad_49 : decode cX4_meanLoad 49 = .ok (.i2d, 1) := by decide +kernel
theorem dX4_meanLoad_50 : decode cX4_meanLoad 50 = .ok (.aload_n 0, 1) := by decide +kernel
theorem dX4_meanLoad_51 : decode cX4_meanLoad 51 = .ok (.getfield 44, 3) := by decide +kernel
theorem dX4_meanLoad_54 : decode cX4_meanLoad 54 = .ok (.i2d, 1) := by decide +kernel
theorem dX4_meanLoad_55 : decode cX4_meanLoad 55 = .ok (.ddiv, 1) := by decide +kernel
theorem dX4_meanLoad_56 : decode cX4_meanLoad 56 = .ok (.dreturn, 1) := by decide +kernel
theorem dX4_isSound_0 : decode cX4_isSound 0 = .ok (.aload_n 0, 1) := by decide +kernel
theorem dX4_isSound_1 : decode cX4_isSound 1 = .ok (.getfield 54, 3) := by decide +kernel
theorem dX4_isSound_4 : decode cX4_isSound 4 = .ok (.astore_n 1, 1) := by decide +kernel
theorem dX4_isSound_5 : decode cX4_isSound 5 = .ok (.aload_n 1, 1) := by decide +kernel
theorem dX4_isSound_6 : decode cX4_isSound 6 = .ok (.ifnonnull 5, 3) := by decide +kernel
theorem dX4_isSound_9 : decode cX4_isSound 9 = .ok (.iconst 1, 1) := by decide +kernel
theorem dX4_isSound_10 : decode cX4_isSound 10 = .ok (.ireturn, 1) := by decide +kernel
theorem dX4_isSound_11 : decode cX4_isSound 11 = .ok (.aload_n 0, 1) := by decide +kernel
theorem dX4_isSound_12 : decode cX4_isSound 12 = .ok (.invokevirtual 270, 3) := by decide +kernel
theorem dX4_isSound_15 : decode cX4_isSound 15 = .ok (.aload_n 0, 1) := by decide +kernel
theorem dX4_isSound_16 : decode cX4_isSound 16 = .ok (.invokevirtual 274, 3) := by decide +kernel
theorem dX4_isSound_19 : decode cX4_isSound 19 = .ok (.aload_n 0, 1) := by decide +kernel
theorem dX4_isSound_20 : decode cX4_isSound 20 = .ok (.aload_n 1, 1) := by decide +kernel
theorem dX4_isSound_21 : decode cX4_isSound 21 = .ok (.invokevirtual 293, 3) := by decide +kernel
theorem dX4_isSound_24 : decode cX4_isSound 24 = .ok (.ifCond .eq 45, 3) := by decide +kernel
theorem dX4_isSound_27 : decode cX4_isSound 27 = .ok (.aload_n 0, 1) := by decide +kernel
theorem dX4_isSound_28 : decode cX4_isSound 28 = .ok (.invokevirtual 297, 3) := by decide +kernel
theorem dX4_isSound_31 : decode cX4_isSound 31 = .ok (.ifCond .eq 38, 3) := by decide +kernel
theorem dX4_isSound_34 : decode cX4_isSound 34 = .ok (.aload_n 0, 1) := by decide +kernel
theorem dX4_isSound_35 : decode cX4_isSound 35 = .ok (.aload_n 0, 1) := by decide +kernel
theorem dX4_isSound_36 : decode cX4_isSound 36 = .ok (.getfield 34, 3) := by decide +kernel
theorem dX4_isSound_39 : decode cX4_isSound 39 = .ok (.invokevirtual 262, 3) := by decide +kernel
theorem dX4_isSound_42 : decode cX4_isSound 42 = .ok (.i2l, 1) := by decide +kernel
theorem dX4_isSound_43 : decode cX4_isSound 43 = .ok (.aload_n 0, 1) := by decide +kernel
theorem dX4_isSound_44 : decode cX4_isSound 44 = .ok (.invokevirtual 266, 3) := by decide +kernel
theorem dX4_isSound_47 : decode cX4_isSound 47 = .ok (.lcmp, 1) := by decide +kernel
theorem dX4_isSound_48 : decode cX4_isSound 48 = .ok (.ifCond .ne 21, 3) := by decide +kernel
theorem dX4_isSound_51 : decode cX4_isSound 51 = .ok (.aload_n 0, 1) := by decide +kernel
theorem dX4_isSound_52 : decode cX4_isSound 52 = .ok (.getfield 41, 3) := by decide +kernel
theorem dX4_isSound_55 : decode cX4_isSound 55 = .ok (.getfield 273, 3) := by decide +kernel
theorem dX4_isSound_58 : decode cX4_isSound 58 = .ok (.aload_n 0, 1) := by decide +kernel
theorem dX4_isSound_59 : decode cX4_isSound 59 = .ok (.getfield 61, 3) := by decide +kernel
theorem dX4_isSound_62 : decode cX4_isSound 62 = .ok (.if_icmp .ne 7, 3) := by decide +kernel
theorem dX4_isSound_65 : decode cX4_isSound 65 = .ok (.iconst 1, 1) := by decide +kernel
theorem dX4_isSound_66 : decode cX4_isSound 66 = .ok (.goto 4, 3) := by decide +kernel
theorem dX4_isSound_69 : decode cX4_isSound 69 = .ok (.iconst 0, 1) := by decide +kernel
theorem dX4_isSound_70 : decode cX4_isSound 70 = .ok (.ireturn, 1) := by decide +kernel
theorem dX4_isOutside_0 : decode cX4_isOutside 0 = .ok (.iload_n 0, 1) := by decide +kernel
theorem dX4_isOutside_1 : decode cX4_isOutside 1 = .ok (.iload_n 1, 1) := by decide +kernel
theorem dX4_isOutside_2 : decode cX4_isOutside 2 = .ok (.if_icmp .lt 8, 3) := by decide +kernel
theorem dX4_isOutside_5 : decode cX4_isOutside 5 = .ok (.iload_n 0, 1) := by decide +kernel
theorem dX4_isOutside_6 : decode cX4_isOutside 6 = .ok (.iload_n 2, 1) := by decide +kernel
theorem dX4_isOutside_7 : decode cX4_isOutside 7 = .ok (.if_icmp .le 7, 3) := by decide +kernel
theorem dX4_isOutside_10 : decode cX4_isOutside 10 = .ok (.iconst 1, 1) := by decide +kernel
theorem dX4_isOutside_11 : decode cX4_isOutside 11 = .ok (.goto 4, 3) := by decide +kernel
theorem dX4_isOutside_14 : decode cX4_isOutside 14 = .ok (.iconst 0, 1) := by decide +kernel
theorem dX4_isOutside_15 : decode cX4_isOutside 15 = .ok (.ireturn, 1) := by decide +kernel
theorem dX4_checkPoint_0 : decode cX4_checkPoint 0 = .ok (.iload_n 1, 1) := by decide +kernel
theorem dX4_checkPoint_1 : decode cX4_checkPoint 1 = .ok (.iconst 0, 1) := by decide +kernel
theorem dX4_checkPoint_2 : decode cX4_checkPoint 2 = .ok (.aload_n 0, 1) := by decide +kernel
theorem dX4_checkPoint_3 : decode cX4_checkPoint 3 = .ok (.getfield 44, 3) := by decide +kernel
theorem dX4_checkPoint_6 : decode cX4_checkPoint 6 = .ok (.iconst 1, 1) := by decide +kernel
theorem dX4_checkPoint_7 : decode cX4_checkPoint 7 = .ok (.isub, 1) := by decide +kernel
theorem dX4_checkPoint_8 : decode cX4_checkPoint 8 = .ok (.invokestatic 69, 3) := by decide +kernel
theorem dX4_checkPoint_11 : decode cX4_checkPoint 11 = .ok (.ifCond .eq 14, 3) := by decide +kernel
theorem dX4_checkPoint_14 : decode cX4_checkPoint 14 = .ok (.new 157, 3) := by decide +kernel
theorem dX4_checkPoint_17 : decode cX4_checkPoint 17 = .ok (.dup, 1) := by decide +kernel
theorem dX4_checkPoint_18 : decode cX4_checkPoint 18 = .ok (.ldc_w 301, 3) := by decide +kernel
theorem dX4_checkPoint_21 : decode cX4_checkPoint 21 = .ok (.invokespecial 161, 3) := by decide +kernel
theorem dX4_checkPoint_24 : decode cX4_checkPoint 24 = .ok (.athrow, 1) := by decide +kernel
theorem dX4_checkPoint_25 : decode cX4_checkPoint 25 = .ok (.return_, 1) := by decide +kernel
theorem dX4_checkPiece_0 : decode cX4_checkPiece 0 = .ok (.iload_n 1, 1) := by decide +kernel
theorem dX4_checkPiece_1 : decode cX4_checkPiece 1 = .ok (.iconst 0, 1) := by decide +kernel
theorem dX4_checkPiece_2 : decode cX4_checkPiece 2 = .ok (.aload_n 0, 1) := by decide +kernel
theorem dX4_checkPiece_3 : decode cX4_checkPiece 3 = .ok (.getfield 48, 3) := by decide +kernel
theorem dX4_checkPiece_6 : decode cX4_checkPiece 6 = .ok (.iconst 1, 1) := by decide +kernel
theorem dX4_checkPiece_7 : decode cX4_checkPiece 7 = .ok (.isub, 1) := by decide +kernel
theorem dX4_checkPiece_8 : decode cX4_checkPiece 8 = .ok (.invokestatic 69, 3) := by decide +kernel
theorem dX4_checkPiece_11 : decode cX4_checkPiece 11 = .ok (.ifCond .eq 14, 3) := by decide +kernel
theorem dX4_checkPiece_14 : decode cX4_checkPiece 14 = .ok (.new 206, 3) := by decide +kernel
theorem dX4_checkPiece_17 : decode cX4_checkPiece 17 = .ok (.dup, 1) := by decide +kernel
theorem dX4_checkPiece_18 : decode cX4_checkPiece 18 = .ok (.ldc_w 303, 3) := by decide +kernel
theorem dX4_checkPiece_21 : decode cX4_checkPiece 21 = .ok (.invokespecial 210, 3) := by decide +kernel
theorem dX4_checkPiece_24 : decode cX4_checkPiece 24 = .ok (.athrow, 1) := by decide +kernel
theorem dX4_checkPiece_25 : decode cX4_checkPiece 25 = .ok (.return_, 1) := by decide +kernel
theorem dX4_checkTown_0 : decode cX4_checkTown 0 = .ok (.iload_n 1, 1) := by decide +kernel
theorem dX4_checkTown_1 : decode cX4_checkTown 1 = .ok (.iconst 0, 1) := by decide +kernel
theorem dX4_checkTown_2 : decode cX4_checkTown 2 = .ok (.aload_n 0, 1) := by decide +kernel
theorem dX4_checkTown_3 : decode cX4_checkTown 3 = .ok (.getfield 51, 3) := by decide +kernel
theorem dX4_checkTown_6 : decode cX4_checkTown 6 = .ok (.iconst 1, 1) := by decide +kernel
theorem dX4_checkTown_7 : decode cX4_checkTown 7 = .ok (.isub, 1) := by decide +kernel
theorem dX4_checkTown_8 : decode cX4_checkTown 8 = .ok (.invokestatic 69, 3) := by decide +kernel
theorem dX4_checkTown_11 : decode cX4_checkTown 11 = .ok (.ifCond .eq 14, 3) := by decide +kernel
theorem dX4_checkTown_14 : decode cX4_checkTown 14 = .ok (.new 206, 3) := by decide +kernel
theorem dX4_checkTown_17 : decode cX4_checkTown 17 = .ok (.dup, 1) := by decide +kernel
theorem dX4_checkTown_18 : decode cX4_checkTown 18 = .ok (.ldc_w 305, 3) := by decide +kernel
theorem dX4_checkTown_21 : decode cX4_checkTown 21 = .ok (.invokespecial 210, 3) := by decide +kernel
theorem dX4_checkTown_24 : decode cX4_checkTown 24 = .ok (.athrow, 1) := by decide +kernel
theorem dX4_checkTown_25 : decode cX4_checkTown 25 = .ok (.return_, 1) := by decide +kernel
theorem dX4_checkNotHung_0 : decode cX4_checkNotHung 0 = .ok (.iload_n 1, 1) := by decide +kernel
theorem dX4_checkNotHung_1 : decode cX4_checkNotHung 1 = .ok (.aload_n 0, 1) := by decide +kernel
theorem dX4_checkNotHung_2 : decode cX4_checkNotHung 2 = .ok (.getfield 34, 3) := by decide +kernel
theorem dX4_checkNotHung_5 : decode cX4_checkNotHung 5 = .ok (.getfield 307, 3) := by decide +kernel
theorem dX4_checkNotHung_8 : decode cX4_checkNotHung 8 = .ok (.invokestatic 140, 3) := by decide +kernel
theorem dX4_checkNotHung_11 : decode cX4_checkNotHung 11 = .ok (.ifCond .eq 14, 3) := by decide +kernel
theorem dX4_checkNotHung_14 : decode cX4_checkNotHung 14 = .ok (.new 80, 3) := by decide +kernel
theorem dX4_checkNotHung_17 : decode cX4_checkNotHung 17 = .ok (.dup, 1) := by decide +kernel
theorem dX4_checkNotHung_18 : decode cX4_checkNotHung 18 = .ok (.ldc_w 310, 3) := by decide +kernel
theorem dX4_checkNotHung_21 : decode cX4_checkNotHung 21 = .ok (.invokespecial 84, 3) := by decide +kernel
theorem dX4_checkNotHung_24 : decode cX4_checkNotHung 24 = .ok (.athrow, 1) := by decide +kernel
theorem dX4_checkNotHung_25 : decode cX4_checkNotHung 25 = .ok (.return_, 1) := by decide +kernel
theorem dX4_pieceAt_0 : decode cX4_pieceAt 0 = .ok (.iload_n 1, 1) := by decide +kernel
theorem dX4_pieceAt_1 : decode cX4_pieceAt 1 = .ok (.iconst 0, 1) := by decide +kernel
theorem dX4_pieceAt_2 : decode cX4_pieceAt 2 = .ok (.aload_n 0, 1) := by decide +kernel
theorem dX4_pieceAt_3 : decode cX4_pieceAt 3 = .ok (.getfield 200, 3) := by decide +kernel
theorem dX4_pieceAt_6 : decode cX4_pieceAt 6 = .ok (.iconst 1, 1) := by decide +kernel
theorem dX4_pieceAt_7 : decode cX4_pieceAt 7 = .ok (.isub, 1) := by decide +kernel
theorem dX4_pieceAt_8 : decode cX4_pieceAt 8 = .ok (.invokestatic 69, 3) := by decide +kernel
theorem dX4_pieceAt_11 : decode cX4_pieceAt 11 = .ok (.ifCond .eq 14, 3) := by decide +kernel
theorem dX4_pieceAt_14 : decode cX4_pieceAt 14 = .ok (.new 157, 3) := by decide +kernel
theorem dX4_pieceAt_17 : decode cX4_pieceAt 17 = .ok (.dup, 1) := by decide +kernel
theorem dX4_pieceAt_18 : decode cX4_pieceAt 18 = .ok (.ldc_w 303, 3) := by decide +kernel
theorem dX4_pieceAt_21 : decode cX4_pieceAt 21 = .ok (.invokespecial 161, 3) := by decide +kernel
theorem dX4_pieceAt_24 : decode cX4_pieceAt 24 = .ok (.athrow, 1) := by decide +kernel
theorem dX4_pieceAt_25 : decode cX4_pieceAt 25 = .ok (.aload_n 0, 1) := by decide +kernel
theorem dX4_pieceAt_26 : decode cX4_pieceAt 26 = .ok (.getfield 240, 3) := by decide +kernel
theorem dX4_pieceAt_29 : decode cX4_pieceAt 29 = .ok (.iload_n 1, 1) := by decide +kernel
theorem dX4_pieceAt_30 : decode cX4_pieceAt 30 = .ok (.iaload, 1) := by decide +kernel
theorem dX4_pieceAt_31 : decode cX4_pieceAt 31 = .ok (.ireturn, 1) := by decide +kernel
theorem dX4_isIn_0 : decode cX4_isIn 0 = .ok (.iload_n 1, 1) := by decide +kernel
theorem dX4_isIn_1 : decode cX4_isIn 1 = .ok (.iload_n 0, 1) := by decide +kernel
theorem dX4_isIn_2 : decode cX4_isIn 2 = .ok (.ishr, 1) := by decide +kernel
theorem dX4_isIn_3 : decode cX4_isIn 3 = .ok (.iconst 1, 1) := by decide +kernel
theorem dX4_isIn_4 : decode cX4_isIn 4 = .ok (.iand, 1) := by decide +kernel
theorem dX4_isIn_5 : decode cX4_isIn 5 = .ok (.ifCond .eq 7, 3) := by decide +kernel
theorem dX4_isIn_8 : decode cX4_isIn 8 = .ok (.iconst 1, 1) := by decide +kernel
theorem dX4_isIn_9 : decode cX4_isIn 9 = .ok (.goto 4, 3) := by decide +kernel
theorem dX4_isIn_12 : decode cX4_isIn 12 = .ok (.iconst 0, 1) := by decide +kernel
theorem dX4_isIn_13 : decode cX4_isIn 13 = .ok (.ireturn, 1) := by decide +kernel
theorem dX4_loadOfPart_0 : decode cX4_loadOfPart 0 = .ok (.iload_n 0, 1) := by decide +kernel
theorem dX4_loadOfPart_1 : decode cX4_loadOfPart 1 = .ok (.bipush 100, 2) := by decide +kernel
theorem dX4_loadOfPart_3 : decode cX4_loadOfPart 3 = .ok (.iload_n 1, 1) := by decide +kernel
theorem dX4_loadOfPart_4 : decode cX4_loadOfPart 4 = .ok (.iadd, 1) := by decide +kernel
theorem dX4_loadOfPart_5 : decode cX4_loadOfPart 5 = .ok (.imul, 1) := by decide +kernel
theorem dX4_loadOfPart_6 : decode cX4_loadOfPart 6 = .ok (.bipush 99, 2) := by decide +kernel
theorem dX4_loadOfPart_8 : decode cX4_loadOfPart 8 = .ok (.iadd, 1) := by decide +kernel
theorem dX4_loadOfPart_9 : decode cX4_loadOfPart 9 = .ok (.bipush 100, 2) := by decide +kernel
theorem dX4_loadOfPart_11 : decode cX4_loadOfPart 11 = .ok (.idiv, 1) := by decide +kernel
theorem dX4_loadOfPart_12 : decode cX4_loadOfPart 12 = .ok (.ireturn, 1) := by decide +kernel
theorem dX4_allNeedsOf_0 : decode cX4_allNeedsOf 0 = .ok (.aload_n 0, 1) := by decide +kernel
theorem dX4_allNeedsOf_1 : decode cX4_allNeedsOf 1 = .ok (.getfield 17, 3) := by decide +kernel
theorem dX4_allNeedsOf_4 : decode cX4_allNeedsOf 4 = .ok (.iload_n 1, 1) := by decide +kernel
theorem dX4_allNeedsOf_5 : decode cX4_allNeedsOf 5 = .ok (.aaload, 1) := by decide +kernel
theorem dX4_allNeedsOf_6 : decode cX4_allNeedsOf 6 = .ok (.getfield 149, 3) := by decide +kernel
theorem dX4_allNeedsOf_9 : decode cX4_allNeedsOf 9 = .ok (.istore_n 2, 1) := by decide +kernel
theorem dX4_allNeedsOf_10 : decode cX4_allNeedsOf 10 = .ok (.iconst 0, 1) := by decide +kernel
theorem dX4_allNeedsOf_11 : decode cX4_allNeedsOf 11 = .ok (.istore_n 3, 1) := by decide +kernel
theorem dX4_allNeedsOf_12 : decode cX4_allNeedsOf 12 = .ok (.iload_n 3, 1) := by decide +kernel
theorem dX4_allNeedsOf_13 : decode cX4_allNeedsOf 13 = .ok (.aload_n 0, 1) := by decide +kernel
theorem dX4_allNeedsOf_14 : decode cX4_allNeedsOf 14 = .ok (.getfield 48, 3) := by decide +kernel
theorem dX4_allNeedsOf_17 : decode cX4_allNeedsOf 17 = .ok (.if_icmp .ge 49, 3) := by decide +kernel
theorem dX4_allNeedsOf_20 : decode cX4_allNeedsOf 20 = .ok (.iconst 0, 1) := by decide +kernel
theorem dX4_allNeedsOf_21 : decode cX4_allNeedsOf 21 = .ok (.istore 4, 2) := by decide +kernel
theorem dX4_allNeedsOf_23 : decode cX4_allNeedsOf 23 = .ok (.iload 4, 2) := by decide +kernel
theorem dX4_allNeedsOf_25 : decode cX4_allNeedsOf 25 = .ok (.aload_n 0, 1) := by decide +kernel
theorem dX4_allNeedsOf_26 : decode cX4_allNeedsOf 26 = .ok (.getfield 48, 3) := by decide +kernel
theorem dX4_allNeedsOf_29 : decode cX4_allNeedsOf 29 = .ok (.if_icmp .ge 31, 3) := by decide +kernel
theorem dX4_allNeedsOf_32 : decode cX4_allNeedsOf 32 = .ok (.iload 4, 2) := by decide +kernel
theorem dX4_allNeedsOf_34 : decode cX4_allNeedsOf 34 = .ok (.iload_n 2, 1) := by decide +kernel
theorem dX4_allNeedsOf_35 : decode cX4_allNeedsOf 35 = .ok (.invokestatic 140, 3) := by decide +kernel
theorem dX4_allNeedsOf_38 : decode cX4_allNeedsOf 38 = .ok (.ifCond .eq 16, 3) := by decide +kernel
theorem dX4_allNeedsOf_41 : decode cX4_allNeedsOf 41 = .ok (.iload_n 2, 1) := by decide +kernel
theorem dX4_allNeedsOf_42 : decode cX4_allNeedsOf 42 = .ok (.aload_n 0, 1) := by decide +kernel
theorem dX4_allNeedsOf_43 : decode cX4_allNeedsOf 43 = .ok (.getfield 17, 3) := by decide +kernel
theorem dX4_allNeedsOf_46 : decode cX4_allNeedsOf 46 = .ok (.iload 4, 2) := by decide +kernel
theorem dX4_allNeedsOf_48 : decode cX4_allNeedsOf 48 = .ok (.aaload, 1) := by decide +kernel
theorem dX4_allNeedsOf_49 : decode cX4_allNeedsOf 49 = .ok (.getfield 149, 3) := by decide +kernel
theorem dX4_allNeedsOf_52 : decode cX4_allNeedsOf 52 = .ok (.ior, 1) := by decide +kernel
theorem dX4_allNeedsOf_53 : decode cX4_allNeedsOf 53 = .ok (.istore_n 2, 1) := by decide +kernel
theorem dX4_allNeedsOf_54 : decode cX4_allNeedsOf 54 = .ok (.iinc 4 1, 3) := by decide +kernel
theorem dX4_allNeedsOf_57 : decode cX4_allNeedsOf 57 = .ok (.goto (-34), 3) := by decide +kernel
theorem dX4_allNeedsOf_60 : decode cX4_allNeedsOf 60 = .ok (.iinc 3 1, 3) := by decide +kernel
theorem dX4_allNeedsOf_63 : decode cX4_allNeedsOf 63 = .ok (.goto (-51), 3) := by decide +kernel
theorem dX4_allNeedsOf_66 : decode cX4_allNeedsOf 66 = .ok (.iload_n 2, 1) := by decide +kernel
theorem dX4_allNeedsOf_67 : decode cX4_allNeedsOf 67 = .ok (.ireturn, 1) := by decide +kernel
theorem dX4_isInUse_0 : decode cX4_isInUse 0 = .ok (.iconst 0, 1) := by decide +kernel
theorem dX4_isInUse_1 : decode cX4_isInUse 1 = .ok (.istore_n 2, 1) := by decide +kernel
theorem dX4_isInUse_2 : decode cX4_isInUse 2 = .ok (.iload_n 2, 1) := by decide +kernel
theorem dX4_isInUse_3 : decode cX4_isInUse 3 = .ok (.aload_n 0, 1) := by decide +kernel
theorem dX4_isInUse_4 : decode cX4_isInUse 4 = .ok (.getfield 48, 3) := by decide +kernel
theorem dX4_isInUse_7 : decode cX4_isInUse 7 = .ok (.if_icmp .ge 38, 3) := by decide +kernel
theorem dX4_isInUse_10 : decode cX4_isInUse 10 = .ok (.aload_n 0, 1) := by decide +kernel
theorem dX4_isInUse_11 : decode cX4_isInUse 11 = .ok (.getfield 17, 3) := by decide +kernel
theorem dX4_isInUse_14 : decode cX4_isInUse 14 = .ok (.iload_n 2, 1) := by decide +kernel
theorem dX4_isInUse_15 : decode cX4_isInUse 15 = .ok (.aaload, 1) := by decide +kernel
theorem dX4_isInUse_16 : decode cX4_isInUse 16 = .ok (.getfield 104, 3) := by decide +kernel
theorem dX4_isInUse_19 : decode cX4_isInUse 19 = .ok (.iload_n 1, 1) := by decide +kernel
theorem dX4_isInUse_20 : decode cX4_isInUse 20 = .ok (.if_icmp .ne 19, 3) := by decide +kernel
theorem dX4_isInUse_23 : decode cX4_isInUse 23 = .ok (.iload_n 2, 1) := by decide +kernel
theorem dX4_isInUse_24 : decode cX4_isInUse 24 = .ok (.aload_n 0, 1) := by decide +kernel
theorem dX4_isInUse_25 : decode cX4_isInUse 25 = .ok (.getfield 34, 3) := by decide +kernel
theorem dX4_isInUse_28 : decode cX4_isInUse 28 = .ok (.getfield 307, 3) := by decide +kernel
theorem dX4_isInUse_31 : decode cX4_isInUse 31 = .ok (.invokestatic 140, 3) := by decide +kernel
theorem dX4_isInUse_34 : decode cX4_isInUse 34 = .ok (.ifCond .eq 5, 3) := by decide +kernel
theorem dX4_isInUse_37 : decode cX4_isInUse 37 = .ok (.iconst 1, 1) := by decide +kernel
theorem dX4_isInUse_38 : decode cX4_isInUse 38 = .ok (.ireturn, 1) := by decide +kernel
theorem dX4_isInUse_39 : decode cX4_isInUse 39 = .ok (.iinc 2 1, 3) := by decide +kernel
theorem dX4_isInUse_42 : decode cX4_isInUse 42 = .ok (.goto (-40), 3) := by decide +kernel
theorem dX4_isInUse_45 : decode cX4_isInUse 45 = .ok (.iconst 0, 1) := by decide +kernel
theorem dX4_isInUse_46 : decode cX4_isInUse 46 = .ok (.ireturn, 1) := by decide +kernel
theorem dX4_leftAt_0 : decode cX4_leftAt 0 = .ok (.aload_n 2, 1) := by decide +kernel
theorem dX4_leftAt_1 : decode cX4_leftAt 1 = .ok (.aload_n 0, 1) := by decide +kernel
theorem dX4_leftAt_2 : decode cX4_leftAt 2 = .ok (.getfield 11, 3) := by decide +kernel
theorem dX4_leftAt_5 : decode cX4_leftAt 5 = .ok (.iload_n 1, 1) := by decide +kernel
theorem dX4_leftAt_6 : decode cX4_leftAt 6 = .ok (.aaload, 1) := by decide +kernel
theorem dX4_leftAt_7 : decode cX4_leftAt 7 = .ok (.invokevirtual 217, 3) := by decide +kernel
theorem dX4_leftAt_10 : decode cX4_leftAt 10 = .ok (.aload_n 0, 1) := by decide +kernel
theorem dX4_leftAt_11 : decode cX4_leftAt 11 = .ok (.getfield 34, 3) := by decide +kernel
theorem dX4_leftAt_14 : decode cX4_leftAt 14 = .ok (.getfield 221, 3) := by decide +kernel
theorem dX4_leftAt_17 : decode cX4_leftAt 17 = .ok (.iload_n 1, 1) := by decide +kernel
theorem dX4_leftAt_18 : decode cX4_leftAt 18 = .ok (.iaload, 1) := by decide +kernel
theorem dX4_leftAt_19 : decode cX4_leftAt 19 = .ok (.isub, 1) := by decide +kernel
theorem dX4_leftAt_20 : decode cX4_leftAt 20 = .ok (.ireturn, 1) := by decide +kernel
theorem dX4_reasonAgainst_0 : decode cX4_reasonAgainst 0 = .ok (.aload_n 0, 1) := by decide +kernel
theorem dX4_reasonAgainst_1 : decode cX4_reasonAgainst 1 = .ok (.getfield 54, 3) := by decide +kernel
theorem dX4_reasonAgainst_4 : decode cX4_reasonAgainst 4 = .ok (.astore_n 3, 1) := by decide +kernel
theorem dX4_reasonAgainst_5 : decode cX4_reasonAgainst 5 = .ok (.aload_n 3, 1) := by decide +kernel
theorem dX4_reasonAgainst_6 : decode cX4_reasonAgainst 6 = .ok (.ifnonnull 6, 3) := by decide +kernel
theorem dX4_reasonAgainst_9 : decode cX4_reasonAgainst 9 = .ok (.bipush 116, 2) := by decide +kernel
theorem dX4_reasonAgainst_11 : decode cX4_reasonAgainst 11 = .ok (.ireturn, 1) := by decide +kernel
theorem dX4_reasonAgainst_12 : decode cX4_reasonAgainst 12 = .ok (.iload_n 2, 1) := by decide +kernel
theorem dX4_reasonAgainst_13 : decode cX4_reasonAgainst 13 = .ok (.aload_n 1, 1) := by decide +kernel
theorem dX4_reasonAgainst_14 : decode cX4_reasonAgainst 14 = .ok (.getfield 307, 3) := by decide +kernel
theorem dX4_reasonAgainst_17 : decode cX4_reasonAgainst 17 = .ok (.invokestatic 140, 3) := by decide +kernel
theorem dX4_reasonAgainst_20 : decode cX4_reasonAgainst 20 = .ok (.ifCond .eq 6, 3) := by decide +kernel
theorem dX4_reasonAgainst_23 : decode cX4_reasonAgainst 23 = .ok (.bipush 104, 2) := by decide +kernel
theorem dX4_reasonAgainst_25 : decode cX4_reasonAgainst 25 = .ok (.ireturn, 1) := by decide +kernel
theorem dX4_reasonAgainst_26 : decode cX4_reasonAgainst 26 = .ok (.aload_n 0, 1) := by decide +kernel
theorem dX4_reasonAgainst_27 : decode cX4_reasonAgainst 27 = .ok (.getfield 17, 3) := by decide +kernel
theorem dX4_reasonAgainst_30 : decode cX4_reasonAgainst 30 = .ok (.iload_n 2, 1) := by decide +kernel
theorem dX4_reasonAgainst_31 : decode cX4_reasonAgainst 31 = .ok (.aaload, 1) := by decide +kernel
theorem dX4_reasonAgainst_32 : decode cX4_reasonAgainst 32 = .ok (.astore 4, 2) := by decide +kernel
theorem dX4_reasonAgainst_34 : decode cX4_reasonAgainst 34 = .ok (.aload 4, 2) := by decide +kernel
theorem dX4_reasonAgainst_36 : decode cX4_reasonAgainst 36 = .ok (.invokevirtual 312, 3) := by decide +kernel
theorem dX4_reasonAgainst_39 : decode cX4_reasonAgainst 39 = .ok (.ifCond .ne 6, 3) := by decide +kernel
theorem dX4_reasonAgainst_42 : decode cX4_reasonAgainst 42 = .ok (.bipush 102, 2) := by decide +kernel
theorem dX4_reasonAgainst_44 : decode cX4_reasonAgainst 44 = .ok (.ireturn, 1) := by decide +kernel
theorem dX4_reasonAgainst_45 : decode cX4_reasonAgainst 45 = .ok (.aload 4, 2) := by decide +kernel
theorem dX4_reasonAgainst_47 : decode cX4_reasonAgainst 47 = .ok (.getfield 149, 3) := by decide +kernel
theorem dX4_reasonAgainst_50 : decode cX4_reasonAgainst 50 = .ok (.aload_n 1, 1) := by decide +kernel
theorem dX4_reasonAgainst_51 : decode cX4_reasonAgainst 51 = .ok (.getfield 307, 3) := by decide +kernel
theorem dX4_reasonAgainst_54 : decode cX4_reasonAgainst 54 = .ok (.iconst (-1), 1) := by decide +kernel
theorem dX4_reasonAgainst_55 : decode cX4_reasonAgainst 55 = .ok (.ixor, 1) := by decide +kernel
theorem dX4_reasonAgainst_56 : decode cX4_reasonAgainst 56 = .ok (.iand, 1) := by decide +kernel
theorem dX4_reasonAgainst_57 : decode cX4_reasonAgainst 57 = .ok (.ifCond .eq 6, 3) := by decide +kernel
theorem dX4_reasonAgainst_60 : decode cX4_reasonAgainst 60 = .ok (.bipush 110, 2) := by decide +kernel
theorem dX4_reasonAgainst_62 : decode cX4_reasonAgainst 62 = .ok (.ireturn, 1) := by decide +kernel
theorem dX4_reasonAgainst_63 : decode cX4_reasonAgainst 63 = .ok (.aload 4, 2) := by decide +kernel
theorem dX4_reasonAgainst_65 : decode cX4_reasonAgainst 65 = .ok (.getfield 98, 3) := by decide +kernel
theorem dX4_reasonAgainst_68 : decode cX4_reasonAgainst 68 = .ok (.aload_n 3, 1) := by decide +kernel
theorem dX4_reasonAgainst_69 : decode cX4_reasonAgainst 69 = .ok (.getfield 177, 3) := by decide +kernel
theorem dX4_reasonAgainst_72 : decode cX4_reasonAgainst 72 = .ok (.if_icmp .le 6, 3) := by decide +kernel
theorem dX4_reasonAgainst_75 : decode cX4_reasonAgainst 75 = .ok (.bipush 115, 2) := by decide +kernel
theorem dX4_reasonAgainst_77 : decode cX4_reasonAgainst 77 = .ok (.ireturn, 1) := by decide +kernel
theorem dX4_reasonAgainst_78 : decode cX4_reasonAgainst 78 = .ok (.aload_n 0, 1) := by decide +kernel
theorem dX4_reasonAgainst_79 : decode cX4_reasonAgainst 79 = .ok (.aload_n 1, 1) := by decide +kernel
theorem dX4_reasonAgainst_80 : decode cX4_reasonAgainst 80 = .ok (.aload 4, 2) := by decide +kernel
theorem dX4_reasonAgainst_82 : decode cX4_reasonAgainst 82 = .ok (.aload_n 3, 1) := by decide +kernel
theorem dX4_reasonAgainst_83 : decode cX4_reasonAgainst 83 = .ok (.invokevirtual 315, 3) := by decide +kernel
theorem dX4_reasonAgainst_86 : decode cX4_reasonAgainst 86 = .ok (.ifCond .eq 6, 3) := by decide +kernel
theorem dX4_reasonAgainst_89 : decode cX4_reasonAgainst 89 = .ok (.bipush 108, 2) := by decide +kernel
theorem dX4_reasonAgainst_91 : decode cX4_reasonAgainst 91 = .ok (.ireturn, 1) := by decide +kernel
theorem dX4_reasonAgainst_92 : decode cX4_reasonAgainst 92 = .ok (.aload_n 0, 1) := by decide +kernel
theorem dX4_reasonAgainst_93 : decode cX4_reasonAgainst 93 = .ok (.aload_n 1, 1) := by decide +kernel
theorem dX4_reasonAgainst_94 : decode cX4_reasonAgainst 94 = .ok (.aload 4, 2) := by decide +kernel
theorem dX4_reasonAgainst_96 : decode cX4_reasonAgainst 96 = .ok (.aload_n 3, 1) := by decide +kernel
theorem dX4_reasonAgainst_97 : decode cX4_reasonAgainst 97 = .ok (.invokevirtual 319, 3) := by decide +kernel
theorem dX4_reasonAgainst_100 : decode cX4_reasonAgainst 100 = .ok (.aload 4, 2) := by decide +kernel
theorem dX4_reasonAgainst_102 : decode cX4_reasonAgainst 102 = .ok (.getfield 98, 3) := by decide +kernel
theorem dX4_reasonAgainst_105 : decode cX4_reasonAgainst 105 = .ok (.iadd, 1) := by decide +kernel
theorem dX4_reasonAgainst_106 : decode cX4_reasonAgainst 106 = .ok (.aload_n 3, 1) := by decide +kernel
theorem dX4_reasonAgainst_107 : decode cX4_reasonAgainst 107 = .ok (.getfield 183, 3) := by decide +kernel
theorem dX4_reasonAgainst_110 : decode cX4_reasonAgainst 110 = .ok (.if_icmp .le 6, 3) := by decide +kernel
theorem dX4_reasonAgainst_113 : decode cX4_reasonAgainst 113 = .ok (.bipush 99, 2) := by decide +kernel
theorem dX4_reasonAgainst_115 : decode cX4_reasonAgainst 115 = .ok (.ireturn, 1) := by decide +kernel
theorem dX4_reasonAgainst_116 : decode cX4_reasonAgainst 116 = .ok (.bipush 45, 2) := by decide +kernel
theorem dX4_reasonAgainst_118 : decode cX4_reasonAgainst 118 = .ok (.ireturn, 1) := by decide +kernel
theorem dX4_overloads_0 : decode cX4_overloads 0 = .ok (.aload_n 2, 1) := by decide +kernel
theorem dX4_overloads_1 : decode cX4_overloads 1 = .ok (.getfield 118, 3) := by decide +kernel
theorem dX4_overloads_4 : decode cX4_overloads 4 = .ok (.istore 4, 2) := by decide +kernel
theorem dX4_overloads_6 : decode cX4_overloads 6 = .ok (.aload_n 2, 1) := by decide +kernel
theorem dX4_overloads_7 : decode cX4_overloads 7 = .ok (.getfield 121, 3) := by decide +kernel
theorem dX4_overloads_10 : decode cX4_overloads 10 = .ok (.istore 5, 2) := by decide +kernel
theorem dX4_overloads_12 : decode cX4_overloads 12 = .ok (.iload 4, 2) := by decide +kernel
theorem dX4_overloads_14 : decode cX4_overloads 14 = .ok (.ifCond .lt 8, 3) := by decide +kernel
theorem dX4_overloads_17 : decode cX4_overloads 17 = .ok (.iload 5, 2) := by decide +kernel
theorem dX4_overloads_19 : decode cX4_overloads 19 = .ok (.ifCond .ge 5, 3) := by decide +kernel
theorem dX4_overloads_22 : decode cX4_overloads 22 = .ok (.iconst 0, 1) := by decide +kernel
theorem dX4_overloads_23 : decode cX4_overloads 23 = .ok (.ireturn, 1) := by decide +kernel
theorem dX4_overloads_24 : decode cX4_overloads 24 = .ok (.aload_n 1, 1) := by decide +kernel
theorem dX4_overloads_25 : decode cX4_overloads 25 = .ok (.getfield 221, 3) := by decide +kernel
theorem dX4_overloads_28 : decode cX4_overloads 28 = .ok (.iload 4, 2) := by decide +kernel
theorem dX4_overloads_30 : decode cX4_overloads 30 = .ok (.iaload, 1) := by decide +kernel
theorem dX4_overloads_31 : decode cX4_overloads 31 = .ok (.aload_n 2, 1) := by decide +kernel
theorem dX4_overloads_32 : decode cX4_overloads 32 = .ok (.getfield 128, 3) := by decide +kernel
theorem dX4_overloads_35 : decode cX4_overloads 35 = .ok (.iadd, 1) := by decide +kernel
theorem dX4_overloads_36 : decode cX4_overloads 36 = .ok (.aload_n 3, 1) := by decide +kernel
theorem dX4_overloads_37 : decode cX4_overloads 37 = .ok (.aload_n 0, 1) := by decide +kernel
theorem dX4_overloads_38 : decode cX4_overloads 38 = .ok (.getfield 11, 3) := by decide +kernel
theorem dX4_overloads_41 : decode cX4_overloads 41 = .ok (.iload 4, 2) := by decide +kernel
theorem dX4_overloads_43 : decode cX4_overloads 43 = .ok (.aaload, 1) := by decide +kernel
theorem dX4_overloads_44 : decode cX4_overloads 44 = .ok (.invokevirtual 217, 3) := by decide +kernel
theorem dX4_overloads_47 : decode cX4_overloads 47 = .ok (.if_icmp .gt 29, 3) := by decide +kernel
theorem dX4_overloads_50 : decode cX4_overloads 50 = .ok (.aload_n 1, 1) := by decide +kernel
theorem dX4_overloads_51 : decode cX4_overloads 51 = .ok (.getfield 221, 3) := by decide +kernel
theorem dX4_overloads_54 : decode cX4_overloads 54 = .ok (.iload 5, 2) := by decide +kernel
theorem dX4_overloads_56 : decode cX4_overloads 56 = .ok (.iaload, 1) := by decide +kernel
theorem dX4_overloads_57 : decode cX4_overloads 57 = .ok (.aload_n 2, 1) := by decide +kernel
theorem dX4_overloads_58 : decode cX4_overloads 58 = .ok (.getfield 131, 3) := by decide +kernel
theorem dX4_overloads_61 : decode cX4_overloads 61 = .ok (.iadd, 1) := by decide +kernel
theorem dX4_overloads_62 : decode cX4_overloads 62 = .ok (.aload_n 3, 1) := by decide +kernel
theorem dX4_overloads_63 : decode cX4_overloads 63 = .ok (.aload_n 0, 1) := by decide +kernel
theorem dX4_overloads_64 : decode cX4_overloads 64 = .ok (.getfield 11, 3) := by decide +kernel
theorem dX4_overloads_67 : decode cX4_overloads 67 = .ok (.iload 5, 2) := by decide +kernel
theorem dX4_overloads_69 : decode cX4_overloads 69 = .ok (.aaload, 1) := by decide +kernel
theorem dX4_overloads_70 : decode cX4_overloads 70 = .ok (.invokevirtual 217, 3) := by decide +kernel
theorem dX4_overloads_73 : decode cX4_overloads 73 = .ok (.if_icmp .le 7, 3) := by decide +kernel
theorem dX4_overloads_76 : decode cX4_overloads 76 = .ok (.iconst 1, 1) := by decide +kernel
theorem dX4_overloads_77 : decode cX4_overloads 77 = .ok (.goto 4, 3) := by decide +kernel
theorem dX4_overloads_80 : decode cX4_overloads 80 = .ok (.iconst 0, 1) := by decide +kernel
theorem dX4_overloads_81 : decode cX4_overloads 81 = .ok (.ireturn, 1) := by decide +kernel
theorem dX4_workCarried_0 : decode cX4_workCarried 0 = .ok (.aload_n 0, 1) := by decide +kernel
theorem dX4_workCarried_1 : decode cX4_workCarried 1 = .ok (.getfield 27, 3) := by decide +kernel
theorem dX4_workCarried_4 : decode cX4_workCarried 4 = .ok (.aload_n 2, 1) := by decide +kernel
theorem dX4_workCarried_5 : decode cX4_workCarried 5 = .ok (.getfield 104, 3) := by decide +kernel
theorem dX4_workCarried_8 : decode cX4_workCarried 8 = .ok (.iaload, 1) := by decide +kernel
theorem dX4_workCarried_9 : decode cX4_workCarried 9 = .ok (.aload_n 1, 1) := by decide +kernel
theorem dX4_workCarried_10 : decode cX4_workCarried 10 = .ok (.invokevirtual 234, 3) := by decide +kernel
theorem dX4_workCarried_13 : decode cX4_workCarried 13 = .ok (.isub, 1) := by decide +kernel
theorem dX4_workCarried_14 : decode cX4_workCarried 14 = .ok (.aload_n 3, 1) := by decide +kernel
theorem dX4_workCarried_15 : decode cX4_workCarried 15 = .ok (.getfield 180, 3) := by decide +kernel
theorem dX4_workCarried_18 : decode cX4_workCarried 18 = .ok (.if_icmp .lt 7, 3) := by decide +kernel
theorem dX4_workCarried_21 : decode cX4_workCarried 21 = .ok (.iconst 1, 1) := by decide +kernel
theorem dX4_workCarried_22 : decode cX4_workCarried 22 = .ok (.goto 4, 3) := by decide +kernel
theorem dX4_workCarried_25 : decode cX4_workCarried 25 = .ok (.iconst 0, 1) := by decide +kernel
theorem dX4_workCarried_26 : decode cX4_workCarried 26 = .ok (.istore 4, 2) := by decide +kernel
theorem dX4_workCarried_28 : decode cX4_workCarried 28 = .ok (.iload 4, 2) := by decide +kernel
theorem dX4_workCarried_30 : decode cX4_workCarried 30 = .ok (.ifCond .eq 7, 3) := by decide +kernel
theorem dX4_workCarried_33 : decode cX4_workCarried 33 = .ok (.iconst 0, 1) := by decide +kernel
theorem dX4_workCarried_34 : decode cX4_workCarried 34 = .ok (.goto 7, 3) := by decide +kernel
theorem dX4_workCarried_37 : decode cX4_workCarried 37 = .ok (.aload_n 1, 1) := by decide +kernel
theorem dX4_workCarried_38 : decode cX4_workCarried 38 = .ok (.invokevirtual 259, 3) := by decide +kernel
theorem dX4_workCarried_41 : decode cX4_workCarried 41 = .ok (.ireturn, 1) := by decide +kernel
theorem dX4_beginNext_0 : decode cX4_beginNext 0 = .ok (.aload_n 1, 1) := by decide +kernel
theorem dX4_beginNext_1 : decode cX4_beginNext 1 = .ok (.invokevirtual 234, 3) := by decide +kernel
theorem dX4_beginNext_4 : decode cX4_beginNext 4 = .ok (.aload_n 0, 1) := by decide +kernel
theorem dX4_beginNext_5 : decode cX4_beginNext 5 = .ok (.getfield 27, 3) := by decide +kernel
theorem dX4_beginNext_8 : decode cX4_beginNext 8 = .ok (.aload_n 2, 1) := by decide +kernel
theorem dX4_beginNext_9 : decode cX4_beginNext 9 = .ok (.getfield 104, 3) := by decide +kernel
theorem dX4_beginNext_12 : decode cX4_beginNext 12 = .ok (.iaload, 1) := by decide +kernel
theorem dX4_beginNext_13 : decode cX4_beginNext 13 = .ok (.invokestatic 323, 3) := by decide +kernel
theorem dX4_beginNext_16 : decode cX4_beginNext 16 = .ok (.istore 4, 2) := by decide +kernel
theorem dX4_beginNext_18 : decode cX4_beginNext 18 = .ok (.aload_n 0, 1) := by decide +kernel
theorem dX4_beginNext_19 : decode cX4_beginNext 19 = .ok (.aload_n 1, 1) := by decide +kernel
theorem dX4_beginNext_20 : decode cX4_beginNext 20 = .ok (.aload_n 2, 1) := by decide +kernel
theorem dX4_beginNext_21 : decode cX4_beginNext 21 = .ok (.aload_n 3, 1) := by decide +kernel
theorem dX4_beginNext_22 : decode cX4_beginNext 22 = .ok (.invokevirtual 328, 3) := by decide +kernel
theorem dX4_beginNext_25 : decode cX4_beginNext 25 = .ok (.aload_n 2, 1) := by decide +kernel
theorem dX4_beginNext_26 : decode cX4_beginNext 26 = .ok (.getfield 98, 3) := by decide +kernel
theorem dX4_beginNext_29 : decode cX4_beginNext 29 = .ok (.iadd, 1) := by decide +kernel
theorem dX4_beginNext_30 : decode cX4_beginNext 30 = .ok (.aload_n 3, 1) := by decide +kernel
theorem dX4_beginNext_31 : decode cX4_beginNext 31 = .ok (.getfield 177, 3) := by decide +kernel
theorem dX4_beginNext_34 : decode cX4_beginNext 34 = .ok (.if_icmp .le 7, 3) := by decide +kernel
theorem dX4_beginNext_37 : decode cX4_beginNext 37 = .ok (.iconst 1, 1) := by decide +kernel
theorem dX4_beginNext_38 : decode cX4_beginNext 38 = .ok (.goto 4, 3) := by decide +kernel
theorem dX4_beginNext_41 : decode cX4_beginNext 41 = .ok (.iconst 0, 1) := by decide +kernel
theorem dX4_beginNext_42 : decode cX4_beginNext 42 = .ok (.istore 5, 2) := by decide +kernel
theorem dX4_beginNext_44 : decode cX4_beginNext 44 = .ok (.iload 5, 2) := by decide +kernel
theorem dX4_beginNext_46 : decode cX4_beginNext 46 = .ok (.ifCond .eq 13, 3) := by decide +kernel
theorem dX4_beginNext_49 : decode cX4_beginNext 49 = .ok (.iload 4, 2) := by decide +kernel
theorem dX4_beginNext_51 : decode cX4_beginNext 51 = .ok (.aload_n 3, 1) := by decide +kernel
theorem dX4_beginNext_52 : decode cX4_beginNext 52 = .ok (.getfield 180, 3) := by decide +kernel
theorem dX4_beginNext_55 : decode cX4_beginNext 55 = .ok (.iadd, 1) := by decide +kernel
theorem dX4_beginNext_56 : decode cX4_beginNext 56 = .ok (.goto 5, 3) := by decide +kernel
theorem dX4_beginNext_59 : decode cX4_beginNext 59 = .ok (.iload 4, 2) := by decide +kernel
theorem dX4_beginNext_61 : decode cX4_beginNext 61 = .ok (.ireturn, 1) := by decide +kernel
theorem dX4_workNext_0 : decode cX4_workNext 0 = .ok (.aload_n 0, 1) := by decide +kernel
theorem dX4_workNext_1 : decode cX4_workNext 1 = .ok (.aload_n 1, 1) := by decide +kernel
theorem dX4_workNext_2 : decode cX4_workNext 2 = .ok (.aload_n 2, 1) := by decide +kernel
theorem dX4_workNext_3 : decode cX4_workNext 3 = .ok (.aload_n 3, 1) := by decide +kernel
theorem dX4_workNext_4 : decode cX4_workNext 4 = .ok (.invokevirtual 328, 3) := by decide +kernel
theorem dX4_workNext_7 : decode cX4_workNext 7 = .ok (.aload_n 2, 1) := by decide +kernel
theorem dX4_workNext_8 : decode cX4_workNext 8 = .ok (.getfield 98, 3) := by decide +kernel
theorem dX4_workNext_11 : decode cX4_workNext 11 = .ok (.iadd, 1) := by decide +kernel
theorem dX4_workNext_12 : decode cX4_workNext 12 = .ok (.istore 4, 2) := by decide +kernel
theorem dX4_workNext_14 : decode cX4_workNext 14 = .ok (.iload 4, 2) := by decide +kernel
theorem dX4_workNext_16 : decode cX4_workNext 16 = .ok (.aload_n 3, 1) := by decide +kernel
theorem dX4_workNext_17 : decode cX4_workNext 17 = .ok (.getfield 177, 3) := by decide +kernel
theorem dX4_workNext_20 : decode cX4_workNext 20 = .ok (.if_icmp .le 10, 3) := by decide +kernel
theorem dX4_workNext_23 : decode cX4_workNext 23 = .ok (.aload_n 2, 1) := by decide +kernel
theorem dX4_workNext_24 : decode cX4_workNext 24 = .ok (.getfield 98, 3) := by decide +kernel
theorem dX4_workNext_27 : decode cX4_workNext 27 = .ok (.goto 5, 3) := by decide +kernel
theorem dX4_workNext_30 : decode cX4_workNext 30 = .ok (.iload 4, 2) := by decide +kernel
theorem dX4_workNext_32 : decode cX4_workNext 32 = .ok (.ireturn, 1) := by decide +kernel
theorem dX4_putOn_0 : decode cX4_putOn 0 = .ok (.aload_n 0, 1) := by decide +kernel
theorem dX4_putOn_1 : decode cX4_putOn 1 = .ok (.getfield 17, 3) := by decide +kernel
theorem dX4_putOn_4 : decode cX4_putOn 4 = .ok (.iload_n 2, 1) := by decide +kernel
theorem dX4_putOn_5 : decode cX4_putOn 5 = .ok (.aaload, 1) := by decide +kernel
theorem dX4_putOn_6 : decode cX4_putOn 6 = .ok (.astore 4, 2) := by decide +kernel
theorem dX4_putOn_8 : decode cX4_putOn 8 = .ok (.aload_n 1, 1) := by decide +kernel
theorem dX4_putOn_9 : decode cX4_putOn 9 = .ok (.getfield 200, 3) := by decide +kernel
theorem dX4_putOn_12 : decode cX4_putOn 12 = .ok (.istore 5, 2) := by decide +kernel
theorem dX4_putOn_14 : decode cX4_putOn 14 = .ok (.iload 5, 2) := by decide +kernel
theorem dX4_putOn_16 : decode cX4_putOn 16 = .ok (.bipush 6, 2) := by decide +kernel
theorem dX4_putOn_18 : decode cX4_putOn 18 = .ok (.if_icmp .ge 19, 3) := by decide +kernel
theorem dX4_putOn_21 : decode cX4_putOn 21 = .ok (.aload 4, 2) := by decide +kernel
theorem dX4_putOn_23 : decode cX4_putOn 23 = .ok (.getfield 118, 3) := by decide +kernel
theorem dX4_putOn_26 : decode cX4_putOn 26 = .ok (.ifCond .lt 11, 3) := by decide +kernel
theorem dX4_putOn_29 : decode cX4_putOn 29 = .ok (.aload 4, 2) := by decide +kernel
theorem dX4_putOn_31 : decode cX4_putOn 31 = .ok (.getfield 121, 3) := by decide +kernel
theorem dX4_putOn_34 : decode cX4_putOn 34 = .ok (.ifCond .ge 4, 3) := by decide +kernel
theorem dX4_putOn_37 : decode cX4_putOn 37 = .ok (.return_, 1) := by decide +kernel
theorem dX4_putOn_38 : decode cX4_putOn 38 = .ok (.aload_n 0, 1) := by decide +kernel
theorem dX4_putOn_39 : decode cX4_putOn 39 = .ok (.aload_n 1, 1) := by decide +kernel
theorem dX4_putOn_40 : decode cX4_putOn 40 = .ok (.aload 4, 2) := by decide +kernel
theorem dX4_putOn_42 : decode cX4_putOn 42 = .ok (.aload_n 3, 1) := by decide +kernel
theorem dX4_putOn_43 : decode cX4_putOn 43 = .ok (.invokevirtual 319, 3) := by decide +kernel
theorem dX4_putOn_46 : decode cX4_putOn 46 = .ok (.istore 6, 2) := by decide +kernel
theorem dX4_putOn_48 : decode cX4_putOn 48 = .ok (.aload_n 0, 1) := by decide +kernel
theorem dX4_putOn_49 : decode cX4_putOn 49 = .ok (.aload_n 1, 1) := by decide +kernel
theorem dX4_putOn_50 : decode cX4_putOn 50 = .ok (.aload 4, 2) := by decide +kernel
theorem dX4_putOn_52 : decode cX4_putOn 52 = .ok (.aload_n 3, 1) := by decide +kernel
theorem dX4_putOn_53 : decode cX4_putOn 53 = .ok (.invokevirtual 331, 3) := by decide +kernel
theorem dX4_putOn_56 : decode cX4_putOn 56 = .ok (.istore 7, 2) := by decide +kernel
theorem dX4_putOn_58 : decode cX4_putOn 58 = .ok (.aload_n 1, 1) := by decide +kernel
theorem dX4_putOn_59 : decode cX4_putOn 59 = .ok (.getfield 240, 3) := by decide +kernel
theorem dX4_putOn_62 : decode cX4_putOn 62 = .ok (.iload 5, 2) := by decide +kernel
theorem dX4_putOn_64 : decode cX4_putOn 64 = .ok (.iload_n 2, 1) := by decide +kernel
theorem dX4_putOn_65 : decode cX4_putOn 65 = .ok (.iastore, 1) := by decide +kernel
theorem dX4_putOn_66 : decode cX4_putOn 66 = .ok (.aload_n 1, 1) := by decide +kernel
theorem dX4_putOn_67 : decode cX4_putOn 67 = .ok (.getfield 256, 3) := by decide +kernel
theorem dX4_putOn_70 : decode cX4_putOn 70 = .ok (.iload 5, 2) := by decide +kernel
theorem dX4_putOn_72 : decode cX4_putOn 72 = .ok (.iload 6, 2) := by decide +kernel
theorem dX4_putOn_74 : decode cX4_putOn 74 = .ok (.iastore, 1) := by decide +kernel
theorem dX4_putOn_75 : decode cX4_putOn 75 = .ok (.aload_n 1, 1) := by decide +kernel
theorem dX4_putOn_76 : decode cX4_putOn 76 = .ok (.getfield 334, 3) := by decide +kernel
theorem dX4_putOn_79 : decode cX4_putOn 79 = .ok (.iload 5, 2) := by decide +kernel
theorem dX4_putOn_81 : decode cX4_putOn 81 = .ok (.iload 6, 2) := by decide +kernel
theorem dX4_putOn_83 : decode cX4_putOn 83 = .ok (.aload 4, 2) := by decide +kernel
theorem dX4_putOn_85 : decode cX4_putOn 85 = .ok (.getfield 98, 3) := by decide +kernel
theorem dX4_putOn_88 : decode cX4_putOn 88 = .ok (.iadd, 1) := by decide +kernel
theorem dX4_putOn_89 : decode cX4_putOn 89 = .ok (.iastore, 1) := by decide +kernel
theorem dX4_putOn_90 : decode cX4_putOn 90 = .ok (.aload_n 1, 1) := by decide +kernel
theorem dX4_putOn_91 : decode cX4_putOn 91 = .ok (.getfield 337, 3) := by decide +kernel
theorem dX4_putOn_94 : decode cX4_putOn 94 = .ok (.iload 5, 2) := by decide +kernel
theorem dX4_putOn_96 : decode cX4_putOn 96 = .ok (.iload 7, 2) := by decide +kernel
theorem dX4_putOn_98 : decode cX4_putOn 98 = .ok (.iastore, 1) := by decide +kernel
theorem dX4_putOn_99 : decode cX4_putOn 99 = .ok (.aload_n 1, 1) := by decide +kernel
theorem dX4_putOn_100 : decode cX4_putOn 100 = .ok (.getfield 221, 3) := by decide +kernel
theorem dX4_putOn_103 : decode cX4_putOn 103 = .ok (.aload 4, 2) := by decide +kernel
theorem dX4_putOn_105 : decode cX4_putOn 105 = .ok (.getfield 118, 3) := by decide +kernel
theorem dX4_putOn_108 : decode cX4_putOn 108 = .ok (.dup2, 1) := by decide +kernel
theorem dX4_putOn_109 : decode cX4_putOn 109 = .ok (.iaload, 1) := by decide +kernel
theorem dX4_putOn_110 : decode cX4_putOn 110 = .ok (.aload 4, 2) := by decide +kernel
theorem dX4_putOn_112 : decode cX4_putOn 112 = .ok (.getfield 128, 3) := by decide +kernel
theorem dX4_putOn_115 : decode cX4_putOn 115 = .ok (.iadd, 1) := by decide +kernel
theorem dX4_putOn_116 : decode cX4_putOn 116 = .ok (.iastore, 1) := by decide +kernel
theorem dX4_putOn_117 : decode cX4_putOn 117 = .ok (.aload_n 1, 1) := by decide +kernel
theorem dX4_putOn_118 : decode cX4_putOn 118 = .ok (.getfield 221, 3) := by decide +kernel
theorem dX4_putOn_121 : decode cX4_putOn 121 = .ok (.aload 4, 2) := by decide +kernel
theorem dX4_putOn_123 : decode cX4_putOn 123 = .ok (.getfield 121, 3) := by decide +kernel
theorem dX4_putOn_126 : decode cX4_putOn 126 = .ok (.dup2, 1) := by decide +kernel
theorem dX4_putOn_127 : decode cX4_putOn 127 = .ok (.iaload, 1) := by decide +kernel
theorem dX4_putOn_128 : decode cX4_putOn 128 = .ok (.aload 4, 2) := by decide +kernel
theorem dX4_putOn_130 : decode cX4_putOn 130 = .ok (.getfield 131, 3) := by decide +kernel
theorem dX4_putOn_133 : decode cX4_putOn 133 = .ok (.iadd, 1) := by decide +kernel
theorem dX4_putOn_134 : decode cX4_putOn 134 = .ok (.iastore, 1) := by decide +kernel
theorem dX4_putOn_135 : decode cX4_putOn 135 = .ok (.aload_n 1, 1) := by decide +kernel
theorem dX4_putOn_136 : decode cX4_putOn 136 = .ok (.dup, 1) := by decide +kernel
theorem dX4_putOn_137 : decode cX4_putOn 137 = .ok (.getfield 307, 3) := by decide +kernel
theorem dX4_putOn_140 : decode cX4_putOn 140 = .ok (.iconst 1, 1) := by decide +kernel
theorem dX4_putOn_141 : decode cX4_putOn 141 = .ok (.iload_n 2, 1) := by decide +kernel
theorem dX4_putOn_142 : decode cX4_putOn 142 = .ok (.ishl, 1) := by decide +kernel
theorem dX4_putOn_143 : decode cX4_putOn 143 = .ok (.ior, 1) := by decide +kernel
theorem dX4_putOn_144 : decode cX4_putOn 144 = .ok (.putfield 307, 3) := by decide +kernel
theorem dX4_putOn_147 : decode cX4_putOn 147 = .ok (.aload_n 1, 1) := by decide +kernel
theorem dX4_putOn_148 : decode cX4_putOn 148 = .ok (.dup, 1) := by decide +kernel
theorem dX4_putOn_149 : decode cX4_putOn 149 = .ok (.getfield 273, 3) := by decide +kernel
theorem dX4_putOn_152 : decode cX4_putOn 152 = .ok (.aload 4, 2) := by decide +kernel
theorem dX4_putOn_154 : decode cX4_putOn 154 = .ok (.getfield 101, 3) := by decide +kernel
theorem dX4_putOn_157 : decode cX4_putOn 157 = .ok (.iadd, 1) := by decide +kernel
theorem dX4_putOn_158 : decode cX4_putOn 158 = .ok (.putfield 273, 3) := by decide +kernel
theorem dX4_putOn_161 : decode cX4_putOn 161 = .ok (.aload_n 1, 1) := by decide +kernel
theorem dX4_putOn_162 : decode cX4_putOn 162 = .ok (.iload 5, 2) := by decide +kernel
theorem dX4_putOn_164 : decode cX4_putOn 164 = .ok (.iconst 1, 1) := by decide +kernel
theorem dX4_putOn_165 : decode cX4_putOn 165 = .ok (.iadd, 1) := by decide +kernel
theorem dX4_putOn_166 : decode cX4_putOn 166 = .ok (.putfield 200, 3) := by decide +kernel
theorem dX4_putOn_169 : decode cX4_putOn 169 = .ok (.return_, 1) := by decide +kernel
theorem dX4_takeLastOff_0 : decode cX4_takeLastOff 0 = .ok (.aload_n 1, 1) := by decide +kernel
theorem dX4_takeLastOff_1 : decode cX4_takeLastOff 1 = .ok (.getfield 200, 3) := by decide +kernel
theorem dX4_takeLastOff_4 : decode cX4_takeLastOff 4 = .ok (.iconst 1, 1) := by decide +kernel
theorem dX4_takeLastOff_5 : decode cX4_takeLastOff 5 = .ok (.isub, 1) := by decide +kernel
theorem dX4_takeLastOff_6 : decode cX4_takeLastOff 6 = .ok (.istore_n 2, 1) := by decide +kernel
theorem dX4_takeLastOff_7 : decode cX4_takeLastOff 7 = .ok (.iload_n 2, 1) := by decide +kernel
theorem dX4_takeLastOff_8 : decode cX4_takeLastOff 8 = .ok (.ifCond .ge 4, 3) := by decide +kernel
theorem dX4_takeLastOff_11 : decode cX4_takeLastOff 11 = .ok (.return_, 1) := by decide +kernel
theorem dX4_takeLastOff_12 : decode cX4_takeLastOff 12 = .ok (.aload_n 1, 1) := by decide +kernel
theorem dX4_takeLastOff_13 : decode cX4_takeLastOff 13 = .ok (.getfield 240, 3) := by decide +kernel
theorem dX4_takeLastOff_16 : decode cX4_takeLastOff 16 = .ok (.iload_n 2, 1) := by decide +kernel
theorem dX4_takeLastOff_17 : decode cX4_takeLastOff 17 = .ok (.iaload, 1) := by decide +kernel
theorem dX4_takeLastOff_18 : decode cX4_takeLastOff 18 = .ok (.istore_n 3, 1) := by decide +kernel
theorem dX4_takeLastOff_19 : decode cX4_takeLastOff 19 = .ok (.aload_n 0, 1) := by decide +kernel
theorem dX4_takeLastOff_20 : decode cX4_takeLastOff 20 = .ok (.getfield 17, 3) := by decide +kernel
theorem dX4_takeLastOff_23 : decode cX4_takeLastOff 23 = .ok (.iload_n 3, 1) := by decide +kernel
theorem dX4_takeLastOff_24 : decode cX4_takeLastOff 24 = .ok (.aaload, 1) := by decide +kernel
theorem dX4_takeLastOff_25 : decode cX4_takeLastOff 25 = .ok (.astore 4, 2) := by decide +kernel
theorem dX4_takeLastOff_27 : decode cX4_takeLastOff 27 = .ok (.aload 4, 2) := by decide +kernel
theorem dX4_takeLastOff_29 : decode cX4_takeLastOff 29 = .ok (.getfield 118, 3) := by decide +kernel
theorem dX4_takeLastOff_32 : decode cX4_takeLastOff 32 = .ok (.ifCond .lt 11, 3) := by decide +kernel
theorem dX4_takeLastOff_35 : decode cX4_takeLastOff 35 = .ok (.aload 4, 2) := by decide +kernel
theorem dX4_takeLastOff_37 : decode cX4_takeLastOff 37 = .ok (.getfield 121, 3) := by decide +kernel
theorem dX4_takeLastOff_40 : decode cX4_takeLastOff 40 = .ok (.ifCond .ge 4, 3) := by decide +kernel
theorem dX4_takeLastOff_43 : decode cX4_takeLastOff 43 = .ok (.return_, 1) := by decide +kernel
theorem dX4_takeLastOff_44 : decode cX4_takeLastOff 44 = .ok (.aload_n 1, 1) := by decide +kernel
theorem dX4_takeLastOff_45 : decode cX4_takeLastOff 45 = .ok (.getfield 221, 3) := by decide +kernel
theorem dX4_takeLastOff_48 : decode cX4_takeLastOff 48 = .ok (.aload 4, 2) := by decide +kernel
theorem dX4_takeLastOff_50 : decode cX4_takeLastOff 50 = .ok (.getfield 118, 3) := by decide +kernel
theorem dX4_takeLastOff_53 : decode cX4_takeLastOff 53 = .ok (.dup2, 1) := by decide +kernel
theorem dX4_takeLastOff_54 : decode cX4_takeLastOff 54 = .ok (.iaload, 1) := by decide +kernel
theorem dX4_takeLastOff_55 : decode cX4_takeLastOff 55 = .ok (.aload 4, 2) := by decide +kernel
theorem dX4_takeLastOff_57 : decode cX4_takeLastOff 57 = .ok (.getfield 128, 3) := by decide +kernel
theorem dX4_takeLastOff_60 : decode cX4_takeLastOff 60 = .ok (.isub, 1) := by decide +kernel
theorem dX4_takeLastOff_61 : decode cX4_takeLastOff 61 = .ok (.iastore, 1) := by decide +kernel
theorem dX4_takeLastOff_62 : decode cX4_takeLastOff 62 = .ok (.aload_n 1, 1) := by decide +kernel
theorem dX4_takeLastOff_63 : decode cX4_takeLastOff 63 = .ok (.getfield 221, 3) := by decide +kernel
theorem dX4_takeLastOff_66 : decode cX4_takeLastOff 66 = .ok (.aload 4, 2) := by decide +kernel
theorem dX4_takeLastOff_68 : decode cX4_takeLastOff 68 = .ok (.getfield 121, 3) := by decide +kernel
theorem dX4_takeLastOff_71 : decode cX4_takeLastOff 71 = .ok (.dup2, 1) := by decide +kernel
theorem dX4_takeLastOff_72 : decode cX4_takeLastOff 72 = .ok (.iaload, 1) := by decide +kernel
theorem dX4_takeLastOff_73 : decode cX4_takeLastOff 73 = .ok (.aload 4, 2) := by decide +kernel
theorem dX4_takeLastOff_75 : decode cX4_takeLastOff 75 = .ok (.getfield 131, 3) := by decide +kernel
theorem dX4_takeLastOff_78 : decode cX4_takeLastOff 78 = .ok (.isub, 1) := by decide +kernel
theorem dX4_takeLastOff_79 : decode cX4_takeLastOff 79 = .ok (.iastore, 1) := by decide +kernel
theorem dX4_takeLastOff_80 : decode cX4_takeLastOff 80 = .ok (.aload_n 1, 1) := by decide +kernel
theorem dX4_takeLastOff_81 : decode cX4_takeLastOff 81 = .ok (.dup, 1) := by decide +kernel
theorem dX4_takeLastOff_82 : decode cX4_takeLastOff 82 = .ok (.getfield 307, 3) := by decide +kernel
theorem dX4_takeLastOff_85 : decode cX4_takeLastOff 85 = .ok (.iconst 1, 1) := by decide +kernel
theorem dX4_takeLastOff_86 : decode cX4_takeLastOff 86 = .ok (.iload_n 3, 1) := by decide +kernel
theorem dX4_takeLastOff_87 : decode cX4_takeLastOff 87 = .ok (.ishl, 1) := by decide +kernel
theorem dX4_takeLastOff_88 : decode cX4_takeLastOff 88 = .ok (.iconst (-1), 1) := by decide +kernel
theorem dX4_takeLastOff_89 : decode cX4_takeLastOff 89 = .ok (.ixor, 1) := by decide +kernel
theorem dX4_takeLastOff_90 : decode cX4_takeLastOff 90 = .ok (.iand, 1) := by decide +kernel
theorem dX4_takeLastOff_91 : decode cX4_takeLastOff 91 = .ok (.putfield 307, 3) := by decide +kernel
theorem dX4_takeLastOff_94 : decode cX4_takeLastOff 94 = .ok (.aload_n 1, 1) := by decide +kernel
theorem dX4_takeLastOff_95 : decode cX4_takeLastOff 95 = .ok (.dup, 1) := by decide +kernel
theorem dX4_takeLastOff_96 : decode cX4_takeLastOff 96 = .ok (.getfield 273, 3) := by decide +kernel
theorem dX4_takeLastOff_99 : decode cX4_takeLastOff 99 = .ok (.aload 4, 2) := by decide +kernel
theorem dX4_takeLastOff_101 : decode cX4_takeLastOff 101 = .ok (.getfield 101, 3) := by decide +kernel
theorem dX4_takeLastOff_104 : decode cX4_takeLastOff 104 = .ok (.isub, 1) := by decide +kernel
theorem dX4_takeLastOff_105 : decode cX4_takeLastOff 105 = .ok (.putfield 273, 3) := by decide +kernel
theorem dX4_takeLastOff_108 : decode cX4_takeLastOff 108 = .ok (.aload_n 1, 1) := by decide +kernel
theorem dX4_takeLastOff_109 : decode cX4_takeLastOff 109 = .ok (.iload_n 2, 1) := by decide +kernel
theorem dX4_takeLastOff_110 : decode cX4_takeLastOff 110 = .ok (.putfield 200, 3) := by decide +kernel
theorem dX4_takeLastOff_113 : decode cX4_takeLastOff 113 = .ok (.return_, 1) := by decide +kernel
theorem dX4_costByPieces_0 : decode cX4_costByPieces 0 = .ok (.aload_n 0, 1) := by decide +kernel
theorem dX4_costByPieces_1 : decode cX4_costByPieces 1 = .ok (.getfield 54, 3) := by decide +kernel
theorem dX4_costByPieces_4 : decode cX4_costByPieces 4 = .ok (.astore_n 2, 1) := by decide +kernel
theorem dX4_costByPieces_5 : decode cX4_costByPieces 5 = .ok (.aload_n 2, 1) := by decide +kernel
theorem dX4_costByPieces_6 : decode cX4_costByPieces 6 = .ok (.ifnonnull 5, 3) := by decide +kernel
theorem dX4_costByPieces_9 : decode cX4_costByPieces 9 = .ok (.iconst 0, 1) := by decide +kernel
theorem dX4_costByPieces_10 : decode cX4_costByPieces 10 = .ok (.ireturn, 1) := by decide +kernel
theorem dX4_costByPieces_11 : decode cX4_costByPieces 11 = .ok (.iconst 0, 1) := by decide +kernel
theorem dX4_costByPieces_12 : decode cX4_costByPieces 12 = .ok (.istore_n 3, 1) := by decide +kernel
theorem dX4_costByPieces_13 : decode cX4_costByPieces 13 = .ok (.iconst 0, 1) := by decide +kernel
theorem dX4_costByPieces_14 : decode cX4_costByPieces 14 = .ok (.istore 4, 2) := by decide +kernel
theorem dX4_costByPieces_16 : decode cX4_costByPieces 16 = .ok (.iload 4, 2) := by decide +kernel
theorem dX4_costByPieces_18 : decode cX4_costByPieces 18 = .ok (.aload_n 1, 1) := by decide +kernel
theorem dX4_costByPieces_19 : decode cX4_costByPieces 19 = .ok (.getfield 200, 3) := by decide +kernel
theorem dX4_costByPieces_22 : decode cX4_costByPieces 22 = .ok (.if_icmp .ge 70, 3) := by decide +kernel
theorem dX4_costByPieces_25 : decode cX4_costByPieces 25 = .ok (.aload_n 1, 1) := by decide +kernel
theorem dX4_costByPieces_26 : decode cX4_costByPieces 26 = .ok (.getfield 334, 3) := by decide +kernel
theorem dX4_costByPieces_29 : decode cX4_costByPieces 29 = .ok (.iload 4, 2) := by decide +kernel
theorem dX4_costByPieces_31 : decode cX4_costByPieces 31 = .ok (.iaload, 1) := by decide +kernel
theorem dX4_costByPieces_32 : decode cX4_costByPieces 32 = .ok (.aload_n 1, 1) := by decide +kernel
theorem dX4_costByPieces_33 : decode cX4_costByPieces 33 = .ok (.getfield 256, 3) := by decide +kernel
theorem dX4_costByPieces_36 : decode cX4_costByPieces 36 = .ok (.iload 4, 2) := by decide +kernel
theorem dX4_costByPieces_38 : decode cX4_costByPieces 38 = .ok (.iaload, 1) := by decide +kernel
theorem dX4_costByPieces_39 : decode cX4_costByPieces 39 = .ok (.isub, 1) := by decide +kernel
theorem dX4_costByPieces_40 : decode cX4_costByPieces 40 = .ok (.istore 5, 2) := by decide +kernel
theorem dX4_costByPieces_42 : decode cX4_costByPieces 42 = .ok (.iconst 0, 1) := by decide +kernel
theorem dX4_costByPieces_43 : decode cX4_costByPieces 43 = .ok (.iload 5, 2) := by decide +kernel
theorem dX4_costByPieces_45 : decode cX4_costByPieces 45 = .ok (.aload_n 2, 1) := by decide +kernel
theorem dX4_costByPieces_46 : decode cX4_costByPieces 46 = .ok (.getfield 194, 3) := by decide +kernel
theorem dX4_costByPieces_49 : decode cX4_costByPieces 49 = .ok (.aload_n 1, 1) := by decide +kernel
theorem dX4_costByPieces_50 : decode cX4_costByPieces 50 = .ok (.getfield 256, 3) := by decide +kernel
theorem dX4_costByPieces_53 : decode cX4_costByPieces 53 = .ok (.iload 4, 2) := by decide +kernel
theorem dX4_costByPieces_55 : decode cX4_costByPieces 55 = .ok (.iaload, 1) := by decide +kernel
theorem dX4_costByPieces_56 : decode cX4_costByPieces 56 = .ok (.isub, 1) := by decide +kernel
theorem dX4_costByPieces_57 : decode cX4_costByPieces 57 = .ok (.invokestatic 340, 3) := by decide +kernel
theorem dX4_costByPieces_60 : decode cX4_costByPieces 60 = .ok (.invokestatic 323, 3) := by decide +kernel
theorem dX4_costByPieces_63 : decode cX4_costByPieces 63 = .ok (.istore 6, 2) := by decide +kernel
theorem dX4_costByPieces_65 : decode cX4_costByPieces 65 = .ok (.iload_n 3, 1) := by decide +kernel
theorem dX4_costByPieces_66 : decode cX4_costByPieces 66 = .ok (.iload 6, 2) := by decide +kernel
theorem dX4_costByPieces_68 : decode cX4_costByPieces 68 = .ok (.aload_n 2, 1) := by decide +kernel
theorem dX4_costByPieces_69 : decode cX4_costByPieces 69 = .ok (.getfield 191, 3) := by decide +kernel
theorem dX4_costByPieces_72 : decode cX4_costByPieces 72 = .ok (.imul, 1) := by decide +kernel
theorem dX4_costByPieces_73 : decode cX4_costByPieces 73 = .ok (.iload 5, 2) := by decide +kernel
theorem dX4_costByPieces_75 : decode cX4_costByPieces 75 = .ok (.iload 6, 2) := by decide +kernel
theorem dX4_costByPieces_77 : decode cX4_costByPieces 77 = .ok (.isub, 1) := by decide +kernel
theorem dX4_costByPieces_78 : decode cX4_costByPieces 78 = .ok (.aload_n 2, 1) := by decide +kernel
theorem dX4_costByPieces_79 : decode cX4_costByPieces 79 = .ok (.getfield 197, 3) := by decide +kernel
theorem dX4_costByPieces_82 : decode cX4_costByPieces 82 = .ok (.imul, 1) := by decide +kernel
theorem dX4_costByPieces_83 : decode cX4_costByPieces 83 = .ok (.iadd, 1) := by decide +kernel
theorem dX4_costByPieces_84 : decode cX4_costByPieces 84 = .ok (.iadd, 1) := by decide +kernel
theorem dX4_costByPieces_85 : decode cX4_costByPieces 85 = .ok (.istore_n 3, 1) := by decide +kernel
theorem dX4_costByPieces_86 : decode cX4_costByPieces 86 = .ok (.iinc 4 1, 3) := by decide +kernel
theorem dX4_costByPieces_89 : decode cX4_costByPieces 89 = .ok (.goto (-73), 3) := by decide +kernel
theorem dX4_costByPieces_92 : decode cX4_costByPieces 92 = .ok (.iload_n 3, 1) := by decide +kernel
theorem dX4_costByPieces_93 : decode cX4_costByPieces 93 = .ok (.ireturn, 1) := by decide +kernel
theorem dX4_costMinuteByMinute_0 : decode cX4_costMinuteByMinute 0 = .ok (.aload_n 0, 1) := by decide +kernel
theorem dX4_costMinuteByMinute_1 : decode cX4_costMinuteByMinute 1 = .ok (.getfield 54, 3) := by decide +kernel
theorem dX4_costMinuteByMinute_4 : decode cX4_costMinuteByMinute 4 = .ok (.astore_n 1, 1) := by decide +kernel
theorem dX4_costMinuteByMinute_5 : decode cX4_costMinuteByMinute 5 = .ok (.aload_n 1, 1) := by decide +kernel
theorem dX4_costMinuteByMinute_6 : decode cX4_costMinuteByMinute 6 = .ok (.ifnonnull 5, 3) := by decide +kernel
theorem dX4_costMinuteByMinute_9 : decode cX4_costMinuteByMinute 9 = .ok (.lconst 0, 1) := by decide +kernel
theorem dX4_costMinuteByMinute_10 : decode cX4_costMinuteByMinute 10 = .ok (.lreturn, 1) := by decide +kernel
theorem dX4_costMinuteByMinute_11 : decode cX4_costMinuteByMinute 11 = .ok (.lconst 0, 1) := by decide +kernel
theorem dX4_costMinuteByMinute_12 : decode cX4_costMinuteByMinute 12 = .ok (.lstore_n 2, 1) := by decide +kernel
theorem dX4_costMinuteByMinute_13 : decode cX4_costMinuteByMinute 13 = .ok (.aload_n 0, 1) := by decide +kernel
theorem dX4_costMinuteByMinute_14 : decode cX4_costMinuteByMinute 14 = .ok (.getfield 34, 3) := by decide +kernel
theorem dX4_costMinuteByMinute_17 : decode cX4_costMinuteByMinute 17 = .ok (.invokevirtual 234, 3) := by decide +kernel
theorem dX4_costMinuteByMinute_20 : decode cX4_costMinuteByMinute 20 = .ok (.istore 4, 2) := by decide +kernel
theorem dX4_costMinuteByMinute_22 : decode cX4_costMinuteByMinute 22 = .ok (.iconst 0, 1) := by decide +kernel
theorem dX4_costMinuteByMinute_23 : decode cX4_costMinuteByMinute 23 = .ok (.istore 5, 2) := by decide +kernel
theorem dX4_costMinuteByMinute_25 : decode cX4_costMinuteByMinute 25 = .ok (.iload 5, 2) := by decide +kernel
theorem dX4_costMinuteByMinute_27 : decode cX4_costMinuteByMinute 27 = .ok (.iload 4, 2) := by decide +kernel
theorem dX4_costMinuteByMinute_29 : decode cX4_costMinuteByMinute 29 = .ok (.if_icmp .ge 46, 3) := by decide +kernel
theorem dX4_costMinuteByMinute_32 : decode cX4_costMinuteByMinute 32 = .ok (.aload_n 0, 1) := by decide +kernel
theorem dX4_costMinuteByMinute_33 : decode cX4_costMinuteByMinute 33 = .ok (.getfield 34, 3) := by decide +kernel
theorem dX4_costMinuteByMinute_36 : decode cX4_costMinuteByMinute 36 = .ok (.iload 5, 2) := by decide +kernel
theorem dX4_costMinuteByMinute_38 : decode cX4_costMinuteByMinute 38 = .ok (.invokevirtual 343, 3) := by decide +kernel
theorem dX4_costMinuteByMinute_41 : decode cX4_costMinuteByMinute 41 = .ok (.ifCond .eq 28, 3) := by decide +kernel
theorem dX4_costMinuteByMinute_44 : decode cX4_costMinuteByMinute 44 = .ok (.lload_n 2, 1) := by decide +kernel
theorem dX4_costMinuteByMinute_45 : decode cX4_costMinuteByMinute 45 = .ok (.iload 5, 2) := by decide +kernel
theorem dX4_costMinuteByMinute_47 : decode cX4_costMinuteByMinute 47 = .ok (.aload_n 1, 1) := by decide +kernel
theorem dX4_costMinuteByMinute_48 : decode cX4_costMinuteByMinute 48 = .ok (.getfield 194, 3) := by decide +kernel
theorem dX4_costMinuteByMinute_51 : decode cX4_costMinuteByMinute 51 = .ok (.if_icmp .ge 11, 3) := by decide +kernel
theorem dX4_costMinuteByMinute_54 : decode cX4_costMinuteByMinute 54 = .ok (.aload_n 1, 1) := by decide +kernel
theorem dX4_costMinuteByMinute_55 : decode cX4_costMinuteByMinute 55 = .ok (.getfield 191, 3) := by decide +kernel
theorem dX4_costMinuteByMinute_58 : decode cX4_costMinuteByMinute 58 = .ok (.i2l, 1) := by decide +kernel
theorem dX4_costMinuteByMinute_59 : decode cX4_costMinuteByMinute 59 = .ok (.goto 8, 3) := by decide +kernel
theorem dX4_costMinuteByMinute_62 : decode cX4_costMinuteByMinute 62 = .ok (.aload_n 1, 1) := by decide +kernel
theorem dX4_costMinuteByMinute_63 : decode cX4_costMinuteByMinute 63 = .ok (.getfield 197, 3) := by decide +kernel
theorem dX4_costMinuteByMinute_66 : decode cX4_costMinuteByMinute 66 = .ok (.i2l, 1) := by decide +kernel
theorem dX4_costMinuteByMinute_67 : decode cX4_costMinuteByMinute 67 = .ok (.ladd, 1) := by decide +kernel
theorem dX4_costMinuteByMinute_68 : decode cX4_costMinuteByMinute 68 = .ok (.lstore_n 2, 1) := by decide +kernel
theorem dX4_costMinuteByMinute_69 : decode cX4_costMinuteByMinute 69 = .ok (.iinc 5 1, 3) := by decide +kernel
theorem dX4_costMinuteByMinute_72 : decode cX4_costMinuteByMinute 72 = .ok (.goto (-47), 3) := by decide +kernel
theorem dX4_costMinuteByMinute_75 : decode cX4_costMinuteByMinute 75 = .ok (.lload_n 2, 1) := by decide +kernel
theorem dX4_costMinuteByMinute_76 : decode cX4_costMinuteByMinute 76 = .ok (.lreturn, 1) := by decide +kernel
theorem dX4_findBest_0 : decode cX4_findBest 0 = .ok (.aload_n 0, 1) := by decide +kernel
theorem dX4_findBest_1 : decode cX4_findBest 1 = .ok (.getfield 41, 3) := by decide +kernel
theorem dX4_findBest_4 : decode cX4_findBest 4 = .ok (.aload_n 0, 1) := by decide +kernel
theorem dX4_findBest_5 : decode cX4_findBest 5 = .ok (.getfield 34, 3) := by decide +kernel
theorem dX4_findBest_8 : decode cX4_findBest 8 = .ok (.invokevirtual 277, 3) := by decide +kernel
theorem dX4_findBest_11 : decode cX4_findBest 11 = .ok (.aload_n 0, 1) := by decide +kernel
theorem dX4_findBest_12 : decode cX4_findBest 12 = .ok (.getfield 54, 3) := by decide +kernel
theorem dX4_findBest_15 : decode cX4_findBest 15 = .ok (.astore_n 1, 1) := by decide +kernel
theorem dX4_findBest_16 : decode cX4_findBest 16 = .ok (.aload_n 1, 1) := by decide +kernel
theorem dX4_findBest_17 : decode cX4_findBest 17 = .ok (.ifnull 20, 3) := by decide +kernel
theorem dX4_findBest_20 : decode cX4_findBest 20 = .ok (.aload_n 0, 1) := by decide +kernel
theorem dX4_findBest_21 : decode cX4_findBest 21 = .ok (.getfield 38, 3) := by decide +kernel
theorem dX4_findBest_24 : decode cX4_findBest 24 = .ok (.aload_n 0, 1) := by decide +kernel
theorem dX4_findBest_25 : decode cX4_findBest 25 = .ok (.getfield 34, 3) := by decide +kernel
theorem dX4_findBest_28 : decode cX4_findBest 28 = .ok (.invokevirtual 277, 3) := by decide +kernel
theorem dX4_findBest_31 : decode cX4_findBest 31 = .ok (.aload_n 0, 1) := by decide +kernel
theorem dX4_findBest_32 : decode cX4_findBest 32 = .ok (.aload_n 1, 1) := by decide +kernel
theorem dX4_findBest_33 : decode cX4_findBest 33 = .ok (.iconst 0, 1) := by decide +kernel
theorem dX4_findBest_34 : decode cX4_findBest 34 = .ok (.invokestatic 346, 3) := by decide +kernel
theorem dX4_findBest_37 : decode cX4_findBest 37 = .ok (.return_, 1) := by decide +kernel
theorem dX4_seekBest_0 : decode cX4_seekBest 0 = .ok (.aload_n 0, 1) := by decide +kernel
theorem dX4_seekBest_1 : decode cX4_seekBest 1 = .ok (.aload_n 0, 1) := by decide +kernel
theorem dX4_seekBest_2 : decode cX4_seekBest 2 = .ok (.getfield 38, 3) := by decide +kernel
theorem dX4_seekBest_5 : decode cX4_seekBest 5 = .ok (.aload_n 0, 1) := by decide +kernel
theorem dX4_seekBest_6 : decode cX4_seekBest 6 = .ok (.getfield 41, 3) := by decide +kernel
theorem dX4_seekBest_9 : decode cX4_seekBest 9 = .ok (.invokevirtual 350, 3) := by decide +kernel
theorem dX4_seekBest_12 : decode cX4_seekBest 12 = .ok (.ifCond .eq 14, 3) := by decide +kernel
theorem dX4_seekBest_15 : decode cX4_seekBest 15 = .ok (.aload_n 0, 1) := by decide +kernel
theorem dX4_seekBest_16 : decode cX4_seekBest 16 = .ok (.getfield 41, 3) := by decide +kernel
theorem dX4_seekBest_19 : decode cX4_seekBest 19 = .ok (.aload_n 0, 1) := by decide +kernel
theorem dX4_seekBest_20 : decode cX4_seekBest 20 = .ok (.getfield 38, 3) := by decide +kernel
theorem dX4_seekBest_23 : decode cX4_seekBest 23 = .ok (.invokevirtual 277, 3) := by decide +kernel
theorem dX4_seekBest_26 : decode cX4_seekBest 26 = .ok (.iload_n 2, 1) := by decide +kernel
theorem dX4_seekBest_27 : decode cX4_seekBest 27 = .ok (.bipush 6, 2) := by decide +kernel
theorem dX4_seekBest_29 : decode cX4_seekBest 29 = .ok (.if_icmp .ge 11, 3) := by decide +kernel
theorem dX4_seekBest_32 : decode cX4_seekBest 32 = .ok (.aload_n 0, 1) := by decide +kernel
theorem dX4_seekBest_33 : decode cX4_seekBest 33 = .ok (.aload_n 1, 1) := by decide +kernel
theorem dX4_seekBest_34 : decode cX4_seekBest 34 = .ok (.invokevirtual 354, 3) := by decide +kernel
theorem dX4_seekBest_37 : decode cX4_seekBest 37 = .ok (.ifCond .ne 4, 3) := by decide +kernel
theorem dX4_seekBest_40 : decode cX4_seekBest 40 = .ok (.return_, 1) := by decide +kernel
theorem dX4_seekBest_41 : decode cX4_seekBest 41 = .ok (.iconst 0, 1) := by decide +kernel
theorem dX4_seekBest_42 : decode cX4_seekBest 42 = .ok (.istore_n 3, 1) := by decide +kernel
theorem dX4_seekBest_43 : decode cX4_seekBest 43 = .ok (.iload_n 3, 1) := by decide +kernel
theorem dX4_seekBest_44 : decode cX4_seekBest 44 = .ok (.aload_n 0, 1) := by decide +kernel
theorem dX4_seekBest_45 : decode cX4_seekBest 45 = .ok (.getfield 48, 3) := by decide +kernel
theorem dX4_seekBest_48 : decode cX4_seekBest 48 = .ok (.if_icmp .ge 49, 3) := by decide +kernel
theorem dX4_seekBest_51 : decode cX4_seekBest 51 = .ok (.aload_n 0, 1) := by decide +kernel
theorem dX4_seekBest_52 : decode cX4_seekBest 52 = .ok (.aload_n 0, 1) := by decide +kernel
theorem dX4_seekBest_53 : decode cX4_seekBest 53 = .ok (.getfield 38, 3) := by decide +kernel
theorem dX4_seekBest_56 : decode cX4_seekBest 56 = .ok (.iload_n 3, 1) := by decide +kernel
theorem dX4_seekBest_57 : decode cX4_seekBest 57 = .ok (.invokevirtual 224, 3) := by decide +kernel
theorem dX4_seekBest_60 : decode cX4_seekBest 60 = .ok (.bipush 45, 2) := by decide +kernel
theorem dX4_seekBest_62 : decode cX4_seekBest 62 = .ok (.if_icmp .ne 29, 3) := by decide +kernel
theorem dX4_seekBest_65 : decode cX4_seekBest 65 = .ok (.aload_n 0, 1) := by decide +kernel
theorem dX4_seekBest_66 : decode cX4_seekBest 66 = .ok (.aload_n 0, 1) := by decide +kernel
theorem dX4_seekBest_67 : decode cX4_seekBest 67 = .ok (.getfield 38, 3) := by decide +kernel
theorem dX4_seekBest_70 : decode cX4_seekBest 70 = .ok (.iload_n 3, 1) := by decide +kernel
theorem dX4_seekBest_71 : decode cX4_seekBest 71 = .ok (.aload_n 1, 1) := by decide +kernel
theorem dX4_seekBest_72 : decode cX4_seekBest 72 = .ok (.invokevirtual 230, 3) := by decide +kernel
theorem dX4_seekBest_75 : decode cX4_seekBest 75 = .ok (.aload_n 0, 1) := by decide +kernel
theorem dX4_seekBest_76 : decode cX4_seekBest 76 = .ok (.aload_n 1, 1) := by decide +kernel
theorem dX4_seekBest_77 : decode cX4_seekBest 77 = .ok (.iload_n 2, 1) := by decide +kernel
theorem dX4_seekBest_78 : decode cX4_seekBest 78 = .ok (.iconst 1, 1) := by decide +kernel
theorem dX4_seekBest_79 : decode cX4_seekBest 79 = .ok (.iadd, 1) := by decide +kernel
theorem dX4_seekBest_80 : decode cX4_seekBest 80 = .ok (.invokestatic 346, 3) := by decide +kernel
theorem dX4_seekBest_83 : decode cX4_seekBest 83 = .ok (.aload_n 0, 1) := by decide +kernel
theorem dX4_seekBest_84 : decode cX4_seekBest 84 = .ok (.aload_n 0, 1) := by decide +kernel
theorem dX4_seekBest_85 : decode cX4_seekBest 85 = .ok (.getfield 38, 3) := by decide +kernel
theorem dX4_seekBest_88 : decode cX4_seekBest 88 = .ok (.invokevirtual 243, 3) := by decide +kernel
theorem dX4_seekBest_91 : decode cX4_seekBest 91 = .ok (.iinc 3 1, 3) := by decide +kernel
theorem dX4_seekBest_94 : decode cX4_seekBest 94 = .ok (.goto (-51), 3) := by decide +kernel
theorem dX4_seekBest_97 : decode cX4_seekBest 97 = .ok (.return_, 1) := by decide +kernel
theorem dX4_isBetter_0 : decode cX4_isBetter 0 = .ok (.aload_n 1, 1) := by decide +kernel
theorem dX4_isBetter_1 : decode cX4_isBetter 1 = .ok (.getfield 273, 3) := by decide +kernel
theorem dX4_isBetter_4 : decode cX4_isBetter 4 = .ok (.aload_n 2, 1) := by decide +kernel
theorem dX4_isBetter_5 : decode cX4_isBetter 5 = .ok (.getfield 273, 3) := by decide +kernel
theorem dX4_isBetter_8 : decode cX4_isBetter 8 = .ok (.if_icmp .eq 20, 3) := by decide +kernel
theorem dX4_isBetter_11 : decode cX4_isBetter 11 = .ok (.aload_n 1, 1) := by decide +kernel
theorem dX4_isBetter_12 : decode cX4_isBetter 12 = .ok (.getfield 273, 3) := by decide +kernel
theorem dX4_isBetter_15 : decode cX4_isBetter 15 = .ok (.aload_n 2, 1) := by decide +kernel
theorem dX4_isBetter_16 : decode cX4_isBetter 16 = .ok (.getfield 273, 3) := by decide +kernel
theorem dX4_isBetter_19 : decode cX4_isBetter 19 = .ok (.if_icmp .le 7, 3) := by decide +kernel
theorem dX4_isBetter_22 : decode cX4_isBetter 22 = .ok (.iconst 1, 1) := by decide +kernel
theorem dX4_isBetter_23 : decode cX4_isBetter 23 = .ok (.goto 4, 3) := by decide +kernel
theorem dX4_isBetter_26 : decode cX4_isBetter 26 = .ok (.iconst 0, 1) := by decide +kernel
theorem dX4_isBetter_27 : decode cX4_isBetter 27 = .ok (.ireturn, 1) := by decide +kernel
theorem dX4_isBetter_28 : decode cX4_isBetter 28 = .ok (.aload_n 1, 1) := by decide +kernel
theorem dX4_isBetter_29 : decode cX4_isBetter 29 = .ok (.invokevirtual 234, 3) := by decide +kernel
theorem dX4_isBetter_32 : decode cX4_isBetter 32 = .ok (.aload_n 2, 1) := by decide +kernel
theorem dX4_isBetter_33 : decode cX4_isBetter 33 = .ok (.invokevirtual 234, 3) := by decide +kernel
theorem dX4_isBetter_36 : decode cX4_isBetter 36 = .ok (.if_icmp .eq 20, 3) := by decide +kernel
theorem dX4_isBetter_39 : decode cX4_isBetter 39 = .ok (.aload_n 1, 1) := by decide +kernel
theorem dX4_isBetter_40 : decode cX4_isBetter 40 = .ok (.invokevirtual 234, 3) := by decide +kernel
theorem dX4_isBetter_43 : decode cX4_isBetter 43 = .ok (.aload_n 2, 1) := by decide +kernel
theorem dX4_isBetter_44 : decode cX4_isBetter 44 = .ok (.invokevirtual 234, 3) := by decide +kernel
theorem dX4_isBetter_47 : decode cX4_isBetter 47 = .ok (.if_icmp .ge 7, 3) := by decide +kernel
theorem dX4_isBetter_50 : decode cX4_isBetter 50 = .ok (.iconst 1, 1) := by decide +kernel
theorem dX4_isBetter_51 : decode cX4_isBetter 51 = .ok (.goto 4, 3) := by decide +kernel
theorem dX4_isBetter_54 : decode cX4_isBetter 54 = .ok (.iconst 0, 1) := by decide +kernel
theorem dX4_isBetter_55 : decode cX4_isBetter 55 = .ok (.ireturn, 1) := by decide +kernel
theorem dX4_isBetter_56 : decode cX4_isBetter 56 = .ok (.aload_n 0, 1) := by decide +kernel
theorem dX4_isBetter_57 : decode cX4_isBetter 57 = .ok (.aload_n 1, 1) := by decide +kernel
theorem dX4_isBetter_58 : decode cX4_isBetter 58 = .ok (.invokevirtual 262, 3) := by decide +kernel
theorem dX4_isBetter_61 : decode cX4_isBetter 61 = .ok (.aload_n 0, 1) := by decide +kernel
theorem dX4_isBetter_62 : decode cX4_isBetter 62 = .ok (.aload_n 2, 1) := by decide +kernel
theorem dX4_isBetter_63 : decode cX4_isBetter 63 = .ok (.invokevirtual 262, 3) := by decide +kernel
theorem dX4_isBetter_66 : decode cX4_isBetter 66 = .ok (.if_icmp .ge 7, 3) := by decide +kernel
theorem dX4_isBetter_69 : decode cX4_isBetter 69 = .ok (.iconst 1, 1) := by decide +kernel
theorem dX4_isBetter_70 : decode cX4_isBetter 70 = .ok (.goto 4, 3) := by decide +kernel
theorem dX4_isBetter_73 : decode cX4_isBetter 73 = .ok (.iconst 0, 1) := by decide +kernel
theorem dX4_isBetter_74 : decode cX4_isBetter 74 = .ok (.ireturn, 1) := by decide +kernel
theorem dX4_mayLeadToBetter_0 : decode cX4_mayLeadToBetter 0 = .ok (.aload_n 0, 1) := by decide +kernel
theorem dX4_mayLeadToBetter_1 : decode cX4_mayLeadToBetter 1 = .ok (.getfield 38, 3) := by decide +kernel
theorem dX4_mayLeadToBetter_4 : decode cX4_mayLeadToBetter 4 = .ok (.getfield 273, 3) := by decide +kernel
theorem dX4_mayLeadToBetter_7 : decode cX4_mayLeadToBetter 7 = .ok (.istore_n 2, 1) := by decide +kernel
theorem dX4_mayLeadToBetter_8 : decode cX4_mayLeadToBetter 8 = .ok (.aload_n 0, 1) := by decide +kernel
theorem dX4_mayLeadToBetter_9 : decode cX4_mayLeadToBetter 9 = .ok (.getfield 38, 3) := by decide +kernel
theorem dX4_mayLeadToBetter_12 : decode cX4_mayLeadToBetter 12 = .ok (.invokevirtual 234, 3) := by decide +kernel
theorem dX4_mayLeadToBetter_15 : decode cX4_mayLeadToBetter 15 = .ok (.istore_n 3, 1) := by decide +kernel
theorem dX4_mayLeadToBetter_16 : decode cX4_mayLeadToBetter 16 = .ok (.iconst 0, 1) := by decide +kernel
theorem dX4_mayLeadToBetter_17 : decode cX4_mayLeadToBetter 17 = .ok (.istore 4, 2) := by decide +kernel
theorem dX4_mayLeadToBetter_19 : decode cX4_mayLeadToBetter 19 = .ok (.iload 4, 2) := by decide +kernel
theorem dX4_mayLeadToBetter_21 : decode cX4_mayLeadToBetter 21 = .ok (.aload_n 0, 1) := by decide +kernel
theorem dX4_mayLeadToBetter_22 : decode cX4_mayLeadToBetter 22 = .ok (.getfield 48, 3) := by decide +kernel
theorem dX4_mayLeadToBetter_25 : decode cX4_mayLeadToBetter 25 = .ok (.if_icmp .ge 65, 3) := by decide +kernel
theorem dX4_mayLeadToBetter_28 : decode cX4_mayLeadToBetter 28 = .ok (.iload 4, 2) := by decide +kernel
theorem dX4_mayLeadToBetter_30 : decode cX4_mayLeadToBetter 30 = .ok (.aload_n 0, 1) := by decide +kernel
theorem dX4_mayLeadToBetter_31 : decode cX4_mayLeadToBetter 31 = .ok (.getfield 38, 3) := by decide +kernel
theorem dX4_mayLeadToBetter_34 : decode cX4_mayLeadToBetter 34 = .ok (.getfield 307, 3) := by decide +kernel
theorem dX4_mayLeadToBetter_37 : decode cX4_mayLeadToBetter 37 = .ok (.invokestatic 140, 3) := by decide +kernel
theorem dX4_mayLeadToBetter_40 : decode cX4_mayLeadToBetter 40 = .ok (.ifCond .ne 44, 3) := by decide +kernel
theorem dX4_mayLeadToBetter_43 : decode cX4_mayLeadToBetter 43 = .ok (.aload_n 0, 1) := by decide +kernel
theorem dX4_mayLeadToBetter_44 : decode cX4_mayLeadToBetter 44 = .ok (.aload_n 0, 1) := by decide +kernel
theorem dX4_mayLeadToBetter_45 : decode cX4_mayLeadToBetter 45 = .ok (.getfield 17, 3) := by decide +kernel
theorem dX4_mayLeadToBetter_48 : decode cX4_mayLeadToBetter 48 = .ok (.iload 4, 2) := by decide +kernel
theorem dX4_mayLeadToBetter_50 : decode cX4_mayLeadToBetter 50 = .ok (.aaload, 1) := by decide +kernel
theorem dX4_mayLeadToBetter_51 : decode cX4_mayLeadToBetter 51 = .ok (.aload_n 1, 1) := by decide +kernel
theorem dX4_mayLeadToBetter_52 : decode cX4_mayLeadToBetter 52 = .ok (.invokevirtual 357, 3) := by decide +kernel
theorem dX4_mayLeadToBetter_55 : decode cX4_mayLeadToBetter 55 = .ok (.ifCond .eq 29, 3) := by decide +kernel
theorem dX4_mayLeadToBetter_58 : decode cX4_mayLeadToBetter 58 = .ok (.iload_n 2, 1) := by decide +kernel
theorem dX4_mayLeadToBetter_59 : decode cX4_mayLeadToBetter 59 = .ok (.aload_n 0, 1) := by decide +kernel
theorem dX4_mayLeadToBetter_60 : decode cX4_mayLeadToBetter 60 = .ok (.getfield 17, 3) := by decide +kernel
theorem dX4_mayLeadToBetter_63 : decode cX4_mayLeadToBetter 63 = .ok (.iload 4, 2) := by decide +kernel
theorem dX4_mayLeadToBetter_65 : decode cX4_mayLeadToBetter 65 = .ok (.aaload, 1) := by decide +kernel
theorem dX4_mayLeadToBetter_66 : decode cX4_mayLeadToBetter 66 = .ok (.getfield 101, 3) := by decide +kernel
theorem dX4_mayLeadToBetter_69 : decode cX4_mayLeadToBetter 69 = .ok (.iadd, 1) := by decide +kernel
theorem dX4_mayLeadToBetter_70 : decode cX4_mayLeadToBetter 70 = .ok (.istore_n 2, 1) := by decide +kernel
theorem dX4_mayLeadToBetter_71 : decode cX4_mayLeadToBetter 71 = .ok (.iload_n 3, 1) := by decide +kernel
theorem dX4_mayLeadToBetter_72 : decode cX4_mayLeadToBetter 72 = .ok (.aload_n 0, 1) := by decide +kernel
theorem dX4_mayLeadToBetter_73 : decode cX4_mayLeadToBetter 73 = .ok (.getfield 17, 3) := by decide +kernel
theorem dX4_mayLeadToBetter_76 : decode cX4_mayLeadToBetter 76 = .ok (.iload 4, 2) := by decide +kernel
theorem dX4_mayLeadToBetter_78 : decode cX4_mayLeadToBetter 78 = .ok (.aaload, 1) := by decide +kernel
theorem dX4_mayLeadToBetter_79 : decode cX4_mayLeadToBetter 79 = .ok (.getfield 98, 3) := by decide +kernel
theorem dX4_mayLeadToBetter_82 : decode cX4_mayLeadToBetter 82 = .ok (.iadd, 1) := by decide +kernel
theorem dX4_mayLeadToBetter_83 : decode cX4_mayLeadToBetter 83 = .ok (.istore_n 3, 1) := by decide +kernel
theorem dX4_mayLeadToBetter_84 : decode cX4_mayLeadToBetter 84 = .ok (.iinc 4 1, 3) := by decide +kernel
theorem dX4_mayLeadToBetter_87 : decode cX4_mayLeadToBetter 87 = .ok (.goto (-68), 3) := by decide +kernel
theorem dX4_mayLeadToBetter_90 : decode cX4_mayLeadToBetter 90 = .ok (.iload_n 2, 1) := by decide +kernel
theorem dX4_mayLeadToBetter_91 : decode cX4_mayLeadToBetter 91 = .ok (.aload_n 0, 1) := by decide +kernel
theorem dX4_mayLeadToBetter_92 : decode cX4_mayLeadToBetter 92 = .ok (.getfield 41, 3) := by decide +kernel
theorem dX4_mayLeadToBetter_95 : decode cX4_mayLeadToBetter 95 = .ok (.getfield 273, 3) := by decide +kernel
theorem dX4_mayLeadToBetter_98 : decode cX4_mayLeadToBetter 98 = .ok (.if_icmp .eq 20, 3) := by decide +kernel
theorem dX4_mayLeadToBetter_101 : decode cX4_mayLeadToBetter 101 = .ok (.iload_n 2, 1) := by decide +kernel
theorem dX4_mayLeadToBetter_102 : decode cX4_mayLeadToBetter 102 = .ok (.aload_n 0, 1) := by decide +kernel
theorem dX4_mayLeadToBetter_103 : decode cX4_mayLeadToBetter 103 = .ok (.getfield 41, 3) := by decide +kernel
theorem dX4_mayLeadToBetter_106 : decode cX4_mayLeadToBetter 106 = .ok (.getfield 273, 3) := by decide +kernel
theorem dX4_mayLeadToBetter_109 : decode cX4_mayLeadToBetter 109 = .ok (.if_icmp .le 7, 3) := by decide +kernel
theorem dX4_mayLeadToBetter_112 : decode cX4_mayLeadToBetter 112 = .ok (.iconst 1, 1) := by decide +kernel
theorem dX4_mayLeadToBetter_113 : decode cX4_mayLeadToBetter 113 = .ok (.goto 4, 3) := by decide +kernel
theorem dX4_mayLeadToBetter_116 : decode cX4_mayLeadToBetter 116 = .ok (.iconst 0, 1) := by decide +kernel
theorem dX4_mayLeadToBetter_117 : decode cX4_mayLeadToBetter 117 = .ok (.ireturn, 1) := by decide +kernel
theorem dX4_mayLeadToBetter_118 : decode cX4_mayLeadToBetter 118 = .ok (.iload_n 3, 1) := by decide +kernel
theorem dX4_mayLeadToBetter_119 : decode cX4_mayLeadToBetter 119 = .ok (.aload_n 0, 1) := by decide +kernel
theorem dX4_mayLeadToBetter_120 : decode cX4_mayLeadToBetter 120 = .ok (.getfield 41, 3) := by decide +kernel
theorem dX4_mayLeadToBetter_123 : decode cX4_mayLeadToBetter 123 = .ok (.invokevirtual 234, 3) := by decide +kernel
theorem dX4_mayLeadToBetter_126 : decode cX4_mayLeadToBetter 126 = .ok (.if_icmp .gt 7, 3) := by decide +kernel
theorem dX4_mayLeadToBetter_129 : decode cX4_mayLeadToBetter 129 = .ok (.iconst 1, 1) := by decide +kernel
theorem dX4_mayLeadToBetter_130 : decode cX4_mayLeadToBetter 130 = .ok (.goto 4, 3) := by decide +kernel
theorem dX4_mayLeadToBetter_133 : decode cX4_mayLeadToBetter 133 = .ok (.iconst 0, 1) := by decide +kernel
theorem dX4_mayLeadToBetter_134 : decode cX4_mayLeadToBetter 134 = .ok (.ireturn, 1) := by decide +kernel
theorem dX4_mayComeLater_0 : decode cX4_mayComeLater 0 = .ok (.aload_n 0, 1) := by decide +kernel
theorem dX4_mayComeLater_1 : decode cX4_mayComeLater 1 = .ok (.getfield 38, 3) := by decide +kernel
theorem dX4_mayComeLater_4 : decode cX4_mayComeLater 4 = .ok (.invokevirtual 234, 3) := by decide +kernel
theorem dX4_mayComeLater_7 : decode cX4_mayComeLater 7 = .ok (.aload_n 0, 1) := by decide +kernel
theorem dX4_mayComeLater_8 : decode cX4_mayComeLater 8 = .ok (.getfield 27, 3) := by decide +kernel
theorem dX4_mayComeLater_11 : decode cX4_mayComeLater 11 = .ok (.aload_n 1, 1) := by decide +kernel
theorem dX4_mayComeLater_12 : decode cX4_mayComeLater 12 = .ok (.getfield 104, 3) := by decide +kernel
theorem dX4_mayComeLater_15 : decode cX4_mayComeLater 15 = .ok (.iaload, 1) := by decide +kernel
theorem dX4_mayComeLater_16 : decode cX4_mayComeLater 16 = .ok (.invokestatic 323, 3) := by decide +kernel
theorem dX4_mayComeLater_19 : decode cX4_mayComeLater 19 = .ok (.istore_n 3, 1) := by decide +kernel
theorem dX4_mayComeLater_20 : decode cX4_mayComeLater 20 = .ok (.aload_n 1, 1) := by decide +kernel
theorem dX4_mayComeLater_21 : decode cX4_mayComeLater 21 = .ok (.invokevirtual 312, 3) := by decide +kernel
theorem dX4_mayComeLater_24 : decode cX4_mayComeLater 24 = .ok (.ifCond .eq 44, 3) := by decide +kernel
theorem dX4_mayComeLater_27 : decode cX4_mayComeLater 27 = .ok (.aload_n 1, 1) := by decide +kernel
theorem dX4_mayComeLater_28 : decode cX4_mayComeLater 28 = .ok (.getfield 98, 3) := by decide +kernel
theorem dX4_mayComeLater_31 : decode cX4_mayComeLater 31 = .ok (.aload_n 2, 1) := by decide +kernel
theorem dX4_mayComeLater_32 : decode cX4_mayComeLater 32 = .ok (.getfield 177, 3) := by decide +kernel
theorem dX4_mayComeLater_35 : decode cX4_mayComeLater 35 = .ok (.if_icmp .gt 33, 3) := by decide +kernel
theorem dX4_mayComeLater_38 : decode cX4_mayComeLater 38 = .ok (.iload_n 3, 1) := by decide +kernel
theorem dX4_mayComeLater_39 : decode cX4_mayComeLater 39 = .ok (.aload_n 1, 1) := by decide +kernel
theorem dX4_mayComeLater_40 : decode cX4_mayComeLater 40 = .ok (.getfield 98, 3) := by decide +kernel
theorem dX4_mayComeLater_43 : decode cX4_mayComeLater 43 = .ok (.iadd, 1) := by decide +kernel
theorem dX4_mayComeLater_44 : decode cX4_mayComeLater 44 = .ok (.aload_n 2, 1) := by decide +kernel
theorem dX4_mayComeLater_45 : decode cX4_mayComeLater 45 = .ok (.getfield 183, 3) := by decide +kernel
theorem dX4_mayComeLater_48 : decode cX4_mayComeLater 48 = .ok (.if_icmp .gt 20, 3) := by decide +kernel
theorem dX4_mayComeLater_51 : decode cX4_mayComeLater 51 = .ok (.aload_n 0, 1) := by decide +kernel
theorem dX4_mayComeLater_52 : decode cX4_mayComeLater 52 = .ok (.aload_n 0, 1) := by decide +kernel
theorem dX4_mayComeLater_53 : decode cX4_mayComeLater 53 = .ok (.getfield 38, 3) := by decide +kernel
theorem dX4_mayComeLater_56 : decode cX4_mayComeLater 56 = .ok (.aload_n 1, 1) := by decide +kernel
theorem dX4_mayComeLater_57 : decode cX4_mayComeLater 57 = .ok (.aload_n 2, 1) := by decide +kernel
theorem dX4_mayComeLater_58 : decode cX4_mayComeLater 58 = .ok (.invokevirtual 315, 3) := by decide +kernel
theorem dX4_mayComeLater_61 : decode cX4_mayComeLater 61 = .ok (.ifCond .ne 7, 3) := by decide +kernel
theorem dX4_mayComeLater_64 : decode cX4_mayComeLater 64 = .ok (.iconst 1, 1) := by decide +kernel
theorem dX4_mayComeLater_65 : decode cX4_mayComeLater 65 = .ok (.goto 4, 3) := by decide +kernel
theorem dX4_mayComeLater_68 : decode cX4_mayComeLater 68 = .ok (.iconst 0, 1) := by decide +kernel
theorem dX4_mayComeLater_69 : decode cX4_mayComeLater 69 = .ok (.ireturn, 1) := by decide +kernel
theorem dX4_tryAllCompletions_0 : decode cX4_tryAllCompletions 0 = .ok (.aload_n 0, 1) := by decide +kernel
theorem dX4_tryAllCompletions_1 : decode cX4_tryAllCompletions 1 = .ok (.iconst 0, 1) := by decide +kernel
theorem dX4_tryAllCompletions_2 : decode cX4_tryAllCompletions 2 = .ok (.putfield 58, 3) := by decide +kernel
theorem dX4_tryAllCompletions_5 : decode cX4_tryAllCompletions 5 = .ok (.aload_n 0, 1) := by decide +kernel
theorem dX4_tryAllCompletions_6 : decode cX4_tryAllCompletions 6 = .ok (.iconst 0, 1) := by decide +kernel
theorem dX4_tryAllCompletions_7 : decode cX4_tryAllCompletions 7 = .ok (.putfield 61, 3) := by decide +kernel
theorem dX4_tryAllCompletions_10 : decode cX4_tryAllCompletions 10 = .ok (.aload_n 0, 1) := by decide +kernel
theorem dX4_tryAllCompletions_11 : decode cX4_tryAllCompletions 11 = .ok (.getfield 38, 3) := by decide +kernel
theorem dX4_tryAllCompletions_14 : decode cX4_tryAllCompletions 14 = .ok (.aload_n 0, 1) := by decide +kernel
theorem dX4_tryAllCompletions_15 : decode cX4_tryAllCompletions 15 = .ok (.getfield 34, 3) := by decide +kernel
theorem dX4_tryAllCompletions_18 : decode cX4_tryAllCompletions 18 = .ok (.invokevirtual 277, 3) := by decide +kernel
theorem dX4_tryAllCompletions_21 : decode cX4_tryAllCompletions 21 = .ok (.aload_n 0, 1) := by decide +kernel
theorem dX4_tryAllCompletions_22 : decode cX4_tryAllCompletions 22 = .ok (.iconst 0, 1) := by decide +kernel
theorem dX4_tryAllCompletions_23 : decode cX4_tryAllCompletions 23 = .ok (.invokestatic 361, 3) := by decide +kernel
theorem dX4_tryAllCompletions_26 : decode cX4_tryAllCompletions 26 = .ok (.return_, 1) := by decide +kernel
theorem dX4_tryAllFrom_0 : decode cX4_tryAllFrom 0 = .ok (.aload_n 0, 1) := by decide +kernel
theorem dX4_tryAllFrom_1 : decode cX4_tryAllFrom 1 = .ok (.dup, 1) := by decide +kernel
theorem dX4_tryAllFrom_2 : decode cX4_tryAllFrom 2 = .ok (.getfield 58, 3) := by decide +kernel
theorem dX4_tryAllFrom_5 : decode cX4_tryAllFrom 5 = .ok (.iconst 1, 1) := by decide +kernel
theorem dX4_tryAllFrom_6 : decode cX4_tryAllFrom 6 = .ok (.iadd, 1) := by decide +kernel
theorem dX4_tryAllFrom_7 : decode cX4_tryAllFrom 7 = .ok (.putfield 58, 3) := by decide +kernel
theorem dX4_tryAllFrom_10 : decode cX4_tryAllFrom 10 = .ok (.aload_n 0, 1) := by decide +kernel
theorem dX4_tryAllFrom_11 : decode cX4_tryAllFrom 11 = .ok (.aload_n 0, 1) := by decide +kernel
theorem dX4_tryAllFrom_12 : decode cX4_tryAllFrom 12 = .ok (.getfield 61, 3) := by decide +kernel
theorem dX4_tryAllFrom_15 : decode cX4_tryAllFrom 15 = .ok (.aload_n 0, 1) := by decide +kernel
theorem dX4_tryAllFrom_16 : decode cX4_tryAllFrom 16 = .ok (.getfield 38, 3) := by decide +kernel
theorem dX4_tryAllFrom_19 : decode cX4_tryAllFrom 19 = .ok (.getfield 273, 3) := by decide +kernel
theorem dX4_tryAllFrom_22 : decode cX4_tryAllFrom 22 = .ok (.invokestatic 323, 3) := by decide +kernel
theorem dX4_tryAllFrom_25 : decode cX4_tryAllFrom 25 = .ok (.putfield 61, 3) := by decide +kernel
theorem dX4_tryAllFrom_28 : decode cX4_tryAllFrom 28 = .ok (.aload_n 0, 1) := by decide +kernel
theorem dX4_tryAllFrom_29 : decode cX4_tryAllFrom 29 = .ok (.getfield 54, 3) := by decide +kernel
theorem dX4_tryAllFrom_32 : decode cX4_tryAllFrom 32 = .ok (.astore_n 2, 1) := by decide +kernel
theorem dX4_tryAllFrom_33 : decode cX4_tryAllFrom 33 = .ok (.iload_n 1, 1) := by decide +kernel
theorem dX4_tryAllFrom_34 : decode cX4_tryAllFrom 34 = .ok (.bipush 6, 2) := by decide +kernel
theorem dX4_tryAllFrom_36 : decode cX4_tryAllFrom 36 = .ok (.if_icmp .ge 7, 3) := by decide +kernel
theorem dX4_tryAllFrom_39 : decode cX4_tryAllFrom 39 = .ok (.aload_n 2, 1) := by decide +kernel
theorem dX4_tryAllFrom_40 : decode cX4_tryAllFrom 40 = .ok (.ifnonnull 4, 3) := by decide +kernel
theorem dX4_tryAllFrom_43 : decode cX4_tryAllFrom 43 = .ok (.return_, 1) := by decide +kernel
theorem dX4_tryAllFrom_44 : decode cX4_tryAllFrom 44 = .ok (.iconst 0, 1) := by decide +kernel
theorem dX4_tryAllFrom_45 : decode cX4_tryAllFrom 45 = .ok (.istore_n 3, 1) := by decide +kernel
theorem dX4_tryAllFrom_46 : decode cX4_tryAllFrom 46 = .ok (.iload_n 3, 1) := by decide +kernel
theorem dX4_tryAllFrom_47 : decode cX4_tryAllFrom 47 = .ok (.aload_n 0, 1) := by decide +kernel
theorem dX4_tryAllFrom_48 : decode cX4_tryAllFrom 48 = .ok (.getfield 48, 3) := by decide +kernel
theorem dX4_tryAllFrom_51 : decode cX4_tryAllFrom 51 = .ok (.if_icmp .ge 48, 3) := by decide +kernel
theorem dX4_tryAllFrom_54 : decode cX4_tryAllFrom 54 = .ok (.aload_n 0, 1) := by decide +kernel
theorem dX4_tryAllFrom_55 : decode cX4_tryAllFrom 55 = .ok (.aload_n 0, 1) := by decide +kernel
theorem dX4_tryAllFrom_56 : decode cX4_tryAllFrom 56 = .ok (.getfield 38, 3) := by decide +kernel
theorem dX4_tryAllFrom_59 : decode cX4_tryAllFrom 59 = .ok (.iload_n 3, 1) := by decide +kernel
theorem dX4_tryAllFrom_60 : decode cX4_tryAllFrom 60 = .ok (.invokevirtual 224, 3) := by decide +kernel
theorem dX4_tryAllFrom_63 : decode cX4_tryAllFrom 63 = .ok (.bipush 45, 2) := by decide +kernel
theorem dX4_tryAllFrom_65 : decode cX4_tryAllFrom 65 = .ok (.if_icmp .ne 28, 3) := by decide +kernel
theorem dX4_tryAllFrom_68 : decode cX4_tryAllFrom 68 = .ok (.aload_n 0, 1) := by decide +kernel
theorem dX4_tryAllFrom_69 : decode cX4_tryAllFrom 69 = .ok (.aload_n 0, 1) := by decide +kernel
theorem dX4_tryAllFrom_70 : decode cX4_tryAllFrom 70 = .ok (.getfield 38, 3) := by decide +kernel
theorem dX4_tryAllFrom_73 : decode cX4_tryAllFrom 73 = .ok (.iload_n 3, 1) := by decide +kernel
theorem dX4_tryAllFrom_74 : decode cX4_tryAllFrom 74 = .ok (.aload_n 2, 1) := by decide +kernel
theorem dX4_tryAllFrom_75 : decode cX4_tryAllFrom 75 = .ok (.invokevirtual 230, 3) := by decide +kernel
theorem dX4_tryAllFrom_78 : decode cX4_tryAllFrom 78 = .ok (.aload_n 0, 1) := by decide +kernel
theorem dX4_tryAllFrom_79 : decode cX4_tryAllFrom 79 = .ok (.iload_n 1, 1) := by decide +kernel
theorem dX4_tryAllFrom_80 : decode cX4_tryAllFrom 80 = .ok (.iconst 1, 1) := by decide +kernel
theorem dX4_tryAllFrom_81 : decode cX4_tryAllFrom 81 = .ok (.iadd, 1) := by decide +kernel
theorem dX4_tryAllFrom_82 : decode cX4_tryAllFrom 82 = .ok (.invokestatic 361, 3) := by decide +kernel
theorem dX4_tryAllFrom_85 : decode cX4_tryAllFrom 85 = .ok (.aload_n 0, 1) := by decide +kernel
theorem dX4_tryAllFrom_86 : decode cX4_tryAllFrom 86 = .ok (.aload_n 0, 1) := by decide +kernel
theorem dX4_tryAllFrom_87 : decode cX4_tryAllFrom 87 = .ok (.getfield 38, 3) := by decide +kernel
theorem dX4_tryAllFrom_90 : decode cX4_tryAllFrom 90 = .ok (.invokevirtual 243, 3) := by decide +kernel
theorem dX4_tryAllFrom_93 : decode cX4_tryAllFrom 93 = .ok (.iinc 3 1, 3) := by decide +kernel
theorem dX4_tryAllFrom_96 : decode cX4_tryAllFrom 96 = .ok (.goto (-50), 3) := by decide +kernel
theorem dX4_tryAllFrom_99 : decode cX4_tryAllFrom 99 = .ok (.return_, 1) := by decide +kernel
theorem dX4_noPointOverloaded_0 : decode cX4_noPointOverloaded 0 = .ok (.iconst 0, 1) := by decide +kernel
theorem dX4_noPointOverloaded_1 : decode cX4_noPointOverloaded 1 = .ok (.istore_n 2, 1) := by decide +kernel
theorem dX4_noPointOverloaded_2 : decode cX4_noPointOverloaded 2 = .ok (.iload_n 2, 1) := by decide +kernel
theorem dX4_noPointOverloaded_3 : decode cX4_noPointOverloaded 3 = .ok (.aload_n 0, 1) := by decide +kernel
theorem dX4_noPointOverloaded_4 : decode cX4_noPointOverloaded 4 = .ok (.getfield 44, 3) := by decide +kernel
theorem dX4_noPointOverloaded_7 : decode cX4_noPointOverloaded 7 = .ok (.if_icmp .ge 20, 3) := by decide +kernel
theorem dX4_noPointOverloaded_10 : decode cX4_noPointOverloaded 10 = .ok (.aload_n 0, 1) := by decide +kernel
theorem dX4_noPointOverloaded_11 : decode cX4_noPointOverloaded 11 = .ok (.iload_n 2, 1) := by decide +kernel
theorem dX4_noPointOverloaded_12 : decode cX4_noPointOverloaded 12 = .ok (.aload_n 1, 1) := by decide +kernel
theorem dX4_noPointOverloaded_13 : decode cX4_noPointOverloaded 13 = .ok (.invokevirtual 282, 3) := by decide +kernel
theorem dX4_noPointOverloaded_16 : decode cX4_noPointOverloaded 16 = .ok (.ifCond .ge 5, 3) := by decide +kernel
theorem dX4_noPointOverloaded_19 : decode cX4_noPointOverloaded 19 = .ok (.iconst 0, 1) := by decide +kernel
theorem dX4_noPointOverloaded_20 : decode cX4_noPointOverloaded 20 = .ok (.ireturn, 1) := by decide +kernel
theorem dX4_noPointOverloaded_21 : decode cX4_noPointOverloaded 21 = .ok (.iinc 2 1, 3) := by decide +kernel
theorem dX4_noPointOverloaded_24 : decode cX4_noPointOverloaded 24 = .ok (.goto (-22), 3) := by decide +kernel
theorem dX4_noPointOverloaded_27 : decode cX4_noPointOverloaded 27 = .ok (.iconst 1, 1) := by decide +kernel
theorem dX4_noPointOverloaded_28 : decode cX4_noPointOverloaded 28 = .ok (.ireturn, 1) := by decide +kernel
theorem dX4_needsHungBefore_0 : decode cX4_needsHungBefore 0 = .ok (.iconst 0, 1) := by decide +kernel
theorem dX4_needsHungBefore_1 : decode cX4_needsHungBefore 1 = .ok (.istore_n 1, 1) := by decide +kernel
theorem dX4_needsHungBefore_2 : decode cX4_needsHungBefore 2 = .ok (.iconst 0, 1) := by decide +kernel
theorem dX4_needsHungBefore_3 : decode cX4_needsHungBefore 3 = .ok (.istore_n 2, 1) := by decide +kernel
theorem dX4_needsHungBefore_4 : decode cX4_needsHungBefore 4 = .ok (.iload_n 2, 1) := by decide +kernel
theorem dX4_needsHungBefore_5 : decode cX4_needsHungBefore 5 = .ok (.aload_n 0, 1) := by decide +kernel
theorem dX4_needsHungBefore_6 : decode cX4_needsHungBefore 6 = .ok (.getfield 34, 3) := by decide +kernel
theorem dX4_needsHungBefore_9 : decode cX4_needsHungBefore 9 = .ok (.getfield 200, 3) := by decide +kernel
theorem dX4_needsHungBefore_12 : decode cX4_needsHungBefore 12 = .ok (.if_icmp .ge 43, 3) := by decide +kernel
theorem dX4_needsHungBefore_15 : decode cX4_needsHungBefore 15 = .ok (.aload_n 0, 1) := by decide +kernel
theorem dX4_needsHungBefore_16 : decode cX4_needsHungBefore 16 = .ok (.getfield 34, 3) := by decide +kernel
theorem dX4_needsHungBefore_19 : decode cX4_needsHungBefore 19 = .ok (.getfield 240, 3) := by decide +kernel
theorem dX4_needsHungBefore_22 : decode cX4_needsHungBefore 22 = .ok (.iload_n 2, 1) := by decide +kernel
theorem dX4_needsHungBefore_23 : decode cX4_needsHungBefore 23 = .ok (.iaload, 1) := by decide +kernel
theorem dX4_needsHungBefore_24 : decode cX4_needsHungBefore 24 = .ok (.istore_n 3, 1) := by decide +kernel
theorem dX4_needsHungBefore_25 : decode cX4_needsHungBefore 25 = .ok (.aload_n 0, 1) := by decide +kernel
theorem dX4_needsHungBefore_26 : decode cX4_needsHungBefore 26 = .ok (.getfield 17, 3) := by decide +kernel
theorem dX4_needsHungBefore_29 : decode cX4_needsHungBefore 29 = .ok (.iload_n 3, 1) := by decide +kernel
theorem dX4_needsHungBefore_30 : decode cX4_needsHungBefore 30 = .ok (.aaload, 1) := by decide +kernel
theorem dX4_needsHungBefore_31 : decode cX4_needsHungBefore 31 = .ok (.getfield 149, 3) := by decide +kernel
theorem dX4_needsHungBefore_34 : decode cX4_needsHungBefore 34 = .ok (.iload_n 1, 1) := by decide +kernel
theorem dX4_needsHungBefore_35 : decode cX4_needsHungBefore 35 = .ok (.iconst (-1), 1) := by decide +kernel
theorem dX4_needsHungBefore_36 : decode cX4_needsHungBefore 36 = .ok (.ixor, 1) := by decide +kernel
theorem dX4_needsHungBefore_37 : decode cX4_needsHungBefore 37 = .ok (.iand, 1) := by decide +kernel
theorem dX4_needsHungBefore_38 : decode cX4_needsHungBefore 38 = .ok (.ifCond .eq 5, 3) := by decide +kernel
theorem dX4_needsHungBefore_41 : decode cX4_needsHungBefore 41 = .ok (.iconst 0, 1) := by decide +kernel
theorem dX4_needsHungBefore_42 : decode cX4_needsHungBefore 42 = .ok (.ireturn, 1) := by decide +kernel
theorem dX4_needsHungBefore_43 : decode cX4_needsHungBefore 43 = .ok (.iload_n 1, 1) := by decide +kernel
theorem dX4_needsHungBefore_44 : decode cX4_needsHungBefore 44 = .ok (.iconst 1, 1) := by decide +kernel
theorem dX4_needsHungBefore_45 : decode cX4_needsHungBefore 45 = .ok (.iload_n 3, 1) := by decide +kernel
theorem dX4_needsHungBefore_46 : decode cX4_needsHungBefore 46 = .ok (.ishl, 1) := by decide +kernel
theorem dX4_needsHungBefore_47 : decode cX4_needsHungBefore 47 = .ok (.ior, 1) := by decide +kernel
theorem dX4_needsHungBefore_48 : decode cX4_needsHungBefore 48 = .ok (.istore_n 1, 1) := by decide +kernel
theorem dX4_needsHungBefore_49 : decode cX4_needsHungBefore 49 = .ok (.iinc 2 1, 3) := by decide +kernel
theorem dX4_needsHungBefore_52 : decode cX4_needsHungBefore 52 = .ok (.goto (-48), 3) := by decide +kernel
theorem dX4_needsHungBefore_55 : decode cX4_needsHungBefore 55 = .ok (.iconst 1, 1) := by decide +kernel
theorem dX4_needsHungBefore_56 : decode cX4_needsHungBefore 56 = .ok (.ireturn, 1) := by decide +kernel
theorem dX5_init_0 : decode cX5_init 0 = .ok (.aload_n 0, 1) := by decide +kernel
theorem dX5_init_1 : decode cX5_init 1 = .ok (.invokespecial 1, 3) := by decide +kernel
theorem dX5_init_4 : decode cX5_init 4 = .ok (.aload_n 0, 1) := by decide +kernel
theorem dX5_init_5 : decode cX5_init 5 = .ok (.bipush 8, 2) := by decide +kernel
theorem dX5_init_7 : decode cX5_init 7 = .ok (.newarray .int, 2) := by decide +kernel
theorem dX5_init_9 : decode cX5_init 9 = .ok (.putfield 7, 3) := by decide +kernel
theorem dX5_init_12 : decode cX5_init 12 = .ok (.aload_n 0, 1) := by decide +kernel
theorem dX5_init_13 : decode cX5_init 13 = .ok (.bipush 8, 2) := by decide +kernel
theorem dX5_init_15 : decode cX5_init 15 = .ok (.newarray .int, 2) := by decide +kernel
theorem dX5_init_17 : decode cX5_init 17 = .ok (.putfield 13, 3) := by decide +kernel
theorem dX5_init_20 : decode cX5_init 20 = .ok (.aload_n 0, 1) := by decide +kernel
theorem dX5_init_21 : decode cX5_init 21 = .ok (.bipush 6, 2) := by decide +kernel
theorem dX5_init_23 : decode cX5_init 23 = .ok (.newarray .int, 2) := by decide +kernel
theorem dX5_init_25 : decode cX5_init 25 = .ok (.putfield 16, 3) := by decide +kernel
theorem dX5_init_28 : decode cX5_init 28 = .ok (.aload_n 0, 1) := by decide +kernel
theorem dX5_init_29 : decode cX5_init 29 = .ok (.bipush 6, 2) := by decide +kernel
theorem dX5_init_31 : decode cX5_init 31 = .ok (.newarray .int, 2) := by decide +kernel
theorem dX5_init_33 : decode cX5_init 33 = .ok (.putfield 19, 3) := by decide +kernel
theorem dX5_init_36 : decode cX5_init 36 = .ok (.aload_n 0, 1) := by decide +kernel
theorem dX5_init_37 : decode cX5_init 37 = .ok (.bipush 6, 2) := by decide +kernel
theorem dX5_init_39 : decode cX5_init 39 = .ok (.newarray .int, 2) := by decide +kernel
theorem dX5_init_41 : decode cX5_init 41 = .ok (.putfield 22, 3) := by decide +kernel
theorem dX5_init_44 : decode cX5_init 44 = .ok (.aload_n 0, 1) := by decide +kernel
theorem dX5_init_45 : decode cX5_init 45 = .ok (.bipush 6, 2) := by decide +kernel
theorem dX5_init_47 : decode cX5_init 47 = .ok (.newarray .int, 2) := by decide +kernel
theorem dX5_init_49 : decode cX5_init 49 = .ok (.putfield 25, 3) := by decide +kernel
theorem dX5_init_52 : decode cX5_init 52 = .ok (.aload_n 0, 1) := by decide +kernel
theorem dX5_init_53 : decode cX5_init 53 = .ok (.bipush 6, 2) := by decide +kernel
theorem dX5_init_55 : decode cX5_init 55 = .ok (.newarray .boolean, 2) := by decide +kernel
theorem dX5_init_57 : decode cX5_init 57 = .ok (.putfield 28, 3) := by decide +kernel
theorem dX5_init_60 : decode cX5_init 60 = .ok (.aload_n 0, 1) := by decide +kernel
theorem dX5_init_61 : decode cX5_init 61 = .ok (.bipush 6, 2) := by decide +kernel
theorem dX5_init_63 : decode cX5_init 63 = .ok (.newarray .int, 2) := by decide +kernel
theorem dX5_init_65 : decode cX5_init 65 = .ok (.putfield 32, 3) := by decide +kernel
theorem dX5_init_68 : decode cX5_init 68 = .ok (.aload_n 0, 1) := by decide +kernel
theorem dX5_init_69 : decode cX5_init 69 = .ok (.bipush 6, 2) := by decide +kernel
theorem dX5_init_71 : decode cX5_init 71 = .ok (.newarray .int, 2) := by decide +kernel
theorem dX5_init_73 : decode cX5_init 73 = .ok (.putfield 35, 3) := by decide +kernel
theorem dX5_init_76 : decode cX5_init 76 = .ok (.aload_n 0, 1) := by decide +kernel
theorem dX5_init_77 : decode cX5_init 77 = .ok (.bipush 6, 2) := by decide +kernel
theorem dX5_init_79 : decode cX5_init 79 = .ok (.newarray .int, 2) := by decide +kernel
theorem dX5_init_81 : decode cX5_init 81 = .ok (.putfield 38, 3) := by decide +kernel
theorem dX5_init_84 : decode cX5_init 84 = .ok (.aload_n 0, 1) := by decide +kernel
theorem dX5_init_85 : decode cX5_init 85 = .ok (.bipush 6, 2) := by decide +kernel
theorem dX5_init_87 : decode cX5_init 87 = .ok (.newarray .int, 2) := by decide +kernel
theorem dX5_init_89 : decode cX5_init 89 = .ok (.putfield 41, 3) := by decide +kernel
theorem dX5_init_92 : decode cX5_init 92 = .ok (.aload_n 0, 1) := by decide +kernel
theorem dX5_init_93 : decode cX5_init 93 = .ok (.bipush 6, 2) := by decide +kernel
theorem dX5_init_95 : decode cX5_init 95 = .ok (.newarray .int, 2) := by decide +kernel
theorem dX5_init_97 : decode cX5_init 97 = .ok (.putfield 44, 3) := by decide +kernel
theorem dX5_init_100 : decode cX5_init 100 = .ok (.aload_n 0, 1) := by decide +kernel
theorem dX5_init_101 : decode cX5_init 101 = .ok (.iconst 3, 1) := by decide +kernel
theorem dX5_init_102 : decode cX5_init 102 = .ok (.newarray .int, 2) := by decide +kernel
theorem dX5_init_104 : decode cX5_init 104 = .ok (.putfield 47, 3) := by decide +kernel
theorem dX5_init_107 : decode cX5_init 107 = .ok (.aload_n 0, 1) := by decide +kernel
theorem dX5_init_108 : decode cX5_init 108 = .ok (.iconst 4, 1) := by decide +kernel
theorem dX5_init_109 : decode cX5_init 109 = .ok (.newarray .int, 2) := by decide +kernel
theorem dX5_init_111 : decode cX5_init 111 = .ok (.putfield 50, 3) := by decide +kernel
theorem dX5_init_114 : decode cX5_init 114 = .ok (.aload_n 0, 1) := by decide +kernel
theorem dX5_init_115 : decode cX5_init 115 = .ok (.iconst 4, 1) := by decide +kernel
theorem dX5_init_116 : decode cX5_init 116 = .ok (.newarray .int, 2) := by decide +kernel
theorem dX5_init_118 : decode cX5_init 118 = .ok (.putfield 53, 3) := by decide +kernel
theorem dX5_init_121 : decode cX5_init 121 = .ok (.aload_n 0, 1) := by decide +kernel
theorem dX5_init_122 : decode cX5_init 122 = .ok (.iconst 4, 1) := by decide +kernel
theorem dX5_init_123 : decode cX5_init 123 = .ok (.newarray .int, 2) := by decide +kernel
theorem dX5_init_125 : decode cX5_init 125 = .ok (.putfield 56, 3) := by decide +kernel
theorem dX5_init_128 : decode cX5_init 128 = .ok (.aload_n 0, 1) := by decide +kernel
theorem dX5_init_129 : decode cX5_init 129 = .ok (.iconst 4, 1) := by decide +kernel
theorem dX5_init_130 : decode cX5_init 130 = .ok (.newarray .int, 2) := by decide +kernel
theorem dX5_init_132 : decode cX5_init 132 = .ok (.putfield 59, 3) := by decide +kernel
theorem dX5_init_135 : decode cX5_init 135 = .ok (.aload_n 0, 1) := by decide +kernel
theorem dX5_init_136 : decode cX5_init 136 = .ok (.iconst 4, 1) := by decide +kernel
theorem dX5_init_137 : decode cX5_init 137 = .ok (.newarray .int, 2) := by decide +kernel
theorem dX5_init_139 : decode cX5_init 139 = .ok (.putfield 62, 3) := by decide +kernel
theorem dX5_init_142 : decode cX5_init 142 = .ok (.aload_n 0, 1) := by decide +kernel
theorem dX5_init_143 : decode cX5_init 143 = .ok (.iconst 4, 1) := by decide +kernel
theorem dX5_init_144 : decode cX5_init 144 = .ok (.newarray .int, 2) := by decide +kernel
theorem dX5_init_146 : decode cX5_init 146 = .ok (.putfield 65, 3) := by decide +kernel
theorem dX5_init_149 : decode cX5_init 149 = .ok (.aload_n 0, 1) := by decide +kernel
theorem dX5_init_150 : decode cX5_init 150 = .ok (.iconst 4, 1) := by decide +kernel
theorem dX5_init_151 : decode cX5_init 151 = .ok (.newarray .int, 2) := by decide +kernel
theorem dX5_init_153 : decode cX5_init 153 = .ok (.putfield 68, 3) := by decide +kernel
theorem dX5_init_156 : decode cX5_init 156 = .ok (.aload_n 0, 1) := by decide +kernel
theorem dX5_init_157 : decode cX5_init 157 = .ok (.iconst (-1), 1) := by decide +kernel
theorem dX5_init_158 : decode cX5_init 158 = .ok (.putfield 71, 3) := by decide +kernel
theorem dX5_init_161 : decode cX5_init 161 = .ok (.aload_n 0, 1) := by decide +kernel
theorem dX5_init_162 : decode cX5_init 162 = .ok (.bipush 6, 2) := by decide +kernel
theorem dX5_init_164 : decode cX5_init 164 = .ok (.newarray .int, 2) := by decide +kernel
theorem dX5_init_166 : decode cX5_init 166 = .ok (.putfield 75, 3) := by decide +kernel
theorem dX5_init_169 : decode cX5_init 169 = .ok (.aload_n 0, 1) := by decide +kernel
theorem dX5_init_170 : decode cX5_init 170 = .ok (.bipush 6, 2) := by decide +kernel
theorem dX5_init_172 : decode cX5_init 172 = .ok (.newarray .int, 2) := by decide +kernel
theorem dX5_init_174 : decode cX5_init 174 = .ok (.putfield 78, 3) := by decide +kernel
theorem dX5_init_177 : decode cX5_init 177 = .ok (.aload_n 0, 1) := by decide +kernel
theorem dX5_init_178 : decode cX5_init 178 = .ok (.bipush 6, 2) := by decide +kernel
theorem dX5_init_180 : decode cX5_init 180 = .ok (.newarray .int, 2) := by decide +kernel
theorem dX5_init_182 : decode cX5_init 182 = .ok (.putfield 81, 3) := by decide +kernel
theorem dX5_init_185 : decode cX5_init 185 = .ok (.aload_n 0, 1) := by decide +kernel
theorem dX5_init_186 : decode cX5_init 186 = .ok (.bipush 6, 2) := by decide +kernel
theorem dX5_init_188 : decode cX5_init 188 = .ok (.newarray .int, 2) := by decide +kernel
theorem dX5_init_190 : decode cX5_init 190 = .ok (.putfield 84, 3) := by decide +kernel
theorem dX5_init_193 : decode cX5_init 193 = .ok (.return_, 1) := by decide +kernel
theorem dX5_thrown_0 : decode cX5_thrown 0 = .ok (.aload_n 0, 1) := by decide +kernel
theorem dX5_thrown_1 : decode cX5_thrown 1 = .ok (.getfield 87, 3) := by decide +kernel
theorem dX5_thrown_4 : decode cX5_thrown 4 = .ok (.ireturn, 1) := by decide +kernel
theorem dX5_fails_0 : decode cX5_fails 0 = .ok (.aload_n 0, 1) := by decide +kernel
theorem dX5_fails_1 : decode cX5_fails 1 = .ok (.iload_n 1, 1) := by decide +kernel
theorem dX5_fails_2 : decode cX5_fails 2 = .ok (.putfield 87, 3) := by decide +kernel
theorem dX5_fails_5 : decode cX5_fails 5 = .ok (.iload_n 1, 1) := by decide +kernel
theorem dX5_fails_6 : decode cX5_fails 6 = .ok (.ifCond .le 7, 3) := by decide +kernel
theorem dX5_fails_9 : decode cX5_fails 9 = .ok (.iconst 1, 1) := by decide +kernel
theorem dX5_fails_10 : decode cX5_fails 10 = .ok (.goto 4, 3) := by decide +kernel
theorem dX5_fails_13 : decode cX5_fails 13 = .ok (.iconst 0, 1) := by decide +kernel
theorem dX5_fails_14 : decode cX5_fails 14 = .ok (.ireturn, 1) := by decide +kernel
theorem dX5_tells_0 : decode cX5_tells 0 = .ok (.aload_n 0, 1) := by decide +kernel
theorem dX5_tells_1 : decode cX5_tells 1 = .ok (.iconst 0, 1) := by decide +kernel
theorem dX5_tells_2 : decode cX5_tells 2 = .ok (.putfield 87, 3) := by decide +kernel
theorem dX5_tells_5 : decode cX5_tells 5 = .ok (.iload_n 1, 1) := by decide +kernel
theorem dX5_tells_6 : decode cX5_tells 6 = .ok (.ireturn, 1) := by decide +kernel
theorem dX5_in_0 : decode cX5_in 0 = .ok (.iload_n 0, 1) := by decide +kernel
theorem dX5_in_1 : decode cX5_in 1 = .ok (.iload_n 1, 1) := by decide +kernel
theorem dX5_in_2 : decode cX5_in 2 = .ok (.if_icmp .lt 12, 3) := by decide +kernel
theorem dX5_in_5 : decode cX5_in 5 = .ok (.iload_n 0, 1) := by decide +kernel
theorem dX5_in_6 : decode cX5_in 6 = .ok (.iload_n 2, 1) := by decide +kernel
theorem dX5_in_7 : decode cX5_in 7 = .ok (.if_icmp .gt 7, 3) := by decide +kernel
theorem dX5_in_10 : decode cX5_in 10 = .ok (.iconst 1, 1) := by decide +kernel
theorem dX5_in_11 : decode cX5_in 11 = .ok (.goto 4, 3) := by decide +kernel
theorem dX5_in_14 : decode cX5_in 14 = .ok (.iconst 0, 1) := by decide +kernel
theorem dX5_in_15 : decode cX5_in 15 = .ok (.ireturn, 1) := by decide +kernel
theorem dX5_isNoPoint_0 : decode cX5_isNoPoint 0 = .ok (.iload_n 1, 1) := by decide +kernel
theorem dX5_isNoPoint_1 : decode cX5_isNoPoint 1 = .ok (.iconst 0, 1) := by decide +kernel
theorem dX5_isNoPoint_2 : decode cX5_isNoPoint 2 = .ok (.aload_n 0, 1) := by decide +kernel
theorem dX5_isNoPoint_3 : decode cX5_isNoPoint 3 = .ok (.getfield 90, 3) := by decide +kernel
theorem dX5_isNoPoint_6 : decode cX5_isNoPoint 6 = .ok (.iconst 1, 1) := by decide +kernel
theorem dX5_isNoPoint_7 : decode cX5_isNoPoint 7 = .ok (.isub, 1) := by decide +kernel
theorem dX5_isNoPoint_8 : decode cX5_isNoPoint 8 = .ok (.invokestatic 93, 3) := by decide +kernel
theorem dX5_isNoPoint_11 : decode cX5_isNoPoint 11 = .ok (.ifCond .ne 7, 3) := by decide +kernel
theorem dX5_isNoPoint_14 : decode cX5_isNoPoint 14 = .ok (.iconst 1, 1) := by decide +kernel
theorem dX5_isNoPoint_15 : decode cX5_isNoPoint 15 = .ok (.goto 4, 3) := by decide +kernel
theorem dX5_isNoPoint_18 : decode cX5_isNoPoint 18 = .ok (.iconst 0, 1) := by decide +kernel
theorem dX5_isNoPoint_19 : decode cX5_isNoPoint 19 = .ok (.ireturn, 1) := by decide +kernel
theorem dX5_isNoPiece_0 : decode cX5_isNoPiece 0 = .ok (.iload_n 1, 1) := by decide +kernel
theorem dX5_isNoPiece_1 : decode cX5_isNoPiece 1 = .ok (.iconst 0, 1) := by decide +kernel
theorem dX5_isNoPiece_2 : decode cX5_isNoPiece 2 = .ok (.aload_n 0, 1) := by decide +kernel
theorem dX5_isNoPiece_3 : decode cX5_isNoPiece 3 = .ok (.getfield 97, 3) := by decide +kernel
theorem dX5_isNoPiece_6 : decode cX5_isNoPiece 6 = .ok (.iconst 1, 1) := by decide +kernel
theorem dX5_isNoPiece_7 : decode cX5_isNoPiece 7 = .ok (.isub, 1) := by decide +kernel
theorem dX5_isNoPiece_8 : decode cX5_isNoPiece 8 = .ok (.invokestatic 93, 3) := by decide +kernel
theorem dX5_isNoPiece_11 : decode cX5_isNoPiece 11 = .ok (.ifCond .ne 7, 3) := by decide +kernel
theorem dX5_isNoPiece_14 : decode cX5_isNoPiece 14 = .ok (.iconst 1, 1) := by decide +kernel
theorem dX5_isNoPiece_15 : decode cX5_isNoPiece 15 = .ok (.goto 4, 3) := by decide +kernel
theorem dX5_isNoPiece_18 : decode cX5_isNoPiece 18 = .ok (.iconst 0, 1) := by decide +kernel
theorem dX5_isNoPiece_19 : decode cX5_isNoPiece 19 = .ok (.ireturn, 1) := by decide +kernel
theorem dX5_inRig_0 : decode cX5_inRig 0 = .ok (.iconst 0, 1) := by decide +kernel
theorem dX5_inRig_1 : decode cX5_inRig 1 = .ok (.istore_n 2, 1) := by decide +kernel
theorem dX5_inRig_2 : decode cX5_inRig 2 = .ok (.iload_n 2, 1) := by decide +kernel
theorem dX5_inRig_3 : decode cX5_inRig 3 = .ok (.aload_n 0, 1) := by decide +kernel
theorem dX5_inRig_4 : decode cX5_inRig 4 = .ok (.getfield 100, 3) := by decide +kernel
theorem dX5_inRig_7 : decode cX5_inRig 7 = .ok (.if_icmp .ge 21, 3) := by decide +kernel
theorem dX5_inRig_10 : decode cX5_inRig 10 = .ok (.aload_n 0, 1) := by decide +kernel
theorem dX5_inRig_11 : decode cX5_inRig 11 = .ok (.getfield 75, 3) := by decide +kernel
theorem dX5_inRig_14 : decode cX5_inRig 14 = .ok (.iload_n 2, 1) := by decide +kernel
theorem dX5_inRig_15 : decode cX5_inRig 15 = .ok (.iaload, 1) := by decide +kernel
theorem dX5_inRig_16 : decode cX5_inRig 16 = .ok (.iload_n 1, 1) := by decide +kernel
theorem dX5_inRig_17 : decode cX5_inRig 17 = .ok (.if_icmp .ne 5, 3) := by decide +kernel
theorem dX5_inRig_20 : decode cX5_inRig 20 = .ok (.iload_n 2, 1) := by decide +kernel
theorem dX5_inRig_21 : decode cX5_inRig 21 = .ok (.ireturn, 1) := by decide +kernel
theorem dX5_inRig_22 : decode cX5_inRig 22 = .ok (.iinc 2 1, 3) := by decide +kernel
theorem dX5_inRig_25 : decode cX5_inRig 25 = .ok (.goto (-23), 3) := by decide +kernel
theorem dX5_inRig_28 : decode cX5_inRig 28 = .ok (.iconst (-1), 1) := by decide +kernel
theorem dX5_inRig_29 : decode cX5_inRig 29 = .ok (.ireturn, 1) := by decide +kernel
theorem dX5_addPoint_0 : decode cX5_addPoint 0 = .ok (.aload_n 0, 1) := by decide +kernel
theorem dX5_addPoint_1 : decode cX5_addPoint 1 = .ok (.iload_n 1, 1) := by decide +kernel
theorem dX5_addPoint_2 : decode cX5_addPoint 2 = .ok (.iconst 0, 1) := by decide +kernel
theorem dX5_addPoint_3 : decode cX5_addPoint 3 = .ok (.bipush 60, 2) := by decide +kernel
theorem dX5_addPoint_5 : decode cX5_addPoint 5 = .ok (.invokestatic 93, 3) := by decide +kernel
theorem dX5_addPoint_8 : decode cX5_addPoint 8 = .ok (.ifCond .eq 15, 3) := by decide +kernel
theorem dX5_addPoint_11 : decode cX5_addPoint 11 = .ok (.iload_n 2, 1) := by decide +kernel
theorem dX5_addPoint_12 : decode cX5_addPoint 12 = .ok (.bipush 100, 2) := by decide +kernel
theorem dX5_addPoint_14 : decode cX5_addPoint 14 = .ok (.sipush 5000, 3) := by decide +kernel
theorem dX5_addPoint_17 : decode cX5_addPoint 17 = .ok (.invokestatic 93, 3) := by decide +kernel
theorem dX5_addPoint_20 : decode cX5_addPoint 20 = .ok (.ifCond .ne 7, 3) := by decide +kernel
theorem dX5_addPoint_23 : decode cX5_addPoint 23 = .ok (.iconst 1, 1) := by decide +kernel
theorem dX5_addPoint_24 : decode cX5_addPoint 24 = .ok (.goto 17, 3) := by decide +kernel
theorem dX5_addPoint_27 : decode cX5_addPoint 27 = .ok (.aload_n 0, 1) := by decide +kernel
theorem dX5_addPoint_28 : decode cX5_addPoint 28 = .ok (.getfield 90, 3) := by decide +kernel
theorem dX5_addPoint_31 : decode cX5_addPoint 31 = .ok (.bipush 8, 2) := by decide +kernel
theorem dX5_addPoint_33 : decode cX5_addPoint 33 = .ok (.if_icmp .ne 7, 3) := by decide +kernel
theorem dX5_addPoint_36 : decode cX5_addPoint 36 = .ok (.iconst 2, 1) := by decide +kernel
theorem dX5_addPoint_37 : decode cX5_addPoint 37 = .ok (.goto 4, 3) := by decide +kernel
theorem dX5_addPoint_40 : decode cX5_addPoint 40 = .ok (.iconst 0, 1) := by decide +kernel
theorem dX5_addPoint_41 : decode cX5_addPoint 41 = .ok (.invokevirtual 103, 3) := by decide +kernel
theorem dX5_addPoint_44 : decode cX5_addPoint 44 = .ok (.ifCond .eq 5, 3) := by decide +kernel
theorem dX5_addPoint_47 : decode cX5_addPoint 47 = .ok (.iconst 0, 1) := by decide +kernel
theorem dX5_addPoint_48 : decode cX5_addPoint 48 = .ok (.ireturn, 1) := by decide +kernel
theorem dX5_addPoint_49 : decode cX5_addPoint 49 = .ok (.aload_n 0, 1) := by decide +kernel
theorem dX5_addPoint_50 : decode cX5_addPoint 50 = .ok (.getfield 7, 3) := by decide +kernel
theorem dX5_addPoint_53 : decode cX5_addPoint 53 = .ok (.aload_n 0, 1) := by decide +kernel
theorem dX5_addPoint_54 : decode cX5_addPoint 54 = .ok (.getfield 90, 3) := by decide +kernel
theorem dX5_addPoint_57 : decode cX5_addPoint 57 = .ok (.iload_n 1, 1) := by decide +kernel
theorem dX5_addPoint_58 : decode cX5_addPoint 58 = .ok (.iastore, 1) := by decide +kernel
theorem dX5_addPoint_59 : decode cX5_addPoint 59 = .ok (.aload_n 0, 1) := by decide +kernel
theorem dX5_addPoint_60 : decode cX5_addPoint 60 = .ok (.getfield 13, 3) := by decide +kernel
theorem dX5_addPoint_63 : decode cX5_addPoint 63 = .ok (.aload_n 0, 1) := by decide +kernel
theorem dX5_addPoint_64 : decode cX5_addPoint 64 = .ok (.getfield 90, 3) := by decide +kernel
theorem dX5_addPoint_67 : decode cX5_addPoint 67 = .ok (.iload_n 2, 1) := by decide +kernel
theorem dX5_addPoint_68 : decode cX5_addPoint 68 = .ok (.iastore, 1) := by decide +kernel
theorem dX5_addPoint_69 : decode cX5_addPoint 69 = .ok (.aload_n 0, 1) := by decide +kernel
theorem dX5_addPoint_70 : decode cX5_addPoint 70 = .ok (.dup, 1) := by decide +kernel
theorem dX5_addPoint_71 : decode cX5_addPoint 71 = .ok (.getfield 90, 3) := by decide +kernel
theorem dX5_addPoint_74 : decode cX5_addPoint 74 = .ok (.iconst 1, 1) := by decide +kernel
theorem dX5_addPoint_75 : decode cX5_addPoint 75 = .ok (.iadd, 1) := by decide +kernel
theorem dX5_addPoint_76 : decode cX5_addPoint 76 = .ok (.putfield 90, 3) := by decide +kernel
theorem dX5_addPoint_79 : decode cX5_addPoint 79 = .ok (.aload_n 0, 1) := by decide +kernel
theorem dX5_addPoint_80 : decode cX5_addPoint 80 = .ok (.getfield 90, 3) := by decide +kernel
theorem dX5_addPoint_83 : decode cX5_addPoint 83 = .ok (.iconst 1, 1) := by decide +kernel
theorem dX5_addPoint_84 : decode cX5_addPoint 84 = .ok (.isub, 1) := by decide +kernel
theorem dX5_addPoint_85 : decode cX5_addPoint 85 = .ok (.ireturn, 1) := by decide +kernel
theorem dX5_addPiece_0 : decode cX5_addPiece 0 = .ok (.iload_n 1, 1) := by decide +kernel
theorem dX5_addPiece_1 : decode cX5_addPiece 1 = .ok (.bipush 10, 2) := by decide +kernel
theorem dX5_addPiece_3 : decode cX5_addPiece 3 = .ok (.sipush 2000, 3) := by decide +kernel
theorem dX5_addPiece_6 : decode cX5_addPiece 6 = .ok (.invokestatic 93, 3) := by decide +kernel
theorem dX5_addPiece_9 : decode cX5_addPiece 9 = .ok (.ifCond .eq 38, 3) := by decide +kernel
theorem dX5_addPiece_12 : decode cX5_addPiece 12 = .ok (.iload_n 2, 1) := by decide +kernel
theorem dX5_addPiece_13 : decode cX5_addPiece 13 = .ok (.iconst 5, 1) := by decide +kernel
theorem dX5_addPiece_14 : decode cX5_addPiece 14 = .ok (.sipush 240, 3) := by decide +kernel
theorem dX5_addPiece_17 : decode cX5_addPiece 17 = .ok (.invokestatic 93, 3) := by decide +kernel
theorem dX5_addPiece_20 : decode cX5_addPiece 20 = .ok (.ifCond .eq 27, 3) := by decide +kernel
theorem dX5_addPiece_23 : decode cX5_addPiece 23 = .ok (.iload_n 3, 1) := by decide +kernel
theorem dX5_addPiece_24 : decode cX5_addPiece 24 = .ok (.iconst 1, 1) := by decide +kernel
theorem dX5_addPiece_25 : decode cX5_addPiece 25 = .ok (.bipush 99, 2) := by decide +kernel
theorem dX5_addPiece_27 : decode cX5_addPiece 27 = .ok (.invokestatic 93, 3) := by decide +kernel
theorem dX5_addPiece_30 : decode cX5_addPiece 30 = .ok (.ifCond .eq 17, 3) := by decide +kernel
theorem dX5_addPiece_33 : decode cX5_addPiece 33 = .ok (.iload 4, 2) := by decide +kernel
theorem dX5_addPiece_35 : decode cX5_addPiece 35 = .ok (.iconst 0, 1) := by decide +kernel
theorem dX5_addPiece_36 : decode cX5_addPiece 36 = .ok (.iconst 2, 1) := by decide +kernel
theorem dX5_addPiece_37 : decode cX5_addPiece 37 = .ok (.invokestatic 93, 3) := by decide +kernel
theorem dX5_addPiece_40 : decode cX5_addPiece 40 = .ok (.ifCond .eq 7, 3) := by decide +kernel
theorem dX5_addPiece_43 : decode cX5_addPiece 43 = .ok (.iconst 1, 1) := by decide +kernel
theorem dX5_addPiece_44 : decode cX5_addPiece 44 = .ok (.goto 4, 3) := by decide +kernel
theorem dX5_addPiece_47 : decode cX5_addPiece 47 = .ok (.iconst 0, 1) := by decide +kernel
theorem dX5_addPiece_48 : decode cX5_addPiece 48 = .ok (.istore 5, 2) := by decide +kernel
theorem dX5_addPiece_50 : decode cX5_addPiece 50 = .ok (.aload_n 0, 1) := by decide +kernel
theorem dX5_addPiece_51 : decode cX5_addPiece 51 = .ok (.iload 5, 2) := by decide +kernel
theorem dX5_addPiece_53 : decode cX5_addPiece 53 = .ok (.ifCond .ne 7, 3) := by decide +kernel
theorem dX5_addPiece_56 : decode cX5_addPiece 56 = .ok (.iconst 1, 1) := by decide +kernel
theorem dX5_addPiece_57 : decode cX5_addPiece 57 = .ok (.goto 17, 3) := by decide +kernel
theorem dX5_addPiece_60 : decode cX5_addPiece 60 = .ok (.aload_n 0, 1) := by decide +kernel
theorem dX5_addPiece_61 : decode cX5_addPiece 61 = .ok (.getfield 97, 3) := by decide +kernel
theorem dX5_addPiece_64 : decode cX5_addPiece 64 = .ok (.bipush 6, 2) := by decide +kernel
theorem dX5_addPiece_66 : decode cX5_addPiece 66 = .ok (.if_icmp .ne 7, 3) := by decide +kernel
theorem dX5_addPiece_69 : decode cX5_addPiece 69 = .ok (.iconst 2, 1) := by decide +kernel
theorem dX5_addPiece_70 : decode cX5_addPiece 70 = .ok (.goto 4, 3) := by decide +kernel
theorem dX5_addPiece_73 : decode cX5_addPiece 73 = .ok (.iconst 0, 1) := by decide +kernel
theorem dX5_addPiece_74 : decode cX5_addPiece 74 = .ok (.invokevirtual 103, 3) := by decide +kernel
theorem dX5_addPiece_77 : decode cX5_addPiece 77 = .ok (.ifCond .eq 5, 3) := by decide +kernel
theorem dX5_addPiece_80 : decode cX5_addPiece 80 = .ok (.iconst 0, 1) := by decide +kernel
theorem dX5_addPiece_81 : decode cX5_addPiece 81 = .ok (.ireturn, 1) := by decide +kernel
theorem dX5_addPiece_82 : decode cX5_addPiece 82 = .ok (.aload_n 0, 1) := by decide +kernel
theorem dX5_addPiece_83 : decode cX5_addPiece 83 = .ok (.getfield 16, 3) := by decide +kernel
theorem dX5_addPiece_86 : decode cX5_addPiece 86 = .ok (.aload_n 0, 1) := by decide +kernel
theorem dX5_addPiece_87 : decode cX5_addPiece 87 = .ok (.getfield 97, 3) := by decide +kernel
theorem dX5_addPiece_90 : decode cX5_addPiece 90 = .ok (.iload_n 1, 1) := by decide +kernel
theorem dX5_addPiece_91 : decode cX5_addPiece 91 = .ok (.iastore, 1) := by decide +kernel
theorem dX5_addPiece_92 : decode cX5_addPiece 92 = .ok (.aload_n 0, 1) := by decide +kernel
theorem dX5_addPiece_93 : decode cX5_addPiece 93 = .ok (.getfield 19, 3) := by decide +kernel
theorem dX5_addPiece_96 : decode cX5_addPiece 96 = .ok (.aload_n 0, 1) := by decide +kernel
theorem dX5_addPiece_97 : decode cX5_addPiece 97 = .ok (.getfield 97, 3) := by decide +kernel
theorem dX5_addPiece_100 : decode cX5_addPiece 100 = .ok (.iload_n 2, 1) := by decide +kernel
theorem dX5_addPiece_101 : decode cX5_addPiece 101 = .ok (.iastore, 1) := by decide +kernel
theorem dX5_addPiece_102 : decode cX5_addPiece 102 = .ok (.aload_n 0, 1) := by decide +kernel
theorem dX5_addPiece_103 : decode cX5_addPiece 103 = .ok (.getfield 22, 3) := by decide +kernel
theorem dX5_addPiece_106 : decode cX5_addPiece 106 = .ok (.aload_n 0, 1) := by decide +kernel
theorem dX5_addPiece_107 : decode cX5_addPiece 107 = .ok (.getfield 97, 3) := by decide +kernel
theorem dX5_addPiece_110 : decode cX5_addPiece 110 = .ok (.iload_n 3, 1) := by decide +kernel
theorem dX5_addPiece_111 : decode cX5_addPiece 111 = .ok (.iastore, 1) := by decide +kernel
theorem dX5_addPiece_112 : decode cX5_addPiece 112 = .ok (.aload_n 0, 1) := by decide +kernel
theorem dX5_addPiece_113 : decode cX5_addPiece 113 = .ok (.getfield 25, 3) := by decide +kernel
theorem dX5_addPiece_116 : decode cX5_addPiece 116 = .ok (.aload_n 0, 1) := by decide +kernel
theorem dX5_addPiece_117 : decode cX5_addPiece 117 = .ok (.getfield 97, 3) := by decide +kernel
theorem dX5_addPiece_120 : decode cX5_addPiece 120 = .ok (.iload 4, 2) := by decide +kernel
theorem dX5_addPiece_122 : decode cX5_addPiece 122 = .ok (.iastore, 1) := by decide +kernel
theorem dX5_addPiece_123 : decode cX5_addPiece 123 = .ok (.aload_n 0, 1) := by decide +kernel
theorem dX5_addPiece_124 : decode cX5_addPiece 124 = .ok (.dup, 1) := by decide +kernel
theorem dX5_addPiece_125 : decode cX5_addPiece 125 = .ok (.getfield 97, 3) := by decide +kernel
theorem dX5_addPiece_128 : decode cX5_addPiece 128 = .ok (.iconst 1, 1) := by decide +kernel
theorem dX5_addPiece_129 : decode cX5_addPiece 129 = .ok (.iadd, 1) := by decide +kernel
theorem dX5_addPiece_130 : decode cX5_addPiece 130 = .ok (.putfield 97, 3) := by decide +kernel
theorem dX5_addPiece_133 : decode cX5_addPiece 133 = .ok (.aload_n 0, 1) := by decide +kernel
theorem dX5_addPiece_134 : decode cX5_addPiece 134 = .ok (.getfield 97, 3) := by decide +kernel
theorem dX5_addPiece_137 : decode cX5_addPiece 137 = .ok (.iconst 1, 1) := by decide +kernel
theorem dX5_addPiece_138 : decode cX5_addPiece 138 = .ok (.isub, 1) := by decide +kernel
theorem dX5_addPiece_139 : decode cX5_addPiece 139 = .ok (.ireturn, 1) := by decide +kernel
theorem dX5_partOfRight_0 : decode cX5_partOfRight 0 = .ok (.aload_n 0, 1) := by decide +kernel
theorem dX5_partOfRight_1 : decode cX5_partOfRight 1 = .ok (.getfield 16, 3) := by decide +kernel
theorem dX5_partOfRight_4 : decode cX5_partOfRight 4 = .ok (.iload_n 1, 1) := by decide +kernel
theorem dX5_partOfRight_5 : decode cX5_partOfRight 5 = .ok (.iaload, 1) := by decide +kernel
theorem dX5_partOfRight_6 : decode cX5_partOfRight 6 = .ok (.aload_n 0, 1) := by decide +kernel
theorem dX5_partOfRight_7 : decode cX5_partOfRight 7 = .ok (.getfield 38, 3) := by decide +kernel
theorem dX5_partOfRight_10 : decode cX5_partOfRight 10 = .ok (.iload_n 1, 1) := by decide +kernel
theorem dX5_partOfRight_11 : decode cX5_partOfRight 11 = .ok (.iaload, 1) := by decide +kernel
theorem dX5_partOfRight_12 : decode cX5_partOfRight 12 = .ok (.aload_n 0, 1) := by decide +kernel
theorem dX5_partOfRight_13 : decode cX5_partOfRight 13 = .ok (.getfield 7, 3) := by decide +kernel
theorem dX5_partOfRight_16 : decode cX5_partOfRight 16 = .ok (.aload_n 0, 1) := by decide +kernel
theorem dX5_partOfRight_17 : decode cX5_partOfRight 17 = .ok (.getfield 32, 3) := by decide +kernel
theorem dX5_partOfRight_20 : decode cX5_partOfRight 20 = .ok (.iload_n 1, 1) := by decide +kernel
theorem dX5_partOfRight_21 : decode cX5_partOfRight 21 = .ok (.iaload, 1) := by decide +kernel
theorem dX5_partOfRight_22 : decode cX5_partOfRight 22 = .ok (.iaload, 1) := by decide +kernel
theorem dX5_partOfRight_23 : decode cX5_partOfRight 23 = .ok (.isub, 1) := by decide +kernel
theorem dX5_partOfRight_24 : decode cX5_partOfRight 24 = .ok (.imul, 1) := by decide +kernel
theorem dX5_partOfRight_25 : decode cX5_partOfRight 25 = .ok (.aload_n 0, 1) := by decide +kernel
theorem dX5_partOfRight_26 : decode cX5_partOfRight 26 = .ok (.getfield 7, 3) := by decide +kernel
theorem dX5_partOfRight_29 : decode cX5_partOfRight 29 = .ok (.aload_n 0, 1) := by decide +kernel
theorem dX5_partOfRight_30 : decode cX5_partOfRight 30 = .ok (.getfield 35, 3) := by decide +kernel
theorem dX5_partOfRight_33 : decode cX5_partOfRight 33 = .ok (.iload_n 1, 1) := by decide +kernel
theorem dX5_partOfRight_34 : decode cX5_partOfRight 34 = .ok (.iaload, 1) := by decide +kernel
theorem dX5_partOfRight_35 : decode cX5_partOfRight 35 = .ok (.iaload, 1) := by decide +kernel
theorem dX5_partOfRight_36 : decode cX5_partOfRight 36 = .ok (.aload_n 0, 1) := by decide +kernel
theorem dX5_partOfRight_37 : decode cX5_partOfRight 37 = .ok (.getfield 7, 3) := by decide +kernel
theorem dX5_partOfRight_40 : decode cX5_partOfRight 40 = .ok (.aload_n 0, 1) := by decide +kernel
theorem dX5_partOfRight_41 : decode cX5_partOfRight 41 = .ok (.getfield 32, 3) := by decide +kernel
theorem dX5_partOfRight_44 : decode cX5_partOfRight 44 = .ok (.iload_n 1, 1) := by decide +kernel
theorem dX5_partOfRight_45 : decode cX5_partOfRight 45 = .ok (.iaload, 1) := by decide +kernel
theorem dX5_partOfRight_46 : decode cX5_partOfRight 46 = .ok (.iaload, 1) := by decide +kernel
theorem dX5_partOfRight_47 : decode cX5_partOfRight 47 = .ok (.isub, 1) := by decide +kernel
theorem dX5_partOfRight_48 : decode cX5_partOfRight 48 = .ok (.idiv, 1) := by decide +kernel
theorem dX5_partOfRight_49 : decode cX5_partOfRight 49 = .ok (.ireturn, 1) := by decide +kernel
theorem dX5_isFixing_0 : decode cX5_isFixing 0 = .ok (.aload_n 0, 1) := by decide +kernel
theorem dX5_isFixing_1 : decode cX5_isFixing 1 = .ok (.getfield 7, 3) := by decide +kernel
theorem dX5_isFixing_4 : decode cX5_isFixing 4 = .ok (.iload_n 2, 1) := by decide +kernel
theorem dX5_isFixing_5 : decode cX5_isFixing 5 = .ok (.iaload, 1) := by decide +kernel
theorem dX5_isFixing_6 : decode cX5_isFixing 6 = .ok (.aload_n 0, 1) := by decide +kernel
theorem dX5_isFixing_7 : decode cX5_isFixing 7 = .ok (.getfield 7, 3) := by decide +kernel
theorem dX5_isFixing_10 : decode cX5_isFixing 10 = .ok (.iload_n 1, 1) := by decide +kernel
theorem dX5_isFixing_11 : decode cX5_isFixing 11 = .ok (.iaload, 1) := by decide +kernel
theorem dX5_isFixing_12 : decode cX5_isFixing 12 = .ok (.if_icmp .le 37, 3) := by decide +kernel
theorem dX5_isFixing_15 : decode cX5_isFixing 15 = .ok (.iload_n 3, 1) := by decide +kernel
theorem dX5_isFixing_16 : decode cX5_isFixing 16 = .ok (.aload_n 0, 1) := by decide +kernel
theorem dX5_isFixing_17 : decode cX5_isFixing 17 = .ok (.getfield 7, 3) := by decide +kernel
theorem dX5_isFixing_20 : decode cX5_isFixing 20 = .ok (.iload_n 1, 1) := by decide +kernel
theorem dX5_isFixing_21 : decode cX5_isFixing 21 = .ok (.iaload, 1) := by decide +kernel
theorem dX5_isFixing_22 : decode cX5_isFixing 22 = .ok (.aload_n 0, 1) := by decide +kernel
theorem dX5_isFixing_23 : decode cX5_isFixing 23 = .ok (.getfield 7, 3) := by decide +kernel
theorem dX5_isFixing_26 : decode cX5_isFixing 26 = .ok (.iload_n 2, 1) := by decide +kernel
theorem dX5_isFixing_27 : decode cX5_isFixing 27 = .ok (.iaload, 1) := by decide +kernel
theorem dX5_isFixing_28 : decode cX5_isFixing 28 = .ok (.invokestatic 93, 3) := by decide +kernel
theorem dX5_isFixing_31 : decode cX5_isFixing 31 = .ok (.ifCond .eq 18, 3) := by decide +kernel
theorem dX5_isFixing_34 : decode cX5_isFixing 34 = .ok (.iload 4, 2) := by decide +kernel
theorem dX5_isFixing_36 : decode cX5_isFixing 36 = .ok (.iconst 0, 1) := by decide +kernel
theorem dX5_isFixing_37 : decode cX5_isFixing 37 = .ok (.bipush 60, 2) := by decide +kernel
theorem dX5_isFixing_39 : decode cX5_isFixing 39 = .ok (.invokestatic 93, 3) := by decide +kernel
theorem dX5_isFixing_42 : decode cX5_isFixing 42 = .ok (.ifCond .eq 7, 3) := by decide +kernel
theorem dX5_isFixing_45 : decode cX5_isFixing 45 = .ok (.iconst 1, 1) := by decide +kernel
theorem dX5_isFixing_46 : decode cX5_isFixing 46 = .ok (.goto 4, 3) := by decide +kernel
theorem dX5_isFixing_49 : decode cX5_isFixing 49 = .ok (.iconst 0, 1) := by decide +kernel
theorem dX5_isFixing_50 : decode cX5_isFixing 50 = .ok (.ireturn, 1) := by decide +kernel
theorem dX5_fix_0 : decode cX5_fix 0 = .ok (.aload_n 0, 1) := by decide +kernel
theorem dX5_fix_1 : decode cX5_fix 1 = .ok (.aload_n 0, 1) := by decide +kernel
theorem dX5_fix_2 : decode cX5_fix 2 = .ok (.iload_n 1, 1) := by decide +kernel
theorem dX5_fix_3 : decode cX5_fix 3 = .ok (.invokevirtual 107, 3) := by decide +kernel
theorem dX5_fix_6 : decode cX5_fix 6 = .ok (.ifCond .eq 7, 3) := by decide +kernel
theorem dX5_fix_9 : decode cX5_fix 9 = .ok (.iconst 1, 1) := by decide +kernel
theorem dX5_fix_10 : decode cX5_fix 10 = .ok (.goto 53, 3) := by decide +kernel
theorem dX5_fix_13 : decode cX5_fix 13 = .ok (.aload_n 0, 1) := by decide +kernel
theorem dX5_fix_14 : decode cX5_fix 14 = .ok (.iload_n 2, 1) := by decide +kernel
theorem dX5_fix_15 : decode cX5_fix 15 = .ok (.invokevirtual 110, 3) := by decide +kernel
theorem dX5_fix_18 : decode cX5_fix 18 = .ok (.ifCond .ne 11, 3) := by decide +kernel
theorem dX5_fix_21 : decode cX5_fix 21 = .ok (.aload_n 0, 1) := by decide +kernel
theorem dX5_fix_22 : decode cX5_fix 22 = .ok (.iload_n 3, 1) := by decide +kernel
theorem dX5_fix_23 : decode cX5_fix 23 = .ok (.invokevirtual 110, 3) := by decide +kernel
theorem dX5_fix_26 : decode cX5_fix 26 = .ok (.ifCond .eq 7, 3) := by decide +kernel
theorem dX5_fix_29 : decode cX5_fix 29 = .ok (.iconst 2, 1) := by decide +kernel
theorem dX5_fix_30 : decode cX5_fix 30 = .ok (.goto 33, 3) := by decide +kernel
theorem dX5_fix_33 : decode cX5_fix 33 = .ok (.aload_n 0, 1) := by decide +kernel
theorem dX5_fix_34 : decode cX5_fix 34 = .ok (.iload_n 2, 1) := by decide +kernel
theorem dX5_fix_35 : decode cX5_fix 35 = .ok (.iload_n 3, 1) := by decide +kernel
theorem dX5_fix_36 : decode cX5_fix 36 = .ok (.iload 4, 2) := by decide +kernel
theorem dX5_fix_38 : decode cX5_fix 38 = .ok (.iload 5, 2) := by decide +kernel
theorem dX5_fix_40 : decode cX5_fix 40 = .ok (.invokevirtual 113, 3) := by decide +kernel
theorem dX5_fix_43 : decode cX5_fix 43 = .ok (.ifCond .ne 7, 3) := by decide +kernel
theorem dX5_fix_46 : decode cX5_fix 46 = .ok (.iconst 3, 1) := by decide +kernel
theorem dX5_fix_47 : decode cX5_fix 47 = .ok (.goto 16, 3) := by decide +kernel
theorem dX5_fix_50 : decode cX5_fix 50 = .ok (.aload_n 0, 1) := by decide +kernel
theorem dX5_fix_51 : decode cX5_fix 51 = .ok (.iload_n 1, 1) := by decide +kernel
theorem dX5_fix_52 : decode cX5_fix 52 = .ok (.invokevirtual 117, 3) := by decide +kernel
theorem dX5_fix_55 : decode cX5_fix 55 = .ok (.ifCond .lt 7, 3) := by decide +kernel
theorem dX5_fix_58 : decode cX5_fix 58 = .ok (.iconst 4, 1) := by decide +kernel
theorem dX5_fix_59 : decode cX5_fix 59 = .ok (.goto 4, 3) := by decide +kernel
theorem dX5_fix_62 : decode cX5_fix 62 = .ok (.iconst 0, 1) := by decide +kernel
theorem dX5_fix_63 : decode cX5_fix 63 = .ok (.invokevirtual 103, 3) := by decide +kernel
theorem dX5_fix_66 : decode cX5_fix 66 = .ok (.ifCond .eq 5, 3) := by decide +kernel
theorem dX5_fix_69 : decode cX5_fix 69 = .ok (.iconst 0, 1) := by decide +kernel
theorem dX5_fix_70 : decode cX5_fix 70 = .ok (.ireturn, 1) := by decide +kernel
theorem dX5_fix_71 : decode cX5_fix 71 = .ok (.aload_n 0, 1) := by decide +kernel
theorem dX5_fix_72 : decode cX5_fix 72 = .ok (.getfield 28, 3) := by decide +kernel
theorem dX5_fix_75 : decode cX5_fix 75 = .ok (.iload_n 1, 1) := by decide +kernel
theorem dX5_fix_76 : decode cX5_fix 76 = .ok (.iconst 1, 1) := by decide +kernel
theorem dX5_fix_77 : decode cX5_fix 77 = .ok (.bastore, 1) := by decide +kernel
theorem dX5_fix_78 : decode cX5_fix 78 = .ok (.aload_n 0, 1) := by decide +kernel
theorem dX5_fix_79 : decode cX5_fix 79 = .ok (.getfield 32, 3) := by decide +kernel
theorem dX5_fix_82 : decode cX5_fix 82 = .ok (.iload_n 1, 1) := by decide +kernel
theorem dX5_fix_83 : decode cX5_fix 83 = .ok (.iload_n 2, 1) := by decide +kernel
theorem dX5_fix_84 : decode cX5_fix 84 = .ok (.iastore, 1) := by decide +kernel
theorem dX5_fix_85 : decode cX5_fix 85 = .ok (.aload_n 0, 1) := by decide +kernel
theorem dX5_fix_86 : decode cX5_fix 86 = .ok (.getfield 35, 3) := by decide +kernel
theorem dX5_fix_89 : decode cX5_fix 89 = .ok (.iload_n 1, 1) := by decide +kernel
theorem dX5_fix_90 : decode cX5_fix 90 = .ok (.iload_n 3, 1) := by decide +kernel
theorem dX5_fix_91 : decode cX5_fix 91 = .ok (.iastore, 1) := by decide +kernel
theorem dX5_fix_92 : decode cX5_fix 92 = .ok (.aload_n 0, 1) := by decide +kernel
theorem dX5_fix_93 : decode cX5_fix 93 = .ok (.getfield 38, 3) := by decide +kernel
theorem dX5_fix_96 : decode cX5_fix 96 = .ok (.iload_n 1, 1) := by decide +kernel
theorem dX5_fix_97 : decode cX5_fix 97 = .ok (.iload 4, 2) := by decide +kernel
theorem dX5_fix_99 : decode cX5_fix 99 = .ok (.iastore, 1) := by decide +kernel
theorem dX5_fix_100 : decode cX5_fix 100 = .ok (.aload_n 0, 1) := by decide +kernel
theorem dX5_fix_101 : decode cX5_fix 101 = .ok (.getfield 41, 3) := by decide +kernel
theorem dX5_fix_104 : decode cX5_fix 104 = .ok (.iload_n 1, 1) := by decide +kernel
theorem dX5_fix_105 : decode cX5_fix 105 = .ok (.iload 5, 2) := by decide +kernel
theorem dX5_fix_107 : decode cX5_fix 107 = .ok (.iastore, 1) := by decide +kernel
theorem dX5_fix_108 : decode cX5_fix 108 = .ok (.aload_n 0, 1) := by decide +kernel
theorem dX5_fix_109 : decode cX5_fix 109 = .ok (.iload_n 1, 1) := by decide +kernel
theorem dX5_fix_110 : decode cX5_fix 110 = .ok (.invokevirtual 121, 3) := by decide +kernel
theorem dX5_fix_113 : decode cX5_fix 113 = .ok (.ireturn, 1) := by decide +kernel
theorem dX5_needsAtLast_0 : decode cX5_needsAtLast 0 = .ok (.iconst 0, 1) := by decide +kernel
theorem dX5_needsAtLast_1 : decode cX5_needsAtLast 1 = .ok (.istore_n 3, 1) := by decide +kernel
theorem dX5_needsAtLast_2 : decode cX5_needsAtLast 2 = .ok (.iload_n 3, 1) := by decide +kernel
theorem dX5_needsAtLast_3 : decode cX5_needsAtLast 3 = .ok (.aload_n 0, 1) := by decide +kernel
theorem dX5_needsAtLast_4 : decode cX5_needsAtLast 4 = .ok (.getfield 97, 3) := by decide +kernel
theorem dX5_needsAtLast_7 : decode cX5_needsAtLast 7 = .ok (.if_icmp .ge 39, 3) := by decide +kernel
theorem dX5_needsAtLast_10 : decode cX5_needsAtLast 10 = .ok (.aload_n 0, 1) := by decide +kernel
theorem dX5_needsAtLast_11 : decode cX5_needsAtLast 11 = .ok (.getfield 44, 3) := by decide +kernel
theorem dX5_needsAtLast_14 : decode cX5_needsAtLast 14 = .ok (.iload_n 1, 1) := by decide +kernel
theorem dX5_needsAtLast_15 : decode cX5_needsAtLast 15 = .ok (.iaload, 1) := by decide +kernel
theorem dX5_needsAtLast_16 : decode cX5_needsAtLast 16 = .ok (.iload_n 3, 1) := by decide +kernel
theorem dX5_needsAtLast_17 : decode cX5_needsAtLast 17 = .ok (.ishr, 1) := by decide +kernel
theorem dX5_needsAtLast_18 : decode cX5_needsAtLast 18 = .ok (.iconst 1, 1) := by decide +kernel
theorem dX5_needsAtLast_19 : decode cX5_needsAtLast 19 = .ok (.iand, 1) := by decide +kernel
theorem dX5_needsAtLast_20 : decode cX5_needsAtLast 20 = .ok (.iconst 1, 1) := by decide +kernel
theorem dX5_needsAtLast_21 : decode cX5_needsAtLast 21 = .ok (.if_icmp .ne 19, 3) := by decide +kernel
theorem dX5_needsAtLast_24 : decode cX5_needsAtLast 24 = .ok (.iload_n 3, 1) := by decide +kernel
theorem dX5_needsAtLast_25 : decode cX5_needsAtLast 25 = .ok (.iload_n 2, 1) := by decide +kernel
theorem dX5_needsAtLast_26 : decode cX5_needsAtLast 26 = .ok (.if_icmp .eq 12, 3) := by decide +kernel
theorem dX5_needsAtLast_29 : decode cX5_needsAtLast 29 = .ok (.aload_n 0, 1) := by decide +kernel
theorem dX5_needsAtLast_30 : decode cX5_needsAtLast 30 = .ok (.iload_n 3, 1) := by decide +kernel
theorem dX5_needsAtLast_31 : decode cX5_needsAtLast 31 = .ok (.iload_n 2, 1) := by decide +kernel
theorem dX5_needsAtLast_32 : decode cX5_needsAtLast 32 = .ok (.invokevirtual 124, 3) := by decide +kernel
theorem dX5_needsAtLast_35 : decode cX5_needsAtLast 35 = .ok (.ifCond .eq 5, 3) := by decide +kernel
theorem dX5_needsAtLast_38 : decode cX5_needsAtLast 38 = .ok (.iconst 1, 1) := by decide +kernel
theorem dX5_needsAtLast_39 : decode cX5_needsAtLast 39 = .ok (.ireturn, 1) := by decide +kernel
theorem dX5_needsAtLast_40 : decode cX5_needsAtLast 40 = .ok (.iinc 3 1, 3) := by decide +kernel
theorem dX5_needsAtLast_43 : decode cX5_needsAtLast 43 = .ok (.goto (-41), 3) := by decide +kernel
theorem dX5_needsAtLast_46 : decode cX5_needsAtLast 46 = .ok (.iconst 0, 1) := by decide +kernel
theorem dX5_needsAtLast_47 : decode cX5_needsAtLast 47 = .ok (.ireturn, 1) := by decide +kernel
theorem dX5_need_0 : decode cX5_need 0 = .ok (.aload_n 0, 1) := by decide +kernel
theorem dX5_need_1 : decode cX5_need 1 = .ok (.aload_n 0, 1) := by decide +kernel
theorem dX5_need_2 : decode cX5_need 2 = .ok (.iload_n 1, 1) := by decide +kernel
theorem dX5_need_3 : decode cX5_need 3 = .ok (.invokevirtual 107, 3) := by decide +kernel
theorem dX5_need_6 : decode cX5_need 6 = .ok (.ifCond .ne 11, 3) := by decide +kernel
theorem dX5_need_9 : decode cX5_need 9 = .ok (.aload_n 0, 1) := by decide +kernel
theorem dX5_need_10 : decode cX5_need 10 = .ok (.iload_n 2, 1) := by decide +kernel
theorem dX5_need_11 : decode cX5_need 11 = .ok (.invokevirtual 107, 3) := by decide +kernel
theorem dX5_need_14 : decode cX5_need 14 = .ok (.ifCond .eq 7, 3) := by decide +kernel
theorem dX5_need_17 : decode cX5_need 17 = .ok (.iconst 1, 1) := by decide +kernel
theorem dX5_need_18 : decode cX5_need 18 = .ok (.goto 38, 3) := by decide +kernel
theorem dX5_need_21 : decode cX5_need 21 = .ok (.iload_n 1, 1) := by decide +kernel
theorem dX5_need_22 : decode cX5_need 22 = .ok (.iload_n 2, 1) := by decide +kernel
theorem dX5_need_23 : decode cX5_need 23 = .ok (.if_icmp .ne 7, 3) := by decide +kernel
theorem dX5_need_26 : decode cX5_need 26 = .ok (.iconst 2, 1) := by decide +kernel
theorem dX5_need_27 : decode cX5_need 27 = .ok (.goto 29, 3) := by decide +kernel
theorem dX5_need_30 : decode cX5_need 30 = .ok (.aload_n 0, 1) := by decide +kernel
theorem dX5_need_31 : decode cX5_need 31 = .ok (.iload_n 2, 1) := by decide +kernel
theorem dX5_need_32 : decode cX5_need 32 = .ok (.iload_n 1, 1) := by decide +kernel
theorem dX5_need_33 : decode cX5_need 33 = .ok (.invokevirtual 124, 3) := by decide +kernel
theorem dX5_need_36 : decode cX5_need 36 = .ok (.ifCond .eq 7, 3) := by decide +kernel
theorem dX5_need_39 : decode cX5_need 39 = .ok (.iconst 3, 1) := by decide +kernel
theorem dX5_need_40 : decode cX5_need 40 = .ok (.goto 16, 3) := by decide +kernel
theorem dX5_need_43 : decode cX5_need 43 = .ok (.aload_n 0, 1) := by decide +kernel
theorem dX5_need_44 : decode cX5_need 44 = .ok (.iload_n 1, 1) := by decide +kernel
theorem dX5_need_45 : decode cX5_need 45 = .ok (.invokevirtual 117, 3) := by decide +kernel
theorem dX5_need_48 : decode cX5_need 48 = .ok (.ifCond .lt 7, 3) := by decide +kernel
theorem dX5_need_51 : decode cX5_need 51 = .ok (.iconst 4, 1) := by decide +kernel
theorem dX5_need_52 : decode cX5_need 52 = .ok (.goto 4, 3) := by decide +kernel
theorem dX5_need_55 : decode cX5_need 55 = .ok (.iconst 0, 1) := by decide +kernel
theorem dX5_need_56 : decode cX5_need 56 = .ok (.invokevirtual 103, 3) := by decide +kernel
theorem dX5_need_59 : decode cX5_need 59 = .ok (.ifCond .eq 5, 3) := by decide +kernel
theorem dX5_need_62 : decode cX5_need 62 = .ok (.iconst 0, 1) := by decide +kernel
theorem dX5_need_63 : decode cX5_need 63 = .ok (.ireturn, 1) := by decide +kernel
theorem dX5_need_64 : decode cX5_need 64 = .ok (.aload_n 0, 1) := by decide +kernel
theorem dX5_need_65 : decode cX5_need 65 = .ok (.getfield 44, 3) := by decide +kernel
theorem dX5_need_68 : decode cX5_need 68 = .ok (.iload_n 1, 1) := by decide +kernel
theorem dX5_need_69 : decode cX5_need 69 = .ok (.dup2, 1) := by decide +kernel
theorem dX5_need_70 : decode cX5_need 70 = .ok (.iaload, 1) := by decide +kernel
theorem dX5_need_71 : decode cX5_need 71 = .ok (.iconst 1, 1) := by decide +kernel
theorem dX5_need_72 : decode cX5_need 72 = .ok (.iload_n 2, 1) := by decide +kernel
theorem dX5_need_73 : decode cX5_need 73 = .ok (.ishl, 1) := by decide +kernel
theorem dX5_need_74 : decode cX5_need 74 = .ok (.ior, 1) := by decide +kernel
theorem dX5_need_75 : decode cX5_need 75 = .ok (.iastore, 1) := by decide +kernel
theorem dX5_need_76 : decode cX5_need 76 = .ok (.iconst 0, 1) := by decide +kernel
theorem dX5_need_77 : decode cX5_need 77 = .ok (.istore_n 3, 1) := by decide +kernel
theorem dX5_need_78 : decode cX5_need 78 = .ok (.iconst 0, 1) := by decide +kernel
theorem dX5_need_79 : decode cX5_need 79 = .ok (.istore 4, 2) := by decide +kernel
theorem dX5_need_81 : decode cX5_need 81 = .ok (.iload 4, 2) := by decide +kernel
theorem dX5_need_83 : decode cX5_need 83 = .ok (.aload_n 0, 1) := by decide +kernel
theorem dX5_need_84 : decode cX5_need 84 = .ok (.getfield 97, 3) := by decide +kernel
theorem dX5_need_87 : decode cX5_need 87 = .ok (.if_icmp .ge 23, 3) := by decide +kernel
theorem dX5_need_90 : decode cX5_need 90 = .ok (.iload_n 3, 1) := by decide +kernel
theorem dX5_need_91 : decode cX5_need 91 = .ok (.aload_n 0, 1) := by decide +kernel
theorem dX5_need_92 : decode cX5_need 92 = .ok (.getfield 44, 3) := by decide +kernel
theorem dX5_need_95 : decode cX5_need 95 = .ok (.iload_n 1, 1) := by decide +kernel
theorem dX5_need_96 : decode cX5_need 96 = .ok (.iaload, 1) := by decide +kernel
theorem dX5_need_97 : decode cX5_need 97 = .ok (.iload 4, 2) := by decide +kernel
theorem dX5_need_99 : decode cX5_need 99 = .ok (.ishr, 1) := by decide +kernel
theorem dX5_need_100 : decode cX5_need 100 = .ok (.iconst 1, 1) := by decide +kernel
theorem dX5_need_101 : decode cX5_need 101 = .ok (.iand, 1) := by decide +kernel
theorem dX5_need_102 : decode cX5_need 102 = .ok (.iadd, 1) := by decide +kernel
theorem dX5_need_103 : decode cX5_need 103 = .ok (.istore_n 3, 1) := by decide +kernel
theorem dX5_need_104 : decode cX5_need 104 = .ok (.iinc 4 1, 3) := by decide +kernel
theorem dX5_need_107 : decode cX5_need 107 = .ok (.goto (-26), 3) := by decide +kernel
theorem dX5_need_110 : decode cX5_need 110 = .ok (.iload_n 3, 1) := by decide +kernel
theorem dX5_need_111 : decode cX5_need 111 = .ok (.ireturn, 1) := by decide +kernel
theorem dX5_isBusy_0 : decode cX5_isBusy 0 = .ok (.iconst 0, 1) := by decide +kernel
theorem dX5_isBusy_1 : decode cX5_isBusy 1 = .ok (.istore_n 2, 1) := by decide +kernel
theorem dX5_isBusy_2 : decode cX5_isBusy 2 = .ok (.iload_n 2, 1) := by decide +kernel
theorem dX5_isBusy_3 : decode cX5_isBusy 3 = .ok (.aload_n 0, 1) := by decide +kernel
theorem dX5_isBusy_4 : decode cX5_isBusy 4 = .ok (.getfield 100, 3) := by decide +kernel
theorem dX5_isBusy_7 : decode cX5_isBusy 7 = .ok (.if_icmp .ge 26, 3) := by decide +kernel
theorem dX5_isBusy_10 : decode cX5_isBusy 10 = .ok (.aload_n 0, 1) := by decide +kernel
theorem dX5_isBusy_11 : decode cX5_isBusy 11 = .ok (.getfield 25, 3) := by decide +kernel
theorem dX5_isBusy_14 : decode cX5_isBusy 14 = .ok (.aload_n 0, 1) := by decide +kernel
theorem dX5_isBusy_15 : decode cX5_isBusy 15 = .ok (.getfield 75, 3) := by decide +kernel
theorem dX5_isBusy_18 : decode cX5_isBusy 18 = .ok (.iload_n 2, 1) := by decide +kernel
theorem dX5_isBusy_19 : decode cX5_isBusy 19 = .ok (.iaload, 1) := by decide +kernel
theorem dX5_isBusy_20 : decode cX5_isBusy 20 = .ok (.iaload, 1) := by decide +kernel
theorem dX5_isBusy_21 : decode cX5_isBusy 21 = .ok (.iload_n 1, 1) := by decide +kernel
theorem dX5_isBusy_22 : decode cX5_isBusy 22 = .ok (.if_icmp .ne 5, 3) := by decide +kernel
theorem dX5_isBusy_25 : decode cX5_isBusy 25 = .ok (.iconst 1, 1) := by decide +kernel
theorem dX5_isBusy_26 : decode cX5_isBusy 26 = .ok (.ireturn, 1) := by decide +kernel
theorem dX5_isBusy_27 : decode cX5_isBusy 27 = .ok (.iinc 2 1, 3) := by decide +kernel
theorem dX5_isBusy_30 : decode cX5_isBusy 30 = .ok (.goto (-28), 3) := by decide +kernel
theorem dX5_isBusy_33 : decode cX5_isBusy 33 = .ok (.iconst 0, 1) := by decide +kernel
theorem dX5_isBusy_34 : decode cX5_isBusy 34 = .ok (.ireturn, 1) := by decide +kernel
theorem dX5_setArrival_0 : decode cX5_setArrival 0 = .ok (.aload_n 0, 1) := by decide +kernel
theorem dX5_setArrival_1 : decode cX5_setArrival 1 = .ok (.iload_n 1, 1) := by decide +kernel
theorem dX5_setArrival_2 : decode cX5_setArrival 2 = .ok (.iconst 0, 1) := by decide +kernel
theorem dX5_setArrival_3 : decode cX5_setArrival 3 = .ok (.iconst 2, 1) := by decide +kernel
theorem dX5_setArrival_4 : decode cX5_setArrival 4 = .ok (.invokestatic 93, 3) := by decide +kernel
theorem dX5_setArrival_7 : decode cX5_setArrival 7 = .ok (.ifCond .ne 7, 3) := by decide +kernel
theorem dX5_setArrival_10 : decode cX5_setArrival 10 = .ok (.iconst 1, 1) := by decide +kernel
theorem dX5_setArrival_11 : decode cX5_setArrival 11 = .ok (.goto 31, 3) := by decide +kernel
theorem dX5_setArrival_14 : decode cX5_setArrival 14 = .ok (.iload_n 2, 1) := by decide +kernel
theorem dX5_setArrival_15 : decode cX5_setArrival 15 = .ok (.iconst 0, 1) := by decide +kernel
theorem dX5_setArrival_16 : decode cX5_setArrival 16 = .ok (.sipush 1440, 3) := by decide +kernel
theorem dX5_setArrival_19 : decode cX5_setArrival 19 = .ok (.invokestatic 93, 3) := by decide +kernel
theorem dX5_setArrival_22 : decode cX5_setArrival 22 = .ok (.ifCond .ne 7, 3) := by decide +kernel
theorem dX5_setArrival_25 : decode cX5_setArrival 25 = .ok (.iconst 2, 1) := by decide +kernel
theorem dX5_setArrival_26 : decode cX5_setArrival 26 = .ok (.goto 16, 3) := by decide +kernel
theorem dX5_setArrival_29 : decode cX5_setArrival 29 = .ok (.aload_n 0, 1) := by decide +kernel
theorem dX5_setArrival_30 : decode cX5_setArrival 30 = .ok (.iload_n 1, 1) := by decide +kernel
theorem dX5_setArrival_31 : decode cX5_setArrival 31 = .ok (.invokevirtual 128, 3) := by decide +kernel
theorem dX5_setArrival_34 : decode cX5_setArrival 34 = .ok (.ifCond .eq 7, 3) := by decide +kernel
theorem dX5_setArrival_37 : decode cX5_setArrival 37 = .ok (.iconst 3, 1) := by decide +kernel
theorem dX5_setArrival_38 : decode cX5_setArrival 38 = .ok (.goto 4, 3) := by decide +kernel
theorem dX5_setArrival_41 : decode cX5_setArrival 41 = .ok (.iconst 0, 1) := by decide +kernel
theorem dX5_setArrival_42 : decode cX5_setArrival 42 = .ok (.invokevirtual 103, 3) := by decide +kernel
theorem dX5_setArrival_45 : decode cX5_setArrival 45 = .ok (.ifCond .eq 5, 3) := by decide +kernel
theorem dX5_setArrival_48 : decode cX5_setArrival 48 = .ok (.iconst 0, 1) := by decide +kernel
theorem dX5_setArrival_49 : decode cX5_setArrival 49 = .ok (.ireturn, 1) := by decide +kernel
theorem dX5_setArrival_50 : decode cX5_setArrival 50 = .ok (.aload_n 0, 1) := by decide +kernel
theorem dX5_setArrival_51 : decode cX5_setArrival 51 = .ok (.getfield 47, 3) := by decide +kernel
theorem dX5_setArrival_54 : decode cX5_setArrival 54 = .ok (.iload_n 1, 1) := by decide +kernel
theorem dX5_setArrival_55 : decode cX5_setArrival 55 = .ok (.iaload, 1) := by decide +kernel
theorem dX5_setArrival_56 : decode cX5_setArrival 56 = .ok (.istore_n 3, 1) := by decide +kernel
theorem dX5_setArrival_57 : decode cX5_setArrival 57 = .ok (.aload_n 0, 1) := by decide +kernel
theorem dX5_setArrival_58 : decode cX5_setArrival 58 = .ok (.getfield 47, 3) := by decide +kernel
theorem dX5_setArrival_61 : decode cX5_setArrival 61 = .ok (.iload_n 1, 1) := by decide +kernel
theorem dX5_setArrival_62 : decode cX5_setArrival 62 = .ok (.iload_n 2, 1) := by decide +kernel
theorem dX5_setArrival_63 : decode cX5_setArrival 63 = .ok (.iastore, 1) := by decide +kernel
theorem dX5_setArrival_64 : decode cX5_setArrival 64 = .ok (.iload_n 3, 1) := by decide +kernel
theorem dX5_setArrival_65 : decode cX5_setArrival 65 = .ok (.ireturn, 1) := by decide +kernel
theorem dX5_addTown_0 : decode cX5_addTown 0 = .ok (.iload_n 1, 1) := by decide +kernel
theorem dX5_addTown_1 : decode cX5_addTown 1 = .ok (.bipush 10, 2) := by decide +kernel
theorem dX5_addTown_3 : decode cX5_addTown 3 = .ok (.bipush 100, 2) := by decide +kernel
theorem dX5_addTown_5 : decode cX5_addTown 5 = .ok (.invokestatic 93, 3) := by decide +kernel
theorem dX5_addTown_8 : decode cX5_addTown 8 = .ok (.ifCond .eq 42, 3) := by decide +kernel
theorem dX5_addTown_11 : decode cX5_addTown 11 = .ok (.iload_n 2, 1) := by decide +kernel
theorem dX5_addTown_12 : decode cX5_addTown 12 = .ok (.bipush 30, 2) := by decide +kernel
theorem dX5_addTown_14 : decode cX5_addTown 14 = .ok (.sipush 480, 3) := by decide +kernel
theorem dX5_addTown_17 : decode cX5_addTown 17 = .ok (.invokestatic 93, 3) := by decide +kernel
theorem dX5_addTown_20 : decode cX5_addTown 20 = .ok (.ifCond .eq 30, 3) := by decide +kernel
theorem dX5_addTown_23 : decode cX5_addTown 23 = .ok (.iload_n 3, 1) := by decide +kernel
theorem dX5_addTown_24 : decode cX5_addTown 24 = .ok (.iconst 5, 1) := by decide +kernel
theorem dX5_addTown_25 : decode cX5_addTown 25 = .ok (.bipush 120, 2) := by decide +kernel
theorem dX5_addTown_27 : decode cX5_addTown 27 = .ok (.invokestatic 93, 3) := by decide +kernel
theorem dX5_addTown_30 : decode cX5_addTown 30 = .ok (.ifCond .eq 20, 3) := by decide +kernel
theorem dX5_addTown_33 : decode cX5_addTown 33 = .ok (.iload 4, 2) := by decide +kernel
theorem dX5_addTown_35 : decode cX5_addTown 35 = .ok (.bipush 60, 2) := by decide +kernel
theorem dX5_addTown_37 : decode cX5_addTown 37 = .ok (.sipush 1440, 3) := by decide +kernel
theorem dX5_addTown_40 : decode cX5_addTown 40 = .ok (.invokestatic 93, 3) := by decide +kernel
theorem dX5_addTown_43 : decode cX5_addTown 43 = .ok (.ifCond .eq 7, 3) := by decide +kernel
theorem dX5_addTown_46 : decode cX5_addTown 46 = .ok (.iconst 1, 1) := by decide +kernel
theorem dX5_addTown_47 : decode cX5_addTown 47 = .ok (.goto 4, 3) := by decide +kernel
theorem dX5_addTown_50 : decode cX5_addTown 50 = .ok (.iconst 0, 1) := by decide +kernel
theorem dX5_addTown_51 : decode cX5_addTown 51 = .ok (.istore 5, 2) := by decide +kernel
theorem dX5_addTown_53 : decode cX5_addTown 53 = .ok (.aload_n 0, 1) := by decide +kernel
theorem dX5_addTown_54 : decode cX5_addTown 54 = .ok (.iload 5, 2) := by decide +kernel
theorem dX5_addTown_56 : decode cX5_addTown 56 = .ok (.ifCond .ne 7, 3) := by decide +kernel
theorem dX5_addTown_59 : decode cX5_addTown 59 = .ok (.iconst 1, 1) := by decide +kernel
theorem dX5_addTown_60 : decode cX5_addTown 60 = .ok (.goto 16, 3) := by decide +kernel
theorem dX5_addTown_63 : decode cX5_addTown 63 = .ok (.aload_n 0, 1) := by decide +kernel
theorem dX5_addTown_64 : decode cX5_addTown 64 = .ok (.getfield 131, 3) := by decide +kernel
theorem dX5_addTown_67 : decode cX5_addTown 67 = .ok (.iconst 4, 1) := by decide +kernel
theorem dX5_addTown_68 : decode cX5_addTown 68 = .ok (.if_icmp .ne 7, 3) := by decide +kernel
theorem dX5_addTown_71 : decode cX5_addTown 71 = .ok (.iconst 2, 1) := by decide +kernel
theorem dX5_addTown_72 : decode cX5_addTown 72 = .ok (.goto 4, 3) := by decide +kernel
theorem dX5_addTown_75 : decode cX5_addTown 75 = .ok (.iconst 0, 1) := by decide +kernel
theorem dX5_addTown_76 : decode cX5_addTown 76 = .ok (.invokevirtual 103, 3) := by decide +kernel
theorem dX5_addTown_79 : decode cX5_addTown 79 = .ok (.ifCond .eq 5, 3) := by decide +kernel
theorem dX5_addTown_82 : decode cX5_addTown 82 = .ok (.iconst 0, 1) := by decide +kernel
theorem dX5_addTown_83 : decode cX5_addTown 83 = .ok (.ireturn, 1) := by decide +kernel
theorem dX5_addTown_84 : decode cX5_addTown 84 = .ok (.aload_n 0, 1) := by decide +kernel
theorem dX5_addTown_85 : decode cX5_addTown 85 = .ok (.getfield 50, 3) := by decide +kernel
theorem dX5_addTown_88 : decode cX5_addTown 88 = .ok (.aload_n 0, 1) := by decide +kernel
theorem dX5_addTown_89 : decode cX5_addTown 89 = .ok (.getfield 131, 3) := by decide +kernel
theorem dX5_addTown_92 : decode cX5_addTown 92 = .ok (.iload_n 1, 1) := by decide +kernel
theorem dX5_addTown_93 : decode cX5_addTown 93 = .ok (.iastore, 1) := by decide +kernel
theorem dX5_addTown_94 : decode cX5_addTown 94 = .ok (.aload_n 0, 1) := by decide +kernel
theorem dX5_addTown_95 : decode cX5_addTown 95 = .ok (.getfield 53, 3) := by decide +kernel
theorem dX5_addTown_98 : decode cX5_addTown 98 = .ok (.aload_n 0, 1) := by decide +kernel
theorem dX5_addTown_99 : decode cX5_addTown 99 = .ok (.getfield 131, 3) := by decide +kernel
theorem dX5_addTown_102 : decode cX5_addTown 102 = .ok (.iload_n 2, 1) := by decide +kernel
theorem dX5_addTown_103 : decode cX5_addTown 103 = .ok (.iastore, 1) := by decide +kernel
theorem dX5_addTown_104 : decode cX5_addTown 104 = .ok (.aload_n 0, 1) := by decide +kernel
theorem dX5_addTown_105 : decode cX5_addTown 105 = .ok (.getfield 56, 3) := by decide +kernel
theorem dX5_addTown_108 : decode cX5_addTown 108 = .ok (.aload_n 0, 1) := by decide +kernel
theorem dX5_addTown_109 : decode cX5_addTown 109 = .ok (.getfield 131, 3) := by decide +kernel
theorem dX5_addTown_112 : decode cX5_addTown 112 = .ok (.iload_n 3, 1) := by decide +kernel
theorem dX5_addTown_113 : decode cX5_addTown 113 = .ok (.iastore, 1) := by decide +kernel
theorem dX5_addTown_114 : decode cX5_addTown 114 = .ok (.aload_n 0, 1) := by decide +kernel
theorem dX5_addTown_115 : decode cX5_addTown 115 = .ok (.getfield 59, 3) := by decide +kernel
theorem dX5_addTown_118 : decode cX5_addTown 118 = .ok (.aload_n 0, 1) := by decide +kernel
theorem dX5_addTown_119 : decode cX5_addTown 119 = .ok (.getfield 131, 3) := by decide +kernel
theorem dX5_addTown_122 : decode cX5_addTown 122 = .ok (.iload 4, 2) := by decide +kernel
theorem dX5_addTown_124 : decode cX5_addTown 124 = .ok (.iastore, 1) := by decide +kernel
theorem dX5_addTown_125 : decode cX5_addTown 125 = .ok (.aload_n 0, 1) := by decide +kernel
theorem dX5_addTown_126 : decode cX5_addTown 126 = .ok (.dup, 1) := by decide +kernel
theorem dX5_addTown_127 : decode cX5_addTown 127 = .ok (.getfield 131, 3) := by decide +kernel
theorem dX5_addTown_130 : decode cX5_addTown 130 = .ok (.iconst 1, 1) := by decide +kernel
theorem dX5_addTown_131 : decode cX5_addTown 131 = .ok (.iadd, 1) := by decide +kernel
theorem dX5_addTown_132 : decode cX5_addTown 132 = .ok (.putfield 131, 3) := by decide +kernel
theorem dX5_addTown_135 : decode cX5_addTown 135 = .ok (.aload_n 0, 1) := by decide +kernel
theorem dX5_addTown_136 : decode cX5_addTown 136 = .ok (.getfield 131, 3) := by decide +kernel
theorem dX5_addTown_139 : decode cX5_addTown 139 = .ok (.iconst 1, 1) := by decide +kernel
theorem dX5_addTown_140 : decode cX5_addTown 140 = .ok (.isub, 1) := by decide +kernel
theorem dX5_addTown_141 : decode cX5_addTown 141 = .ok (.ireturn, 1) := by decide +kernel
theorem dX5_isNoTown_0 : decode cX5_isNoTown 0 = .ok (.iload_n 1, 1) := by decide +kernel
theorem dX5_isNoTown_1 : decode cX5_isNoTown 1 = .ok (.iconst 0, 1) := by decide +kernel
theorem dX5_isNoTown_2 : decode cX5_isNoTown 2 = .ok (.aload_n 0, 1) := by decide +kernel
theorem dX5_isNoTown_3 : decode cX5_isNoTown 3 = .ok (.getfield 131, 3) := by decide +kernel
theorem dX5_isNoTown_6 : decode cX5_isNoTown 6 = .ok (.iconst 1, 1) := by decide +kernel
theorem dX5_isNoTown_7 : decode cX5_isNoTown 7 = .ok (.isub, 1) := by decide +kernel
theorem dX5_isNoTown_8 : decode cX5_isNoTown 8 = .ok (.invokestatic 93, 3) := by decide +kernel
theorem dX5_isNoTown_11 : decode cX5_isNoTown 11 = .ok (.ifCond .ne 7, 3) := by decide +kernel
theorem dX5_isNoTown_14 : decode cX5_isNoTown 14 = .ok (.iconst 1, 1) := by decide +kernel
theorem dX5_isNoTown_15 : decode cX5_isNoTown 15 = .ok (.goto 4, 3) := by decide +kernel
theorem dX5_isNoTown_18 : decode cX5_isNoTown 18 = .ok (.iconst 0, 1) := by decide +kernel
theorem dX5_isNoTown_19 : decode cX5_isNoTown 19 = .ok (.ireturn, 1) := by decide +kernel
theorem dX5_setRates_0 : decode cX5_setRates 0 = .ok (.aload_n 0, 1) := by decide +kernel
theorem dX5_setRates_1 : decode cX5_setRates 1 = .ok (.aload_n 0, 1) := by decide +kernel
theorem dX5_setRates_2 : decode cX5_setRates 2 = .ok (.iload_n 1, 1) := by decide +kernel
theorem dX5_setRates_3 : decode cX5_setRates 3 = .ok (.invokevirtual 134, 3) := by decide +kernel
theorem dX5_setRates_6 : decode cX5_setRates 6 = .ok (.ifCond .eq 7, 3) := by decide +kernel
theorem dX5_setRates_9 : decode cX5_setRates 9 = .ok (.iconst 1, 1) := by decide +kernel
theorem dX5_setRates_10 : decode cX5_setRates 10 = .ok (.goto 40, 3) := by decide +kernel
theorem dX5_setRates_13 : decode cX5_setRates 13 = .ok (.iload_n 2, 1) := by decide +kernel
theorem dX5_setRates_14 : decode cX5_setRates 14 = .ok (.iconst 0, 1) := by decide +kernel
theorem dX5_setRates_15 : decode cX5_setRates 15 = .ok (.bipush 99, 2) := by decide +kernel
theorem dX5_setRates_17 : decode cX5_setRates 17 = .ok (.invokestatic 93, 3) := by decide +kernel
theorem dX5_setRates_20 : decode cX5_setRates 20 = .ok (.ifCond .eq 29, 3) := by decide +kernel
theorem dX5_setRates_23 : decode cX5_setRates 23 = .ok (.iload_n 3, 1) := by decide +kernel
theorem dX5_setRates_24 : decode cX5_setRates 24 = .ok (.iconst 0, 1) := by decide +kernel
theorem dX5_setRates_25 : decode cX5_setRates 25 = .ok (.sipush 1440, 3) := by decide +kernel
theorem dX5_setRates_28 : decode cX5_setRates 28 = .ok (.invokestatic 93, 3) := by decide +kernel
theorem dX5_setRates_31 : decode cX5_setRates 31 = .ok (.ifCond .eq 18, 3) := by decide +kernel
theorem dX5_setRates_34 : decode cX5_setRates 34 = .ok (.iload 4, 2) := by decide +kernel
theorem dX5_setRates_36 : decode cX5_setRates 36 = .ok (.iconst 0, 1) := by decide +kernel
theorem dX5_setRates_37 : decode cX5_setRates 37 = .ok (.bipush 99, 2) := by decide +kernel
theorem dX5_setRates_39 : decode cX5_setRates 39 = .ok (.invokestatic 93, 3) := by decide +kernel
theorem dX5_setRates_42 : decode cX5_setRates 42 = .ok (.ifCond .eq 7, 3) := by decide +kernel
theorem dX5_setRates_45 : decode cX5_setRates 45 = .ok (.iconst 0, 1) := by decide +kernel
theorem dX5_setRates_46 : decode cX5_setRates 46 = .ok (.goto 4, 3) := by decide +kernel
theorem dX5_setRates_49 : decode cX5_setRates 49 = .ok (.iconst 2, 1) := by decide +kernel
theorem dX5_setRates_50 : decode cX5_setRates 50 = .ok (.invokevirtual 103, 3) := by decide +kernel
theorem dX5_setRates_53 : decode cX5_setRates 53 = .ok (.ifCond .eq 5, 3) := by decide +kernel
theorem dX5_setRates_56 : decode cX5_setRates 56 = .ok (.iconst 0, 1) := by decide +kernel
theorem dX5_setRates_57 : decode cX5_setRates 57 = .ok (.ireturn, 1) := by decide +kernel
theorem dX5_setRates_58 : decode cX5_setRates 58 = .ok (.aload_n 0, 1) := by decide +kernel
theorem dX5_setRates_59 : decode cX5_setRates 59 = .ok (.getfield 62, 3) := by decide +kernel
theorem dX5_setRates_62 : decode cX5_setRates 62 = .ok (.iload_n 1, 1) := by decide +kernel
theorem dX5_setRates_63 : decode cX5_setRates 63 = .ok (.iaload, 1) := by decide +kernel
theorem dX5_setRates_64 : decode cX5_setRates 64 = .ok (.istore 5, 2) := by decide +kernel
theorem dX5_setRates_66 : decode cX5_setRates 66 = .ok (.aload_n 0, 1) := by decide +kernel
theorem dX5_setRates_67 : decode cX5_setRates 67 = .ok (.getfield 62, 3) := by decide +kernel
theorem dX5_setRates_70 : decode cX5_setRates 70 = .ok (.iload_n 1, 1) := by decide +kernel
theorem dX5_setRates_71 : decode cX5_setRates 71 = .ok (.iload_n 2, 1) := by decide +kernel
theorem dX5_setRates_72 : decode cX5_setRates 72 = .ok (.iastore, 1) := by decide +kernel
theorem dX5_setRates_73 : decode cX5_setRates 73 = .ok (.aload_n 0, 1) := by decide +kernel
theorem dX5_setRates_74 : decode cX5_setRates 74 = .ok (.getfield 65, 3) := by decide +kernel
theorem dX5_setRates_77 : decode cX5_setRates 77 = .ok (.iload_n 1, 1) := by decide +kernel
theorem dX5_setRates_78 : decode cX5_setRates 78 = .ok (.iload_n 3, 1) := by decide +kernel
theorem dX5_setRates_79 : decode cX5_setRates 79 = .ok (.iastore, 1) := by decide +kernel
theorem dX5_setRates_80 : decode cX5_setRates 80 = .ok (.aload_n 0, 1) := by decide +kernel
theorem dX5_setRates_81 : decode cX5_setRates 81 = .ok (.getfield 68, 3) := by decide +kernel
theorem dX5_setRates_84 : decode cX5_setRates 84 = .ok (.iload_n 1, 1) := by decide +kernel
theorem dX5_setRates_85 : decode cX5_setRates 85 = .ok (.iload 4, 2) := by decide +kernel
theorem dX5_setRates_87 : decode cX5_setRates 87 = .ok (.iastore, 1) := by decide +kernel
theorem dX5_setRates_88 : decode cX5_setRates 88 = .ok (.iload 5, 2) := by decide +kernel
theorem dX5_setRates_90 : decode cX5_setRates 90 = .ok (.ireturn, 1) := by decide +kernel
theorem dX5_come_0 : decode cX5_come 0 = .ok (.aload_n 0, 1) := by decide +kernel
theorem dX5_come_1 : decode cX5_come 1 = .ok (.aload_n 0, 1) := by decide +kernel
theorem dX5_come_2 : decode cX5_come 2 = .ok (.iload_n 1, 1) := by decide +kernel
theorem dX5_come_3 : decode cX5_come 3 = .ok (.invokevirtual 134, 3) := by decide +kernel
theorem dX5_come_6 : decode cX5_come 6 = .ok (.ifCond .eq 7, 3) := by decide +kernel
theorem dX5_come_9 : decode cX5_come 9 = .ok (.iconst 1, 1) := by decide +kernel
theorem dX5_come_10 : decode cX5_come 10 = .ok (.goto 4, 3) := by decide +kernel
theorem dX5_come_13 : decode cX5_come 13 = .ok (.iconst 0, 1) := by decide +kernel
theorem dX5_come_14 : decode cX5_come 14 = .ok (.invokevirtual 103, 3) := by decide +kernel
theorem dX5_come_17 : decode cX5_come 17 = .ok (.ifCond .eq 5, 3) := by decide +kernel
theorem dX5_come_20 : decode cX5_come 20 = .ok (.iconst 0, 1) := by decide +kernel
theorem dX5_come_21 : decode cX5_come 21 = .ok (.ireturn, 1) := by decide +kernel
theorem dX5_come_22 : decode cX5_come 22 = .ok (.aload_n 0, 1) := by decide +kernel
theorem dX5_come_23 : decode cX5_come 23 = .ok (.getfield 100, 3) := by decide +kernel
theorem dX5_come_26 : decode cX5_come 26 = .ok (.istore_n 2, 1) := by decide +kernel
theorem dX5_come_27 : decode cX5_come 27 = .ok (.aload_n 0, 1) := by decide +kernel
theorem dX5_come_28 : decode cX5_come 28 = .ok (.iload_n 1, 1) := by decide +kernel
theorem dX5_come_29 : decode cX5_come 29 = .ok (.putfield 71, 3) := by decide +kernel
theorem dX5_come_32 : decode cX5_come 32 = .ok (.aload_n 0, 1) := by decide +kernel
theorem dX5_come_33 : decode cX5_come 33 = .ok (.iconst 0, 1) := by decide +kernel
theorem dX5_come_34 : decode cX5_come 34 = .ok (.putfield 100, 3) := by decide +kernel
theorem dX5_come_37 : decode cX5_come 37 = .ok (.iload_n 2, 1) := by decide +kernel
theorem dX5_come_38 : decode cX5_come 38 = .ok (.ireturn, 1) := by decide +kernel
theorem dX5_town_0 : decode cX5_town 0 = .ok (.aload_n 0, 1) := by decide +kernel
theorem dX5_town_1 : decode cX5_town 1 = .ok (.aload_n 0, 1) := by decide +kernel
theorem dX5_town_2 : decode cX5_town 2 = .ok (.getfield 71, 3) := by decide +kernel
theorem dX5_town_5 : decode cX5_town 5 = .ok (.ifCond .ge 7, 3) := by decide +kernel
theorem dX5_town_8 : decode cX5_town 8 = .ok (.iconst 1, 1) := by decide +kernel
theorem dX5_town_9 : decode cX5_town 9 = .ok (.goto 4, 3) := by decide +kernel
theorem dX5_town_12 : decode cX5_town 12 = .ok (.iconst 0, 1) := by decide +kernel
theorem dX5_town_13 : decode cX5_town 13 = .ok (.invokevirtual 103, 3) := by decide +kernel
theorem dX5_town_16 : decode cX5_town 16 = .ok (.ifCond .eq 7, 3) := by decide +kernel
theorem dX5_town_19 : decode cX5_town 19 = .ok (.iconst 0, 1) := by decide +kernel
theorem dX5_town_20 : decode cX5_town 20 = .ok (.goto 7, 3) := by decide +kernel
theorem dX5_town_23 : decode cX5_town 23 = .ok (.aload_n 0, 1) := by decide +kernel
theorem dX5_town_24 : decode cX5_town 24 = .ok (.getfield 71, 3) := by decide +kernel
theorem dX5_town_27 : decode cX5_town 27 = .ok (.ireturn, 1) := by decide +kernel
theorem dX5_load_0 : decode cX5_load 0 = .ok (.aload_n 0, 1) := by decide +kernel
theorem dX5_load_1 : decode cX5_load 1 = .ok (.getfield 28, 3) := by decide +kernel
theorem dX5_load_4 : decode cX5_load 4 = .ok (.iload_n 1, 1) := by decide +kernel
theorem dX5_load_5 : decode cX5_load 5 = .ok (.baload, 1) := by decide +kernel
theorem dX5_load_6 : decode cX5_load 6 = .ok (.ifCond .eq 23, 3) := by decide +kernel
theorem dX5_load_9 : decode cX5_load 9 = .ok (.iload_n 2, 1) := by decide +kernel
theorem dX5_load_10 : decode cX5_load 10 = .ok (.aload_n 0, 1) := by decide +kernel
theorem dX5_load_11 : decode cX5_load 11 = .ok (.getfield 32, 3) := by decide +kernel
theorem dX5_load_14 : decode cX5_load 14 = .ok (.iload_n 1, 1) := by decide +kernel
theorem dX5_load_15 : decode cX5_load 15 = .ok (.iaload, 1) := by decide +kernel
theorem dX5_load_16 : decode cX5_load 16 = .ok (.if_icmp .eq 15, 3) := by decide +kernel
theorem dX5_load_19 : decode cX5_load 19 = .ok (.iload_n 2, 1) := by decide +kernel
theorem dX5_load_20 : decode cX5_load 20 = .ok (.aload_n 0, 1) := by decide +kernel
theorem dX5_load_21 : decode cX5_load 21 = .ok (.getfield 35, 3) := by decide +kernel
theorem dX5_load_24 : decode cX5_load 24 = .ok (.iload_n 1, 1) := by decide +kernel
theorem dX5_load_25 : decode cX5_load 25 = .ok (.iaload, 1) := by decide +kernel
theorem dX5_load_26 : decode cX5_load 26 = .ok (.if_icmp .eq 5, 3) := by decide +kernel
theorem dX5_load_29 : decode cX5_load 29 = .ok (.iconst 0, 1) := by decide +kernel
theorem dX5_load_30 : decode cX5_load 30 = .ok (.ireturn, 1) := by decide +kernel
theorem dX5_load_31 : decode cX5_load 31 = .ok (.iload_n 2, 1) := by decide +kernel
theorem dX5_load_32 : decode cX5_load 32 = .ok (.aload_n 0, 1) := by decide +kernel
theorem dX5_load_33 : decode cX5_load 33 = .ok (.getfield 35, 3) := by decide +kernel
theorem dX5_load_36 : decode cX5_load 36 = .ok (.iload_n 1, 1) := by decide +kernel
theorem dX5_load_37 : decode cX5_load 37 = .ok (.iaload, 1) := by decide +kernel
theorem dX5_load_38 : decode cX5_load 38 = .ok (.if_icmp .ne 11, 3) := by decide +kernel
theorem dX5_load_41 : decode cX5_load 41 = .ok (.aload_n 0, 1) := by decide +kernel
theorem dX5_load_42 : decode cX5_load 42 = .ok (.iload_n 1, 1) := by decide +kernel
theorem dX5_load_43 : decode cX5_load 43 = .ok (.invokevirtual 121, 3) := by decide +kernel
theorem dX5_load_46 : decode cX5_load 46 = .ok (.goto 15, 3) := by decide +kernel
theorem dX5_load_49 : decode cX5_load 49 = .ok (.aload_n 0, 1) := by decide +kernel
theorem dX5_load_50 : decode cX5_load 50 = .ok (.getfield 16, 3) := by decide +kernel
theorem dX5_load_53 : decode cX5_load 53 = .ok (.iload_n 1, 1) := by decide +kernel
theorem dX5_load_54 : decode cX5_load 54 = .ok (.iaload, 1) := by decide +kernel
theorem dX5_load_55 : decode cX5_load 55 = .ok (.aload_n 0, 1) := by decide +kernel
theorem dX5_load_56 : decode cX5_load 56 = .ok (.iload_n 1, 1) := by decide +kernel
theorem dX5_load_57 : decode cX5_load 57 = .ok (.invokevirtual 121, 3) := by decide +kernel
theorem dX5_load_60 : decode cX5_load 60 = .ok (.isub, 1) := by decide +kernel
theorem dX5_load_61 : decode cX5_load 61 = .ok (.istore_n 3, 1) := by decide +kernel
theorem dX5_load_62 : decode cX5_load 62 = .ok (.iload_n 3, 1) := by decide +kernel
theorem dX5_load_63 : decode cX5_load 63 = .ok (.bipush 100, 2) := by decide +kernel
theorem dX5_load_65 : decode cX5_load 65 = .ok (.aload_n 0, 1) := by decide +kernel
theorem dX5_load_66 : decode cX5_load 66 = .ok (.getfield 41, 3) := by decide +kernel
theorem dX5_load_69 : decode cX5_load 69 = .ok (.iload_n 1, 1) := by decide +kernel
theorem dX5_load_70 : decode cX5_load 70 = .ok (.iaload, 1) := by decide +kernel
theorem dX5_load_71 : decode cX5_load 71 = .ok (.iadd, 1) := by decide +kernel
theorem dX5_load_72 : decode cX5_load 72 = .ok (.imul, 1) := by decide +kernel
theorem dX5_load_73 : decode cX5_load 73 = .ok (.bipush 99, 2) := by decide +kernel
theorem dX5_load_75 : decode cX5_load 75 = .ok (.iadd, 1) := by decide +kernel
theorem dX5_load_76 : decode cX5_load 76 = .ok (.bipush 100, 2) := by decide +kernel
theorem dX5_load_78 : decode cX5_load 78 = .ok (.idiv, 1) := by decide +kernel
theorem dX5_load_79 : decode cX5_load 79 = .ok (.ireturn, 1) := by decide +kernel
theorem dX5_loadOn_0 : decode cX5_loadOn 0 = .ok (.aload_n 0, 1) := by decide +kernel
theorem dX5_loadOn_1 : decode cX5_loadOn 1 = .ok (.aload_n 0, 1) := by decide +kernel
theorem dX5_loadOn_2 : decode cX5_loadOn 2 = .ok (.iload_n 1, 1) := by decide +kernel
theorem dX5_loadOn_3 : decode cX5_loadOn 3 = .ok (.invokevirtual 107, 3) := by decide +kernel
theorem dX5_loadOn_6 : decode cX5_loadOn 6 = .ok (.ifCond .eq 7, 3) := by decide +kernel
theorem dX5_loadOn_9 : decode cX5_loadOn 9 = .ok (.iconst 1, 1) := by decide +kernel
theorem dX5_loadOn_10 : decode cX5_loadOn 10 = .ok (.goto 16, 3) := by decide +kernel
theorem dX5_loadOn_13 : decode cX5_loadOn 13 = .ok (.aload_n 0, 1) := by decide +kernel
theorem dX5_loadOn_14 : decode cX5_loadOn 14 = .ok (.iload_n 2, 1) := by decide +kernel
theorem dX5_loadOn_15 : decode cX5_loadOn 15 = .ok (.invokevirtual 110, 3) := by decide +kernel
theorem dX5_loadOn_18 : decode cX5_loadOn 18 = .ok (.ifCond .eq 7, 3) := by decide +kernel
theorem dX5_loadOn_21 : decode cX5_loadOn 21 = .ok (.iconst 2, 1) := by decide +kernel
theorem dX5_loadOn_22 : decode cX5_loadOn 22 = .ok (.goto 4, 3) := by decide +kernel
theorem dX5_loadOn_25 : decode cX5_loadOn 25 = .ok (.iconst 0, 1) := by decide +kernel
theorem dX5_loadOn_26 : decode cX5_loadOn 26 = .ok (.invokevirtual 103, 3) := by decide +kernel
theorem dX5_loadOn_29 : decode cX5_loadOn 29 = .ok (.ifCond .eq 7, 3) := by decide +kernel
theorem dX5_loadOn_32 : decode cX5_loadOn 32 = .ok (.iconst 0, 1) := by decide +kernel
theorem dX5_loadOn_33 : decode cX5_loadOn 33 = .ok (.goto 9, 3) := by decide +kernel
theorem dX5_loadOn_36 : decode cX5_loadOn 36 = .ok (.aload_n 0, 1) := by decide +kernel
theorem dX5_loadOn_37 : decode cX5_loadOn 37 = .ok (.iload_n 1, 1) := by decide +kernel
theorem dX5_loadOn_38 : decode cX5_loadOn 38 = .ok (.iload_n 2, 1) := by decide +kernel
theorem dX5_loadOn_39 : decode cX5_loadOn 39 = .ok (.invokevirtual 137, 3) := by decide +kernel
theorem dX5_loadOn_42 : decode cX5_loadOn 42 = .ok (.ireturn, 1) := by decide +kernel
theorem dX5_may_0 : decode cX5_may 0 = .ok (.aload_n 0, 1) := by decide +kernel
theorem dX5_may_1 : decode cX5_may 1 = .ok (.getfield 13, 3) := by decide +kernel
theorem dX5_may_4 : decode cX5_may 4 = .ok (.iload_n 1, 1) := by decide +kernel
theorem dX5_may_5 : decode cX5_may 5 = .ok (.iaload, 1) := by decide +kernel
theorem dX5_may_6 : decode cX5_may 6 = .ok (.aload_n 0, 1) := by decide +kernel
theorem dX5_may_7 : decode cX5_may 7 = .ok (.getfield 50, 3) := by decide +kernel
theorem dX5_may_10 : decode cX5_may 10 = .ok (.aload_n 0, 1) := by decide +kernel
theorem dX5_may_11 : decode cX5_may 11 = .ok (.getfield 71, 3) := by decide +kernel
theorem dX5_may_14 : decode cX5_may 14 = .ok (.iaload, 1) := by decide +kernel
theorem dX5_may_15 : decode cX5_may 15 = .ok (.imul, 1) := by decide +kernel
theorem dX5_may_16 : decode cX5_may 16 = .ok (.bipush 100, 2) := by decide +kernel
theorem dX5_may_18 : decode cX5_may 18 = .ok (.idiv, 1) := by decide +kernel
theorem dX5_may_19 : decode cX5_may 19 = .ok (.ireturn, 1) := by decide +kernel
theorem dX5_mayBear_0 : decode cX5_mayBear 0 = .ok (.aload_n 0, 1) := by decide +kernel
theorem dX5_mayBear_1 : decode cX5_mayBear 1 = .ok (.aload_n 0, 1) := by decide +kernel
theorem dX5_mayBear_2 : decode cX5_mayBear 2 = .ok (.iload_n 1, 1) := by decide +kernel
theorem dX5_mayBear_3 : decode cX5_mayBear 3 = .ok (.invokevirtual 110, 3) := by decide +kernel
theorem dX5_mayBear_6 : decode cX5_mayBear 6 = .ok (.ifCond .eq 7, 3) := by decide +kernel
theorem dX5_mayBear_9 : decode cX5_mayBear 9 = .ok (.iconst 1, 1) := by decide +kernel
theorem dX5_mayBear_10 : decode cX5_mayBear 10 = .ok (.goto 15, 3) := by decide +kernel
theorem dX5_mayBear_13 : decode cX5_mayBear 13 = .ok (.aload_n 0, 1) := by decide +kernel
theorem dX5_mayBear_14 : decode cX5_mayBear 14 = .ok (.getfield 71, 3) := by decide +kernel
theorem dX5_mayBear_17 : decode cX5_mayBear 17 = .ok (.ifCond .ge 7, 3) := by decide +kernel
theorem dX5_mayBear_20 : decode cX5_mayBear 20 = .ok (.iconst 2, 1) := by decide +kernel
theorem dX5_mayBear_21 : decode cX5_mayBear 21 = .ok (.goto 4, 3) := by decide +kernel
theorem dX5_mayBear_24 : decode cX5_mayBear 24 = .ok (.iconst 0, 1) := by decide +kernel
theorem dX5_mayBear_25 : decode cX5_mayBear 25 = .ok (.invokevirtual 103, 3) := by decide +kernel
theorem dX5_mayBear_28 : decode cX5_mayBear 28 = .ok (.ifCond .eq 7, 3) := by decide +kernel
theorem dX5_mayBear_31 : decode cX5_mayBear 31 = .ok (.iconst 0, 1) := by decide +kernel
theorem dX5_mayBear_32 : decode cX5_mayBear 32 = .ok (.goto 8, 3) := by decide +kernel
theorem dX5_mayBear_35 : decode cX5_mayBear 35 = .ok (.aload_n 0, 1) := by decide +kernel
theorem dX5_mayBear_36 : decode cX5_mayBear 36 = .ok (.iload_n 1, 1) := by decide +kernel
theorem dX5_mayBear_37 : decode cX5_mayBear 37 = .ok (.invokevirtual 141, 3) := by decide +kernel
theorem dX5_mayBear_40 : decode cX5_mayBear 40 = .ok (.ireturn, 1) := by decide +kernel
theorem dX5_borne_0 : decode cX5_borne 0 = .ok (.iconst 0, 1) := by decide +kernel
theorem dX5_borne_1 : decode cX5_borne 1 = .ok (.istore_n 2, 1) := by decide +kernel
theorem dX5_borne_2 : decode cX5_borne 2 = .ok (.iconst 0, 1) := by decide +kernel
theorem dX5_borne_3 : decode cX5_borne 3 = .ok (.istore_n 3, 1) := by decide +kernel
theorem dX5_borne_4 : decode cX5_borne 4 = .ok (.iload_n 3, 1) := by decide +kernel
theorem dX5_borne_5 : decode cX5_borne 5 = .ok (.aload_n 0, 1) := by decide +kernel
theorem dX5_borne_6 : decode cX5_borne 6 = .ok (.getfield 100, 3) := by decide +kernel
theorem dX5_borne_9 : decode cX5_borne 9 = .ok (.if_icmp .ge 23, 3) := by decide +kernel
theorem dX5_borne_12 : decode cX5_borne 12 = .ok (.iload_n 2, 1) := by decide +kernel
theorem dX5_borne_13 : decode cX5_borne 13 = .ok (.aload_n 0, 1) := by decide +kernel
theorem dX5_borne_14 : decode cX5_borne 14 = .ok (.aload_n 0, 1) := by decide +kernel
theorem dX5_borne_15 : decode cX5_borne 15 = .ok (.getfield 75, 3) := by decide +kernel
theorem dX5_borne_18 : decode cX5_borne 18 = .ok (.iload_n 3, 1) := by decide +kernel
theorem dX5_borne_19 : decode cX5_borne 19 = .ok (.iaload, 1) := by decide +kernel
theorem dX5_borne_20 : decode cX5_borne 20 = .ok (.iload_n 1, 1) := by decide +kernel
theorem dX5_borne_21 : decode cX5_borne 21 = .ok (.invokevirtual 137, 3) := by decide +kernel
theorem dX5_borne_24 : decode cX5_borne 24 = .ok (.iadd, 1) := by decide +kernel
theorem dX5_borne_25 : decode cX5_borne 25 = .ok (.istore_n 2, 1) := by decide +kernel
theorem dX5_borne_26 : decode cX5_borne 26 = .ok (.iinc 3 1, 3) := by decide +kernel
theorem dX5_borne_29 : decode cX5_borne 29 = .ok (.goto (-25), 3) := by decide +kernel
theorem dX5_borne_32 : decode cX5_borne 32 = .ok (.iload_n 2, 1) := by decide +kernel
theorem dX5_borne_33 : decode cX5_borne 33 = .ok (.ireturn, 1) := by decide +kernel
theorem dX5_bears_0 : decode cX5_bears 0 = .ok (.aload_n 0, 1) := by decide +kernel
theorem dX5_bears_1 : decode cX5_bears 1 = .ok (.aload_n 0, 1) := by decide +kernel
theorem dX5_bears_2 : decode cX5_bears 2 = .ok (.iload_n 1, 1) := by decide +kernel
theorem dX5_bears_3 : decode cX5_bears 3 = .ok (.invokevirtual 110, 3) := by decide +kernel
theorem dX5_bears_6 : decode cX5_bears 6 = .ok (.ifCond .eq 7, 3) := by decide +kernel
theorem dX5_bears_9 : decode cX5_bears 9 = .ok (.iconst 1, 1) := by decide +kernel
theorem dX5_bears_10 : decode cX5_bears 10 = .ok (.goto 4, 3) := by decide +kernel
theorem dX5_bears_13 : decode cX5_bears 13 = .ok (.iconst 0, 1) := by decide +kernel
theorem dX5_bears_14 : decode cX5_bears 14 = .ok (.invokevirtual 103, 3) := by decide +kernel
theorem dX5_bears_17 : decode cX5_bears 17 = .ok (.ifCond .eq 7, 3) := by decide +kernel
theorem dX5_bears_20 : decode cX5_bears 20 = .ok (.iconst 0, 1) := by decide +kernel
theorem dX5_bears_21 : decode cX5_bears 21 = .ok (.goto 8, 3) := by decide +kernel
theorem dX5_bears_24 : decode cX5_bears 24 = .ok (.aload_n 0, 1) := by decide +kernel
theorem dX5_bears_25 : decode cX5_bears 25 = .ok (.iload_n 1, 1) := by decide +kernel
theorem dX5_bears_26 : decode cX5_bears 26 = .ok (.invokevirtual 144, 3) := by decide +kernel
theorem dX5_bears_29 : decode cX5_bears 29 = .ok (.ireturn, 1) := by decide +kernel
theorem dX5_endOf_0 : decode cX5_endOf 0 = .ok (.aload_n 0, 1) := by decide +kernel
theorem dX5_endOf_1 : decode cX5_endOf 1 = .ok (.getfield 78, 3) := by decide +kernel
theorem dX5_endOf_4 : decode cX5_endOf 4 = .ok (.iload_n 1, 1) := by decide +kernel
theorem dX5_endOf_5 : decode cX5_endOf 5 = .ok (.iaload, 1) := by decide +kernel
theorem dX5_endOf_6 : decode cX5_endOf 6 = .ok (.aload_n 0, 1) := by decide +kernel
theorem dX5_endOf_7 : decode cX5_endOf 7 = .ok (.getfield 19, 3) := by decide +kernel
theorem dX5_endOf_10 : decode cX5_endOf 10 = .ok (.aload_n 0, 1) := by decide +kernel
theorem dX5_endOf_11 : decode cX5_endOf 11 = .ok (.getfield 75, 3) := by decide +kernel
theorem dX5_endOf_14 : decode cX5_endOf 14 = .ok (.iload_n 1, 1) := by decide +kernel
theorem dX5_endOf_15 : decode cX5_endOf 15 = .ok (.iaload, 1) := by decide +kernel
theorem dX5_endOf_16 : decode cX5_endOf 16 = .ok (.iaload, 1) := by decide +kernel
theorem dX5_endOf_17 : decode cX5_endOf 17 = .ok (.iadd, 1) := by decide +kernel
theorem dX5_endOf_18 : decode cX5_endOf 18 = .ok (.ireturn, 1) := by decide +kernel
theorem dX5_lastEnd_0 : decode cX5_lastEnd 0 = .ok (.aload_n 0, 1) := by decide +kernel
theorem dX5_lastEnd_1 : decode cX5_lastEnd 1 = .ok (.getfield 100, 3) := by decide +kernel
theorem dX5_lastEnd_4 : decode cX5_lastEnd 4 = .ok (.ifCond .ne 7, 3) := by decide +kernel
theorem dX5_lastEnd_7 : decode cX5_lastEnd 7 = .ok (.iconst 0, 1) := by decide +kernel
theorem dX5_lastEnd_8 : decode cX5_lastEnd 8 = .ok (.goto 13, 3) := by decide +kernel
theorem dX5_lastEnd_11 : decode cX5_lastEnd 11 = .ok (.aload_n 0, 1) := by decide +kernel
theorem dX5_lastEnd_12 : decode cX5_lastEnd 12 = .ok (.aload_n 0, 1) := by decide +kernel
theorem dX5_lastEnd_13 : decode cX5_lastEnd 13 = .ok (.getfield 100, 3) := by decide +kernel
theorem dX5_lastEnd_16 : decode cX5_lastEnd 16 = .ok (.iconst 1, 1) := by decide +kernel
theorem dX5_lastEnd_17 : decode cX5_lastEnd 17 = .ok (.isub, 1) := by decide +kernel
theorem dX5_lastEnd_18 : decode cX5_lastEnd 18 = .ok (.invokevirtual 147, 3) := by decide +kernel
theorem dX5_lastEnd_21 : decode cX5_lastEnd 21 = .ok (.ireturn, 1) := by decide +kernel
theorem dX5_lastWork_0 : decode cX5_lastWork 0 = .ok (.aload_n 0, 1) := by decide +kernel
theorem dX5_lastWork_1 : decode cX5_lastWork 1 = .ok (.getfield 100, 3) := by decide +kernel
theorem dX5_lastWork_4 : decode cX5_lastWork 4 = .ok (.ifCond .ne 7, 3) := by decide +kernel
theorem dX5_lastWork_7 : decode cX5_lastWork 7 = .ok (.iconst 0, 1) := by decide +kernel
theorem dX5_lastWork_8 : decode cX5_lastWork 8 = .ok (.goto 14, 3) := by decide +kernel
theorem dX5_lastWork_11 : decode cX5_lastWork 11 = .ok (.aload_n 0, 1) := by decide +kernel
theorem dX5_lastWork_12 : decode cX5_lastWork 12 = .ok (.getfield 81, 3) := by decide +kernel
theorem dX5_lastWork_15 : decode cX5_lastWork 15 = .ok (.aload_n 0, 1) := by decide +kernel
theorem dX5_lastWork_16 : decode cX5_lastWork 16 = .ok (.getfield 100, 3) := by decide +kernel
theorem dX5_lastWork_19 : decode cX5_lastWork 19 = .ok (.iconst 1, 1) := by decide +kernel
theorem dX5_lastWork_20 : decode cX5_lastWork 20 = .ok (.isub, 1) := by decide +kernel
theorem dX5_lastWork_21 : decode cX5_lastWork 21 = .ok (.iaload, 1) := by decide +kernel
theorem dX5_lastWork_22 : decode cX5_lastWork 22 = .ok (.ireturn, 1) := by decide +kernel
theorem dX5_isAnew_0 : decode cX5_isAnew 0 = .ok (.aload_n 0, 1) := by decide +kernel
theorem dX5_isAnew_1 : decode cX5_isAnew 1 = .ok (.getfield 47, 3) := by decide +kernel
theorem dX5_isAnew_4 : decode cX5_isAnew 4 = .ok (.aload_n 0, 1) := by decide +kernel
theorem dX5_isAnew_5 : decode cX5_isAnew 5 = .ok (.getfield 25, 3) := by decide +kernel
theorem dX5_isAnew_8 : decode cX5_isAnew 8 = .ok (.iload_n 1, 1) := by decide +kernel
theorem dX5_isAnew_9 : decode cX5_isAnew 9 = .ok (.iaload, 1) := by decide +kernel
theorem dX5_isAnew_10 : decode cX5_isAnew 10 = .ok (.iaload, 1) := by decide +kernel
theorem dX5_isAnew_11 : decode cX5_isAnew 11 = .ok (.aload_n 0, 1) := by decide +kernel
theorem dX5_isAnew_12 : decode cX5_isAnew 12 = .ok (.invokevirtual 150, 3) := by decide +kernel
theorem dX5_isAnew_15 : decode cX5_isAnew 15 = .ok (.isub, 1) := by decide +kernel
theorem dX5_isAnew_16 : decode cX5_isAnew 16 = .ok (.aload_n 0, 1) := by decide +kernel
theorem dX5_isAnew_17 : decode cX5_isAnew 17 = .ok (.getfield 56, 3) := by decide +kernel
theorem dX5_isAnew_20 : decode cX5_isAnew 20 = .ok (.aload_n 0, 1) := by decide +kernel
theorem dX5_isAnew_21 : decode cX5_isAnew 21 = .ok (.getfield 71, 3) := by decide +kernel
theorem dX5_isAnew_24 : decode cX5_isAnew 24 = .ok (.iaload, 1) := by decide +kernel
theorem dX5_isAnew_25 : decode cX5_isAnew 25 = .ok (.if_icmp .ge 26, 3) := by decide +kernel
theorem dX5_isAnew_28 : decode cX5_isAnew 28 = .ok (.aload_n 0, 1) := by decide +kernel
theorem dX5_isAnew_29 : decode cX5_isAnew 29 = .ok (.invokevirtual 154, 3) := by decide +kernel
theorem dX5_isAnew_32 : decode cX5_isAnew 32 = .ok (.aload_n 0, 1) := by decide +kernel
theorem dX5_isAnew_33 : decode cX5_isAnew 33 = .ok (.getfield 19, 3) := by decide +kernel
theorem dX5_isAnew_36 : decode cX5_isAnew 36 = .ok (.iload_n 1, 1) := by decide +kernel
theorem dX5_isAnew_37 : decode cX5_isAnew 37 = .ok (.iaload, 1) := by decide +kernel
theorem dX5_isAnew_38 : decode cX5_isAnew 38 = .ok (.iadd, 1) := by decide +kernel
theorem dX5_isAnew_39 : decode cX5_isAnew 39 = .ok (.aload_n 0, 1) := by decide +kernel
theorem dX5_isAnew_40 : decode cX5_isAnew 40 = .ok (.getfield 53, 3) := by decide +kernel
theorem dX5_isAnew_43 : decode cX5_isAnew 43 = .ok (.aload_n 0, 1) := by decide +kernel
theorem dX5_isAnew_44 : decode cX5_isAnew 44 = .ok (.getfield 71, 3) := by decide +kernel
theorem dX5_isAnew_47 : decode cX5_isAnew 47 = .ok (.iaload, 1) := by decide +kernel
theorem dX5_isAnew_48 : decode cX5_isAnew 48 = .ok (.if_icmp .le 7, 3) := by decide +kernel
theorem dX5_isAnew_51 : decode cX5_isAnew 51 = .ok (.iconst 1, 1) := by decide +kernel
theorem dX5_isAnew_52 : decode cX5_isAnew 52 = .ok (.goto 4, 3) := by decide +kernel
theorem dX5_isAnew_55 : decode cX5_isAnew 55 = .ok (.iconst 0, 1) := by decide +kernel
theorem dX5_isAnew_56 : decode cX5_isAnew 56 = .ok (.ireturn, 1) := by decide +kernel
theorem dX5_beginNext_0 : decode cX5_beginNext 0 = .ok (.aload_n 0, 1) := by decide +kernel
theorem dX5_beginNext_1 : decode cX5_beginNext 1 = .ok (.getfield 47, 3) := by decide +kernel
theorem dX5_beginNext_4 : decode cX5_beginNext 4 = .ok (.aload_n 0, 1) := by decide +kernel
theorem dX5_beginNext_5 : decode cX5_beginNext 5 = .ok (.getfield 25, 3) := by decide +kernel
theorem dX5_beginNext_8 : decode cX5_beginNext 8 = .ok (.iload_n 1, 1) := by decide +kernel
theorem dX5_beginNext_9 : decode cX5_beginNext 9 = .ok (.iaload, 1) := by decide +kernel
theorem dX5_beginNext_10 : decode cX5_beginNext 10 = .ok (.iaload, 1) := by decide +kernel
theorem dX5_beginNext_11 : decode cX5_beginNext 11 = .ok (.istore_n 2, 1) := by decide +kernel
theorem dX5_beginNext_12 : decode cX5_beginNext 12 = .ok (.aload_n 0, 1) := by decide +kernel
theorem dX5_beginNext_13 : decode cX5_beginNext 13 = .ok (.invokevirtual 150, 3) := by decide +kernel
theorem dX5_beginNext_16 : decode cX5_beginNext 16 = .ok (.istore_n 3, 1) := by decide +kernel
theorem dX5_beginNext_17 : decode cX5_beginNext 17 = .ok (.iload_n 2, 1) := by decide +kernel
theorem dX5_beginNext_18 : decode cX5_beginNext 18 = .ok (.iload_n 3, 1) := by decide +kernel
theorem dX5_beginNext_19 : decode cX5_beginNext 19 = .ok (.isub, 1) := by decide +kernel
theorem dX5_beginNext_20 : decode cX5_beginNext 20 = .ok (.aload_n 0, 1) := by decide +kernel
theorem dX5_beginNext_21 : decode cX5_beginNext 21 = .ok (.getfield 56, 3) := by decide +kernel
theorem dX5_beginNext_24 : decode cX5_beginNext 24 = .ok (.aload_n 0, 1) := by decide +kernel
theorem dX5_beginNext_25 : decode cX5_beginNext 25 = .ok (.getfield 71, 3) := by decide +kernel
theorem dX5_beginNext_28 : decode cX5_beginNext 28 = .ok (.iaload, 1) := by decide +kernel
theorem dX5_beginNext_29 : decode cX5_beginNext 29 = .ok (.if_icmp .lt 5, 3) := by decide +kernel
theorem dX5_beginNext_32 : decode cX5_beginNext 32 = .ok (.iload_n 2, 1) := by decide +kernel
theorem dX5_beginNext_33 : decode cX5_beginNext 33 = .ok (.ireturn, 1) := by decide +kernel
theorem dX5_beginNext_34 : decode cX5_beginNext 34 = .ok (.iload_n 2, 1) := by decide +kernel
theorem dX5_beginNext_35 : decode cX5_beginNext 35 = .ok (.iload_n 3, 1) := by decide +kernel
theorem dX5_beginNext_36 : decode cX5_beginNext 36 = .ok (.if_icmp .le 7, 3) := by decide +kernel
theorem dX5_beginNext_39 : decode cX5_beginNext 39 = .ok (.iload_n 2, 1) := by decide +kernel
theorem dX5_beginNext_40 : decode cX5_beginNext 40 = .ok (.goto 4, 3) := by decide +kernel
theorem dX5_beginNext_43 : decode cX5_beginNext 43 = .ok (.iload_n 3, 1) := by decide +kernel
theorem dX5_beginNext_44 : decode cX5_beginNext 44 = .ok (.aload_n 0, 1) := by decide +kernel
theorem dX5_beginNext_45 : decode cX5_beginNext 45 = .ok (.iload_n 1, 1) := by decide +kernel
theorem dX5_beginNext_46 : decode cX5_beginNext 46 = .ok (.invokevirtual 157, 3) := by decide +kernel
theorem dX5_beginNext_49 : decode cX5_beginNext 49 = .ok (.ifCond .eq 15, 3) := by decide +kernel
theorem dX5_beginNext_52 : decode cX5_beginNext 52 = .ok (.aload_n 0, 1) := by decide +kernel
theorem dX5_beginNext_53 : decode cX5_beginNext 53 = .ok (.getfield 56, 3) := by decide +kernel
theorem dX5_beginNext_56 : decode cX5_beginNext 56 = .ok (.aload_n 0, 1) := by decide +kernel
theorem dX5_beginNext_57 : decode cX5_beginNext 57 = .ok (.getfield 71, 3) := by decide +kernel
theorem dX5_beginNext_60 : decode cX5_beginNext 60 = .ok (.iaload, 1) := by decide +kernel
theorem dX5_beginNext_61 : decode cX5_beginNext 61 = .ok (.goto 4, 3) := by decide +kernel
theorem dX5_beginNext_64 : decode cX5_beginNext 64 = .ok (.iconst 0, 1) := by decide +kernel
theorem dX5_beginNext_65 : decode cX5_beginNext 65 = .ok (.iadd, 1) := by decide +kernel
theorem dX5_beginNext_66 : decode cX5_beginNext 66 = .ok (.ireturn, 1) := by decide +kernel
theorem dX5_isTooMuch_0 : decode cX5_isTooMuch 0 = .ok (.aload_n 0, 1) := by decide +kernel
theorem dX5_isTooMuch_1 : decode cX5_isTooMuch 1 = .ok (.aload_n 0, 1) := by decide +kernel
theorem dX5_isTooMuch_2 : decode cX5_isTooMuch 2 = .ok (.getfield 32, 3) := by decide +kernel
theorem dX5_isTooMuch_5 : decode cX5_isTooMuch 5 = .ok (.iload_n 1, 1) := by decide +kernel
theorem dX5_isTooMuch_6 : decode cX5_isTooMuch 6 = .ok (.iaload, 1) := by decide +kernel
theorem dX5_isTooMuch_7 : decode cX5_isTooMuch 7 = .ok (.invokevirtual 144, 3) := by decide +kernel
theorem dX5_isTooMuch_10 : decode cX5_isTooMuch 10 = .ok (.aload_n 0, 1) := by decide +kernel
theorem dX5_isTooMuch_11 : decode cX5_isTooMuch 11 = .ok (.iload_n 1, 1) := by decide +kernel
theorem dX5_isTooMuch_12 : decode cX5_isTooMuch 12 = .ok (.aload_n 0, 1) := by decide +kernel
theorem dX5_isTooMuch_13 : decode cX5_isTooMuch 13 = .ok (.getfield 32, 3) := by decide +kernel
theorem dX5_isTooMuch_16 : decode cX5_isTooMuch 16 = .ok (.iload_n 1, 1) := by decide +kernel
theorem dX5_isTooMuch_17 : decode cX5_isTooMuch 17 = .ok (.iaload, 1) := by decide +kernel
theorem dX5_isTooMuch_18 : decode cX5_isTooMuch 18 = .ok (.invokevirtual 137, 3) := by decide +kernel
theorem dX5_isTooMuch_21 : decode cX5_isTooMuch 21 = .ok (.iadd, 1) := by decide +kernel
theorem dX5_isTooMuch_22 : decode cX5_isTooMuch 22 = .ok (.aload_n 0, 1) := by decide +kernel
theorem dX5_isTooMuch_23 : decode cX5_isTooMuch 23 = .ok (.aload_n 0, 1) := by decide +kernel
theorem dX5_isTooMuch_24 : decode cX5_isTooMuch 24 = .ok (.getfield 32, 3) := by decide +kernel
theorem dX5_isTooMuch_27 : decode cX5_isTooMuch 27 = .ok (.iload_n 1, 1) := by decide +kernel
theorem dX5_isTooMuch_28 : decode cX5_isTooMuch 28 = .ok (.iaload, 1) := by decide +kernel
theorem dX5_isTooMuch_29 : decode cX5_isTooMuch 29 = .ok (.invokevirtual 141, 3) := by decide +kernel
theorem dX5_isTooMuch_32 : decode cX5_isTooMuch 32 = .ok (.if_icmp .gt 38, 3) := by decide +kernel
theorem dX5_isTooMuch_35 : decode cX5_isTooMuch 35 = .ok (.aload_n 0, 1) := by decide +kernel
theorem dX5_isTooMuch_36 : decode cX5_isTooMuch 36 = .ok (.aload_n 0, 1) := by decide +kernel
theorem dX5_isTooMuch_37 : decode cX5_isTooMuch 37 = .ok (.getfield 35, 3) := by decide +kernel
theorem dX5_isTooMuch_40 : decode cX5_isTooMuch 40 = .ok (.iload_n 1, 1) := by decide +kernel
theorem dX5_isTooMuch_41 : decode cX5_isTooMuch 41 = .ok (.iaload, 1) := by decide +kernel
theorem dX5_isTooMuch_42 : decode cX5_isTooMuch 42 = .ok (.invokevirtual 144, 3) := by decide +kernel
theorem dX5_isTooMuch_45 : decode cX5_isTooMuch 45 = .ok (.aload_n 0, 1) := by decide +kernel
theorem dX5_isTooMuch_46 : decode cX5_isTooMuch 46 = .ok (.iload_n 1, 1) := by decide +kernel
theorem dX5_isTooMuch_47 : decode cX5_isTooMuch 47 = .ok (.aload_n 0, 1) := by decide +kernel
theorem dX5_isTooMuch_48 : decode cX5_isTooMuch 48 = .ok (.getfield 35, 3) := by decide +kernel
theorem dX5_isTooMuch_51 : decode cX5_isTooMuch 51 = .ok (.iload_n 1, 1) := by decide +kernel
theorem dX5_isTooMuch_52 : decode cX5_isTooMuch 52 = .ok (.iaload, 1) := by decide +kernel
theorem dX5_isTooMuch_53 : decode cX5_isTooMuch 53 = .ok (.invokevirtual 137, 3) := by decide +kernel
theorem dX5_isTooMuch_56 : decode cX5_isTooMuch 56 = .ok (.iadd, 1) := by decide +kernel
theorem dX5_isTooMuch_57 : decode cX5_isTooMuch 57 = .ok (.aload_n 0, 1) := by decide +kernel
theorem dX5_isTooMuch_58 : decode cX5_isTooMuch 58 = .ok (.aload_n 0, 1) := by decide +kernel
theorem dX5_isTooMuch_59 : decode cX5_isTooMuch 59 = .ok (.getfield 35, 3) := by decide +kernel
theorem dX5_isTooMuch_62 : decode cX5_isTooMuch 62 = .ok (.iload_n 1, 1) := by decide +kernel
theorem dX5_isTooMuch_63 : decode cX5_isTooMuch 63 = .ok (.iaload, 1) := by decide +kernel
theorem dX5_isTooMuch_64 : decode cX5_isTooMuch 64 = .ok (.invokevirtual 141, 3) := by decide +kernel
theorem dX5_isTooMuch_67 : decode cX5_isTooMuch 67 = .ok (.if_icmp .le 7, 3) := by decide +kernel
theorem dX5_isTooMuch_70 : decode cX5_isTooMuch 70 = .ok (.iconst 1, 1) := by decide +kernel
theorem dX5_isTooMuch_71 : decode cX5_isTooMuch 71 = .ok (.goto 4, 3) := by decide +kernel
theorem dX5_isTooMuch_74 : decode cX5_isTooMuch 74 = .ok (.iconst 0, 1) := by decide +kernel
theorem dX5_isTooMuch_75 : decode cX5_isTooMuch 75 = .ok (.ireturn, 1) := by decide +kernel
theorem dX5_lacks_0 : decode cX5_lacks 0 = .ok (.iconst 0, 1) := by decide +kernel
theorem dX5_lacks_1 : decode cX5_lacks 1 = .ok (.istore_n 2, 1) := by decide +kernel
theorem dX5_lacks_2 : decode cX5_lacks 2 = .ok (.iload_n 2, 1) := by decide +kernel
theorem dX5_lacks_3 : decode cX5_lacks 3 = .ok (.aload_n 0, 1) := by decide +kernel
theorem dX5_lacks_4 : decode cX5_lacks 4 = .ok (.getfield 97, 3) := by decide +kernel
theorem dX5_lacks_7 : decode cX5_lacks 7 = .ok (.if_icmp .ge 33, 3) := by decide +kernel
theorem dX5_lacks_10 : decode cX5_lacks 10 = .ok (.aload_n 0, 1) := by decide +kernel
theorem dX5_lacks_11 : decode cX5_lacks 11 = .ok (.getfield 44, 3) := by decide +kernel
theorem dX5_lacks_14 : decode cX5_lacks 14 = .ok (.iload_n 1, 1) := by decide +kernel
theorem dX5_lacks_15 : decode cX5_lacks 15 = .ok (.iaload, 1) := by decide +kernel
theorem dX5_lacks_16 : decode cX5_lacks 16 = .ok (.iload_n 2, 1) := by decide +kernel
theorem dX5_lacks_17 : decode cX5_lacks 17 = .ok (.ishr, 1) := by decide +kernel
theorem dX5_lacks_18 : decode cX5_lacks 18 = .ok (.iconst 1, 1) := by decide +kernel
theorem dX5_lacks_19 : decode cX5_lacks 19 = .ok (.iand, 1) := by decide +kernel
theorem dX5_lacks_20 : decode cX5_lacks 20 = .ok (.iconst 1, 1) := by decide +kernel
theorem dX5_lacks_21 : decode cX5_lacks 21 = .ok (.if_icmp .ne 13, 3) := by decide +kernel
theorem dX5_lacks_24 : decode cX5_lacks 24 = .ok (.aload_n 0, 1) := by decide +kernel
theorem dX5_lacks_25 : decode cX5_lacks 25 = .ok (.iload_n 2, 1) := by decide +kernel
theorem dX5_lacks_26 : decode cX5_lacks 26 = .ok (.invokevirtual 117, 3) := by decide +kernel
theorem dX5_lacks_29 : decode cX5_lacks 29 = .ok (.ifCond .ge 5, 3) := by decide +kernel
theorem dX5_lacks_32 : decode cX5_lacks 32 = .ok (.iconst 1, 1) := by decide +kernel
theorem dX5_lacks_33 : decode cX5_lacks 33 = .ok (.ireturn, 1) := by decide +kernel
theorem dX5_lacks_34 : decode cX5_lacks 34 = .ok (.iinc 2 1, 3) := by decide +kernel
theorem dX5_lacks_37 : decode cX5_lacks 37 = .ok (.goto (-35), 3) := by decide +kernel
theorem dX5_lacks_40 : decode cX5_lacks 40 = .ok (.iconst 0, 1) := by decide +kernel
theorem dX5_lacks_41 : decode cX5_lacks 41 = .ok (.ireturn, 1) := by decide +kernel
theorem dX5_why_0 : decode cX5_why 0 = .ok (.aload_n 0, 1) := by decide +kernel
theorem dX5_why_1 : decode cX5_why 1 = .ok (.getfield 71, 3) := by decide +kernel
theorem dX5_why_4 : decode cX5_why 4 = .ok (.ifCond .ge 6, 3) := by decide +kernel
theorem dX5_why_7 : decode cX5_why 7 = .ok (.bipush 116, 2) := by decide +kernel
theorem dX5_why_9 : decode cX5_why 9 = .ok (.ireturn, 1) := by decide +kernel
theorem dX5_why_10 : decode cX5_why 10 = .ok (.aload_n 0, 1) := by decide +kernel
theorem dX5_why_11 : decode cX5_why 11 = .ok (.iload_n 1, 1) := by decide +kernel
theorem dX5_why_12 : decode cX5_why 12 = .ok (.invokevirtual 117, 3) := by decide +kernel
theorem dX5_why_15 : decode cX5_why 15 = .ok (.ifCond .lt 6, 3) := by decide +kernel
theorem dX5_why_18 : decode cX5_why 18 = .ok (.bipush 104, 2) := by decide +kernel
theorem dX5_why_20 : decode cX5_why 20 = .ok (.ireturn, 1) := by decide +kernel
theorem dX5_why_21 : decode cX5_why 21 = .ok (.aload_n 0, 1) := by decide +kernel
theorem dX5_why_22 : decode cX5_why 22 = .ok (.getfield 28, 3) := by decide +kernel
theorem dX5_why_25 : decode cX5_why 25 = .ok (.iload_n 1, 1) := by decide +kernel
theorem dX5_why_26 : decode cX5_why 26 = .ok (.baload, 1) := by decide +kernel
theorem dX5_why_27 : decode cX5_why 27 = .ok (.ifCond .ne 6, 3) := by decide +kernel
theorem dX5_why_30 : decode cX5_why 30 = .ok (.bipush 102, 2) := by decide +kernel
theorem dX5_why_32 : decode cX5_why 32 = .ok (.ireturn, 1) := by decide +kernel
theorem dX5_why_33 : decode cX5_why 33 = .ok (.aload_n 0, 1) := by decide +kernel
theorem dX5_why_34 : decode cX5_why 34 = .ok (.iload_n 1, 1) := by decide +kernel
theorem dX5_why_35 : decode cX5_why 35 = .ok (.invokevirtual 160, 3) := by decide +kernel
theorem dX5_why_38 : decode cX5_why 38 = .ok (.ifCond .eq 6, 3) := by decide +kernel
theorem dX5_why_41 : decode cX5_why 41 = .ok (.bipush 110, 2) := by decide +kernel
theorem dX5_why_43 : decode cX5_why 43 = .ok (.ireturn, 1) := by decide +kernel
theorem dX5_why_44 : decode cX5_why 44 = .ok (.aload_n 0, 1) := by decide +kernel
theorem dX5_why_45 : decode cX5_why 45 = .ok (.getfield 19, 3) := by decide +kernel
theorem dX5_why_48 : decode cX5_why 48 = .ok (.iload_n 1, 1) := by decide +kernel
theorem dX5_why_49 : decode cX5_why 49 = .ok (.iaload, 1) := by decide +kernel
theorem dX5_why_50 : decode cX5_why 50 = .ok (.aload_n 0, 1) := by decide +kernel
theorem dX5_why_51 : decode cX5_why 51 = .ok (.getfield 53, 3) := by decide +kernel
theorem dX5_why_54 : decode cX5_why 54 = .ok (.aload_n 0, 1) := by decide +kernel
theorem dX5_why_55 : decode cX5_why 55 = .ok (.getfield 71, 3) := by decide +kernel
theorem dX5_why_58 : decode cX5_why 58 = .ok (.iaload, 1) := by decide +kernel
theorem dX5_why_59 : decode cX5_why 59 = .ok (.if_icmp .le 6, 3) := by decide +kernel
theorem dX5_why_62 : decode cX5_why 62 = .ok (.bipush 115, 2) := by decide +kernel
theorem dX5_why_64 : decode cX5_why 64 = .ok (.ireturn, 1) := by decide +kernel
theorem dX5_why_65 : decode cX5_why 65 = .ok (.aload_n 0, 1) := by decide +kernel
theorem dX5_why_66 : decode cX5_why 66 = .ok (.iload_n 1, 1) := by decide +kernel
theorem dX5_why_67 : decode cX5_why 67 = .ok (.invokevirtual 163, 3) := by decide +kernel
theorem dX5_why_70 : decode cX5_why 70 = .ok (.ifCond .eq 6, 3) := by decide +kernel
theorem dX5_why_73 : decode cX5_why 73 = .ok (.bipush 108, 2) := by decide +kernel
theorem dX5_why_75 : decode cX5_why 75 = .ok (.ireturn, 1) := by decide +kernel
theorem dX5_why_76 : decode cX5_why 76 = .ok (.aload_n 0, 1) := by decide +kernel
theorem dX5_why_77 : decode cX5_why 77 = .ok (.iload_n 1, 1) := by decide +kernel
theorem dX5_why_78 : decode cX5_why 78 = .ok (.invokevirtual 166, 3) := by decide +kernel
theorem dX5_why_81 : decode cX5_why 81 = .ok (.aload_n 0, 1) := by decide +kernel
theorem dX5_why_82 : decode cX5_why 82 = .ok (.getfield 19, 3) := by decide +kernel
theorem dX5_why_85 : decode cX5_why 85 = .ok (.iload_n 1, 1) := by decide +kernel
theorem dX5_why_86 : decode cX5_why 86 = .ok (.iaload, 1) := by decide +kernel
theorem dX5_why_87 : decode cX5_why 87 = .ok (.iadd, 1) := by decide +kernel
theorem dX5_why_88 : decode cX5_why 88 = .ok (.aload_n 0, 1) := by decide +kernel
theorem dX5_why_89 : decode cX5_why 89 = .ok (.getfield 59, 3) := by decide +kernel
theorem dX5_why_92 : decode cX5_why 92 = .ok (.aload_n 0, 1) := by decide +kernel
theorem dX5_why_93 : decode cX5_why 93 = .ok (.getfield 71, 3) := by decide +kernel
theorem dX5_why_96 : decode cX5_why 96 = .ok (.iaload, 1) := by decide +kernel
theorem dX5_why_97 : decode cX5_why 97 = .ok (.if_icmp .le 8, 3) := by decide +kernel
theorem dX5_why_100 : decode cX5_why 100 = .ok (.bipush 99, 2) := by decide +kernel
theorem dX5_why_102 : decode cX5_why 102 = .ok (.goto 5, 3) := by decide +kernel
theorem dX5_why_105 : decode cX5_why 105 = .ok (.bipush 45, 2) := by decide +kernel
theorem dX5_why_107 : decode cX5_why 107 = .ok (.ireturn, 1) := by decide +kernel
theorem dX5_reason_0 : decode cX5_reason 0 = .ok (.aload_n 0, 1) := by decide +kernel
theorem dX5_reason_1 : decode cX5_reason 1 = .ok (.aload_n 0, 1) := by decide +kernel
theorem dX5_reason_2 : decode cX5_reason 2 = .ok (.iload_n 1, 1) := by decide +kernel
theorem dX5_reason_3 : decode cX5_reason 3 = .ok (.invokevirtual 107, 3) := by decide +kernel
theorem dX5_reason_6 : decode cX5_reason 6 = .ok (.ifCond .eq 7, 3) := by decide +kernel
theorem dX5_reason_9 : decode cX5_reason 9 = .ok (.iconst 1, 1) := by decide +kernel
theorem dX5_reason_10 : decode cX5_reason 10 = .ok (.goto 4, 3) := by decide +kernel
theorem dX5_reason_13 : decode cX5_reason 13 = .ok (.iconst 0, 1) := by decide +kernel
theorem dX5_reason_14 : decode cX5_reason 14 = .ok (.invokevirtual 103, 3) := by decide +kernel
theorem dX5_reason_17 : decode cX5_reason 17 = .ok (.ifCond .eq 8, 3) := by decide +kernel
theorem dX5_reason_20 : decode cX5_reason 20 = .ok (.bipush 97, 2) := by decide +kernel
theorem dX5_reason_22 : decode cX5_reason 22 = .ok (.goto 8, 3) := by decide +kernel
theorem dX5_reason_25 : decode cX5_reason 25 = .ok (.aload_n 0, 1) := by decide +kernel
theorem dX5_reason_26 : decode cX5_reason 26 = .ok (.iload_n 1, 1) := by decide +kernel
theorem dX5_reason_27 : decode cX5_reason 27 = .ok (.invokevirtual 169, 3) := by decide +kernel
theorem dX5_reason_30 : decode cX5_reason 30 = .ok (.ireturn, 1) := by decide +kernel
theorem dX5_hangs_0 : decode cX5_hangs 0 = .ok (.aload_n 0, 1) := by decide +kernel
theorem dX5_hangs_1 : decode cX5_hangs 1 = .ok (.iload_n 1, 1) := by decide +kernel
theorem dX5_hangs_2 : decode cX5_hangs 2 = .ok (.invokevirtual 166, 3) := by decide +kernel
theorem dX5_hangs_5 : decode cX5_hangs 5 = .ok (.istore_n 2, 1) := by decide +kernel
theorem dX5_hangs_6 : decode cX5_hangs 6 = .ok (.aload_n 0, 1) := by decide +kernel
theorem dX5_hangs_7 : decode cX5_hangs 7 = .ok (.getfield 81, 3) := by decide +kernel
theorem dX5_hangs_10 : decode cX5_hangs 10 = .ok (.aload_n 0, 1) := by decide +kernel
theorem dX5_hangs_11 : decode cX5_hangs 11 = .ok (.getfield 100, 3) := by decide +kernel
theorem dX5_hangs_14 : decode cX5_hangs 14 = .ok (.aload_n 0, 1) := by decide +kernel
theorem dX5_hangs_15 : decode cX5_hangs 15 = .ok (.iload_n 1, 1) := by decide +kernel
theorem dX5_hangs_16 : decode cX5_hangs 16 = .ok (.invokevirtual 157, 3) := by decide +kernel
theorem dX5_hangs_19 : decode cX5_hangs 19 = .ok (.ifCond .eq 7, 3) := by decide +kernel
theorem dX5_hangs_22 : decode cX5_hangs 22 = .ok (.iconst 0, 1) := by decide +kernel
theorem dX5_hangs_23 : decode cX5_hangs 23 = .ok (.goto 7, 3) := by decide +kernel
theorem dX5_hangs_26 : decode cX5_hangs 26 = .ok (.aload_n 0, 1) := by decide +kernel
theorem dX5_hangs_27 : decode cX5_hangs 27 = .ok (.invokevirtual 154, 3) := by decide +kernel
theorem dX5_hangs_30 : decode cX5_hangs 30 = .ok (.aload_n 0, 1) := by decide +kernel
theorem dX5_hangs_31 : decode cX5_hangs 31 = .ok (.getfield 19, 3) := by decide +kernel
theorem dX5_hangs_34 : decode cX5_hangs 34 = .ok (.iload_n 1, 1) := by decide +kernel
theorem dX5_hangs_35 : decode cX5_hangs 35 = .ok (.iaload, 1) := by decide +kernel
theorem dX5_hangs_36 : decode cX5_hangs 36 = .ok (.iadd, 1) := by decide +kernel
theorem dX5_hangs_37 : decode cX5_hangs 37 = .ok (.iastore, 1) := by decide +kernel
theorem dX5_hangs_38 : decode cX5_hangs 38 = .ok (.aload_n 0, 1) := by decide +kernel
theorem dX5_hangs_39 : decode cX5_hangs 39 = .ok (.getfield 78, 3) := by decide +kernel
theorem dX5_hangs_42 : decode cX5_hangs 42 = .ok (.aload_n 0, 1) := by decide +kernel
theorem dX5_hangs_43 : decode cX5_hangs 43 = .ok (.getfield 100, 3) := by decide +kernel
theorem dX5_hangs_46 : decode cX5_hangs 46 = .ok (.iload_n 2, 1) := by decide +kernel
theorem dX5_hangs_47 : decode cX5_hangs 47 = .ok (.iastore, 1) := by decide +kernel
theorem dX5_hangs_48 : decode cX5_hangs 48 = .ok (.aload_n 0, 1) := by decide +kernel
theorem dX5_hangs_49 : decode cX5_hangs 49 = .ok (.getfield 75, 3) := by decide +kernel
theorem dX5_hangs_52 : decode cX5_hangs 52 = .ok (.aload_n 0, 1) := by decide +kernel
theorem dX5_hangs_53 : decode cX5_hangs 53 = .ok (.getfield 100, 3) := by decide +kernel
theorem dX5_hangs_56 : decode cX5_hangs 56 = .ok (.iload_n 1, 1) := by decide +kernel
theorem dX5_hangs_57 : decode cX5_hangs 57 = .ok (.iastore, 1) := by decide +kernel
theorem dX5_hangs_58 : decode cX5_hangs 58 = .ok (.aload_n 0, 1) := by decide +kernel
theorem dX5_hangs_59 : decode cX5_hangs 59 = .ok (.dup, 1) := by decide +kernel
theorem dX5_hangs_60 : decode cX5_hangs 60 = .ok (.getfield 100, 3) := by decide +kernel
theorem dX5_hangs_63 : decode cX5_hangs 63 = .ok (.iconst 1, 1) := by decide +kernel
theorem dX5_hangs_64 : decode cX5_hangs 64 = .ok (.iadd, 1) := by decide +kernel
theorem dX5_hangs_65 : decode cX5_hangs 65 = .ok (.putfield 100, 3) := by decide +kernel
theorem dX5_hangs_68 : decode cX5_hangs 68 = .ok (.return_, 1) := by decide +kernel
theorem dX5_hang_0 : decode cX5_hang 0 = .ok (.aload_n 0, 1) := by decide +kernel
theorem dX5_hang_1 : decode cX5_hang 1 = .ok (.aload_n 0, 1) := by decide +kernel
theorem dX5_hang_2 : decode cX5_hang 2 = .ok (.iload_n 1, 1) := by decide +kernel
theorem dX5_hang_3 : decode cX5_hang 3 = .ok (.invokevirtual 107, 3) := by decide +kernel
theorem dX5_hang_6 : decode cX5_hang 6 = .ok (.ifCond .eq 7, 3) := by decide +kernel
theorem dX5_hang_9 : decode cX5_hang 9 = .ok (.iconst 1, 1) := by decide +kernel
theorem dX5_hang_10 : decode cX5_hang 10 = .ok (.goto 18, 3) := by decide +kernel
theorem dX5_hang_13 : decode cX5_hang 13 = .ok (.aload_n 0, 1) := by decide +kernel
theorem dX5_hang_14 : decode cX5_hang 14 = .ok (.iload_n 1, 1) := by decide +kernel
theorem dX5_hang_15 : decode cX5_hang 15 = .ok (.invokevirtual 169, 3) := by decide +kernel
theorem dX5_hang_18 : decode cX5_hang 18 = .ok (.bipush 45, 2) := by decide +kernel
theorem dX5_hang_20 : decode cX5_hang 20 = .ok (.if_icmp .eq 7, 3) := by decide +kernel
theorem dX5_hang_23 : decode cX5_hang 23 = .ok (.iconst 2, 1) := by decide +kernel
theorem dX5_hang_24 : decode cX5_hang 24 = .ok (.goto 4, 3) := by decide +kernel
theorem dX5_hang_27 : decode cX5_hang 27 = .ok (.iconst 0, 1) := by decide +kernel
theorem dX5_hang_28 : decode cX5_hang 28 = .ok (.invokevirtual 103, 3) := by decide +kernel
theorem dX5_hang_31 : decode cX5_hang 31 = .ok (.ifCond .eq 5, 3) := by decide +kernel
theorem dX5_hang_34 : decode cX5_hang 34 = .ok (.iconst 0, 1) := by decide +kernel
theorem dX5_hang_35 : decode cX5_hang 35 = .ok (.ireturn, 1) := by decide +kernel
theorem dX5_hang_36 : decode cX5_hang 36 = .ok (.aload_n 0, 1) := by decide +kernel
theorem dX5_hang_37 : decode cX5_hang 37 = .ok (.iload_n 1, 1) := by decide +kernel
theorem dX5_hang_38 : decode cX5_hang 38 = .ok (.invokevirtual 173, 3) := by decide +kernel
theorem dX5_hang_41 : decode cX5_hang 41 = .ok (.aload_n 0, 1) := by decide +kernel
theorem dX5_hang_42 : decode cX5_hang 42 = .ok (.invokevirtual 150, 3) := by decide +kernel
theorem dX5_hang_45 : decode cX5_hang 45 = .ok (.ireturn, 1) := by decide +kernel
theorem dX5_takeDown_0 : decode cX5_takeDown 0 = .ok (.aload_n 0, 1) := by decide +kernel
theorem dX5_takeDown_1 : decode cX5_takeDown 1 = .ok (.aload_n 0, 1) := by decide +kernel
theorem dX5_takeDown_2 : decode cX5_takeDown 2 = .ok (.getfield 100, 3) := by decide +kernel
theorem dX5_takeDown_5 : decode cX5_takeDown 5 = .ok (.ifCond .ne 7, 3) := by decide +kernel
theorem dX5_takeDown_8 : decode cX5_takeDown 8 = .ok (.iconst 1, 1) := by decide +kernel
theorem dX5_takeDown_9 : decode cX5_takeDown 9 = .ok (.goto 4, 3) := by decide +kernel
theorem dX5_takeDown_12 : decode cX5_takeDown 12 = .ok (.iconst 0, 1) := by decide +kernel
theorem dX5_takeDown_13 : decode cX5_takeDown 13 = .ok (.invokevirtual 103, 3) := by decide +kernel
theorem dX5_takeDown_16 : decode cX5_takeDown 16 = .ok (.ifCond .eq 5, 3) := by decide +kernel
theorem dX5_takeDown_19 : decode cX5_takeDown 19 = .ok (.iconst 0, 1) := by decide +kernel
theorem dX5_takeDown_20 : decode cX5_takeDown 20 = .ok (.ireturn, 1) := by decide +kernel
theorem dX5_takeDown_21 : decode cX5_takeDown 21 = .ok (.aload_n 0, 1) := by decide +kernel
theorem dX5_takeDown_22 : decode cX5_takeDown 22 = .ok (.dup, 1) := by decide +kernel
theorem dX5_takeDown_23 : decode cX5_takeDown 23 = .ok (.getfield 100, 3) := by decide +kernel
theorem dX5_takeDown_26 : decode cX5_takeDown 26 = .ok (.iconst 1, 1) := by decide +kernel
theorem dX5_takeDown_27 : decode cX5_takeDown 27 = .ok (.isub, 1) := by decide +kernel
theorem dX5_takeDown_28 : decode cX5_takeDown 28 = .ok (.putfield 100, 3) := by decide +kernel
theorem dX5_takeDown_31 : decode cX5_takeDown 31 = .ok (.aload_n 0, 1) := by decide +kernel
theorem dX5_takeDown_32 : decode cX5_takeDown 32 = .ok (.getfield 75, 3) := by decide +kernel
theorem dX5_takeDown_35 : decode cX5_takeDown 35 = .ok (.aload_n 0, 1) := by decide +kernel
theorem dX5_takeDown_36 : decode cX5_takeDown 36 = .ok (.getfield 100, 3) := by decide +kernel
theorem dX5_takeDown_39 : decode cX5_takeDown 39 = .ok (.iaload, 1) := by decide +kernel
theorem dX5_takeDown_40 : decode cX5_takeDown 40 = .ok (.ireturn, 1) := by decide +kernel
theorem dX5_hung_0 : decode cX5_hung 0 = .ok (.aload_n 0, 1) := by decide +kernel
theorem dX5_hung_1 : decode cX5_hung 1 = .ok (.aload_n 0, 1) := by decide +kernel
theorem dX5_hung_2 : decode cX5_hung 2 = .ok (.getfield 100, 3) := by decide +kernel
theorem dX5_hung_5 : decode cX5_hung 5 = .ok (.invokevirtual 177, 3) := by decide +kernel
theorem dX5_hung_8 : decode cX5_hung 8 = .ok (.ireturn, 1) := by decide +kernel
theorem dX5_hungAt_0 : decode cX5_hungAt 0 = .ok (.aload_n 0, 1) := by decide +kernel
theorem dX5_hungAt_1 : decode cX5_hungAt 1 = .ok (.iload_n 1, 1) := by decide +kernel
theorem dX5_hungAt_2 : decode cX5_hungAt 2 = .ok (.iconst 0, 1) := by decide +kernel
theorem dX5_hungAt_3 : decode cX5_hungAt 3 = .ok (.aload_n 0, 1) := by decide +kernel
theorem dX5_hungAt_4 : decode cX5_hungAt 4 = .ok (.getfield 100, 3) := by decide +kernel
theorem dX5_hungAt_7 : decode cX5_hungAt 7 = .ok (.iconst 1, 1) := by decide +kernel
theorem dX5_hungAt_8 : decode cX5_hungAt 8 = .ok (.isub, 1) := by decide +kernel
theorem dX5_hungAt_9 : decode cX5_hungAt 9 = .ok (.invokestatic 93, 3) := by decide +kernel
theorem dX5_hungAt_12 : decode cX5_hungAt 12 = .ok (.ifCond .eq 7, 3) := by decide +kernel
theorem dX5_hungAt_15 : decode cX5_hungAt 15 = .ok (.iconst 0, 1) := by decide +kernel
theorem dX5_hungAt_16 : decode cX5_hungAt 16 = .ok (.goto 4, 3) := by decide +kernel
theorem dX5_hungAt_19 : decode cX5_hungAt 19 = .ok (.iconst 1, 1) := by decide +kernel
theorem dX5_hungAt_20 : decode cX5_hungAt 20 = .ok (.invokevirtual 103, 3) := by decide +kernel
theorem dX5_hungAt_23 : decode cX5_hungAt 23 = .ok (.ifCond .eq 7, 3) := by decide +kernel
theorem dX5_hungAt_26 : decode cX5_hungAt 26 = .ok (.iconst 0, 1) := by decide +kernel
theorem dX5_hungAt_27 : decode cX5_hungAt 27 = .ok (.goto 9, 3) := by decide +kernel
theorem dX5_hungAt_30 : decode cX5_hungAt 30 = .ok (.aload_n 0, 1) := by decide +kernel
theorem dX5_hungAt_31 : decode cX5_hungAt 31 = .ok (.getfield 75, 3) := by decide +kernel
theorem dX5_hungAt_34 : decode cX5_hungAt 34 = .ok (.iload_n 1, 1) := by decide +kernel
theorem dX5_hungAt_35 : decode cX5_hungAt 35 = .ok (.iaload, 1) := by decide +kernel
theorem dX5_hungAt_36 : decode cX5_hungAt 36 = .ok (.ireturn, 1) := by decide +kernel
theorem dX5_beginOf_0 : decode cX5_beginOf 0 = .ok (.aload_n 0, 1) := by decide +kernel
theorem dX5_beginOf_1 : decode cX5_beginOf 1 = .ok (.aload_n 0, 1) := by decide +kernel
theorem dX5_beginOf_2 : decode cX5_beginOf 2 = .ok (.iload_n 1, 1) := by decide +kernel
theorem dX5_beginOf_3 : decode cX5_beginOf 3 = .ok (.invokevirtual 107, 3) := by decide +kernel
theorem dX5_beginOf_6 : decode cX5_beginOf 6 = .ok (.ifCond .ne 11, 3) := by decide +kernel
theorem dX5_beginOf_9 : decode cX5_beginOf 9 = .ok (.aload_n 0, 1) := by decide +kernel
theorem dX5_beginOf_10 : decode cX5_beginOf 10 = .ok (.iload_n 1, 1) := by decide +kernel
theorem dX5_beginOf_11 : decode cX5_beginOf 11 = .ok (.invokevirtual 117, 3) := by decide +kernel
theorem dX5_beginOf_14 : decode cX5_beginOf 14 = .ok (.ifCond .ge 7, 3) := by decide +kernel
theorem dX5_beginOf_17 : decode cX5_beginOf 17 = .ok (.iconst 1, 1) := by decide +kernel
theorem dX5_beginOf_18 : decode cX5_beginOf 18 = .ok (.goto 4, 3) := by decide +kernel
theorem dX5_beginOf_21 : decode cX5_beginOf 21 = .ok (.iconst 0, 1) := by decide +kernel
theorem dX5_beginOf_22 : decode cX5_beginOf 22 = .ok (.invokevirtual 103, 3) := by decide +kernel
theorem dX5_beginOf_25 : decode cX5_beginOf 25 = .ok (.ifCond .eq 7, 3) := by decide +kernel
theorem dX5_beginOf_28 : decode cX5_beginOf 28 = .ok (.iconst 0, 1) := by decide +kernel
theorem dX5_beginOf_29 : decode cX5_beginOf 29 = .ok (.goto 13, 3) := by decide +kernel
theorem dX5_beginOf_32 : decode cX5_beginOf 32 = .ok (.aload_n 0, 1) := by decide +kernel
theorem dX5_beginOf_33 : decode cX5_beginOf 33 = .ok (.getfield 78, 3) := by decide +kernel
theorem dX5_beginOf_36 : decode cX5_beginOf 36 = .ok (.aload_n 0, 1) := by decide +kernel
theorem dX5_beginOf_37 : decode cX5_beginOf 37 = .ok (.iload_n 1, 1) := by decide +kernel
theorem dX5_beginOf_38 : decode cX5_beginOf 38 = .ok (.invokevirtual 117, 3) := by decide +kernel
theorem dX5_beginOf_41 : decode cX5_beginOf 41 = .ok (.iaload, 1) := by decide +kernel
theorem dX5_beginOf_42 : decode cX5_beginOf 42 = .ok (.ireturn, 1) := by decide +kernel
theorem dX5_end_0 : decode cX5_end 0 = .ok (.aload_n 0, 1) := by decide +kernel
theorem dX5_end_1 : decode cX5_end 1 = .ok (.aload_n 0, 1) := by decide +kernel
theorem dX5_end_2 : decode cX5_end 2 = .ok (.invokevirtual 150, 3) := by decide +kernel
theorem dX5_end_5 : decode cX5_end 5 = .ok (.invokevirtual 177, 3) := by decide +kernel
theorem dX5_end_8 : decode cX5_end 8 = .ok (.ireturn, 1) := by decide +kernel
theorem dX5_work_0 : decode cX5_work 0 = .ok (.aload_n 0, 1) := by decide +kernel
theorem dX5_work_1 : decode cX5_work 1 = .ok (.aload_n 0, 1) := by decide +kernel
theorem dX5_work_2 : decode cX5_work 2 = .ok (.invokevirtual 154, 3) := by decide +kernel
theorem dX5_work_5 : decode cX5_work 5 = .ok (.invokevirtual 177, 3) := by decide +kernel
theorem dX5_work_8 : decode cX5_work 8 = .ok (.ireturn, 1) := by decide +kernel
theorem dX5_costs_0 : decode cX5_costs 0 = .ok (.iconst 0, 1) := by decide +kernel
theorem dX5_costs_1 : decode cX5_costs 1 = .ok (.istore_n 1, 1) := by decide +kernel
theorem dX5_costs_2 : decode cX5_costs 2 = .ok (.iconst 0, 1) := by decide +kernel
theorem dX5_costs_3 : decode cX5_costs 3 = .ok (.istore_n 2, 1) := by decide +kernel
theorem dX5_costs_4 : decode cX5_costs 4 = .ok (.iload_n 2, 1) := by decide +kernel
theorem dX5_costs_5 : decode cX5_costs 5 = .ok (.aload_n 0, 1) := by decide +kernel
theorem dX5_costs_6 : decode cX5_costs 6 = .ok (.getfield 100, 3) := by decide +kernel
theorem dX5_costs_9 : decode cX5_costs 9 = .ok (.if_icmp .ge 106, 3) := by decide +kernel
theorem dX5_costs_12 : decode cX5_costs 12 = .ok (.aload_n 0, 1) := by decide +kernel
theorem dX5_costs_13 : decode cX5_costs 13 = .ok (.getfield 65, 3) := by decide +kernel
theorem dX5_costs_16 : decode cX5_costs 16 = .ok (.aload_n 0, 1) := by decide +kernel
theorem dX5_costs_17 : decode cX5_costs 17 = .ok (.getfield 71, 3) := by decide +kernel
theorem dX5_costs_20 : decode cX5_costs 20 = .ok (.iaload, 1) := by decide +kernel
theorem dX5_costs_21 : decode cX5_costs 21 = .ok (.aload_n 0, 1) := by decide +kernel
theorem dX5_costs_22 : decode cX5_costs 22 = .ok (.getfield 78, 3) := by decide +kernel
theorem dX5_costs_25 : decode cX5_costs 25 = .ok (.iload_n 2, 1) := by decide +kernel
theorem dX5_costs_26 : decode cX5_costs 26 = .ok (.iaload, 1) := by decide +kernel
theorem dX5_costs_27 : decode cX5_costs 27 = .ok (.isub, 1) := by decide +kernel
theorem dX5_costs_28 : decode cX5_costs 28 = .ok (.istore_n 3, 1) := by decide +kernel
theorem dX5_costs_29 : decode cX5_costs 29 = .ok (.iload_n 3, 1) := by decide +kernel
theorem dX5_costs_30 : decode cX5_costs 30 = .ok (.ifCond .ge 7, 3) := by decide +kernel
theorem dX5_costs_33 : decode cX5_costs 33 = .ok (.iconst 0, 1) := by decide +kernel
theorem dX5_costs_34 : decode cX5_costs 34 = .ok (.goto 33, 3) := by decide +kernel
theorem dX5_costs_37 : decode cX5_costs 37 = .ok (.iload_n 3, 1) := by decide +kernel
theorem dX5_costs_38 : decode cX5_costs 38 = .ok (.aload_n 0, 1) := by decide +kernel
theorem dX5_costs_39 : decode cX5_costs 39 = .ok (.getfield 19, 3) := by decide +kernel
theorem dX5_costs_42 : decode cX5_costs 42 = .ok (.aload_n 0, 1) := by decide +kernel
theorem dX5_costs_43 : decode cX5_costs 43 = .ok (.getfield 75, 3) := by decide +kernel
theorem dX5_costs_46 : decode cX5_costs 46 = .ok (.iload_n 2, 1) := by decide +kernel
theorem dX5_costs_47 : decode cX5_costs 47 = .ok (.iaload, 1) := by decide +kernel
theorem dX5_costs_48 : decode cX5_costs 48 = .ok (.iaload, 1) := by decide +kernel
theorem dX5_costs_49 : decode cX5_costs 49 = .ok (.if_icmp .le 17, 3) := by decide +kernel
theorem dX5_costs_52 : decode cX5_costs 52 = .ok (.aload_n 0, 1) := by decide +kernel
theorem dX5_costs_53 : decode cX5_costs 53 = .ok (.getfield 19, 3) := by decide +kernel
theorem dX5_costs_56 : decode cX5_costs 56 = .ok (.aload_n 0, 1) := by decide +kernel
theorem dX5_costs_57 : decode cX5_costs 57 = .ok (.getfield 75, 3) := by decide +kernel
theorem dX5_costs_60 : decode cX5_costs 60 = .ok (.iload_n 2, 1) := by decide +kernel
theorem dX5_costs_61 : decode cX5_costs 61 = .ok (.iaload, 1) := by decide +kernel
theorem dX5_costs_62 : decode cX5_costs 62 = .ok (.iaload, 1) := by decide +kernel
theorem dX5_costs_63 : decode cX5_costs 63 = .ok (.goto 4, 3) := by decide +kernel
theorem dX5_costs_66 : decode cX5_costs 66 = .ok (.iload_n 3, 1) := by decide +kernel
theorem dX5_costs_67 : decode cX5_costs 67 = .ok (.istore 4, 2) := by decide +kernel
theorem dX5_costs_69 : decode cX5_costs 69 = .ok (.iload_n 1, 1) := by decide +kernel
theorem dX5_costs_70 : decode cX5_costs 70 = .ok (.iload 4, 2) := by decide +kernel
theorem dX5_costs_72 : decode cX5_costs 72 = .ok (.aload_n 0, 1) := by decide +kernel
theorem dX5_costs_73 : decode cX5_costs 73 = .ok (.getfield 62, 3) := by decide +kernel
theorem dX5_costs_76 : decode cX5_costs 76 = .ok (.aload_n 0, 1) := by decide +kernel
theorem dX5_costs_77 : decode cX5_costs 77 = .ok (.getfield 71, 3) := by decide +kernel
theorem dX5_costs_80 : decode cX5_costs 80 = .ok (.iaload, 1) := by decide +kernel
theorem dX5_costs_81 : decode cX5_costs 81 = .ok (.imul, 1) := by decide +kernel
theorem dX5_costs_82 : decode cX5_costs 82 = .ok (.aload_n 0, 1) := by decide +kernel
theorem dX5_costs_83 : decode cX5_costs 83 = .ok (.getfield 19, 3) := by decide +kernel
theorem dX5_costs_86 : decode cX5_costs 86 = .ok (.aload_n 0, 1) := by decide +kernel
theorem dX5_costs_87 : decode cX5_costs 87 = .ok (.getfield 75, 3) := by decide +kernel
theorem dX5_costs_90 : decode cX5_costs 90 = .ok (.iload_n 2, 1) := by decide +kernel
theorem dX5_costs_91 : decode cX5_costs 91 = .ok (.iaload, 1) := by decide +kernel
theorem dX5_costs_92 : decode cX5_costs 92 = .ok (.iaload, 1) := by decide +kernel
theorem dX5_costs_93 : decode cX5_costs 93 = .ok (.iload 4, 2) := by decide +kernel
theorem dX5_costs_95 : decode cX5_costs 95 = .ok (.isub, 1) := by decide +kernel
theorem dX5_costs_96 : decode cX5_costs 96 = .ok (.aload_n 0, 1) := by decide +kernel
theorem dX5_costs_97 : decode cX5_costs 97 = .ok (.getfield 68, 3) := by decide +kernel
theorem dX5_costs_100 : decode cX5_costs 100 = .ok (.aload_n 0, 1) := by decide +kernel
theorem dX5_costs_101 : decode cX5_costs 101 = .ok (.getfield 71, 3) := by decide +kernel
theorem dX5_costs_104 : decode cX5_costs 104 = .ok (.iaload, 1) := by decide +kernel
theorem dX5_costs_105 : decode cX5_costs 105 = .ok (.imul, 1) := by decide +kernel
theorem dX5_costs_106 : decode cX5_costs 106 = .ok (.iadd, 1) := by decide +kernel
theorem dX5_costs_107 : decode cX5_costs 107 = .ok (.iadd, 1) := by decide +kernel
theorem dX5_costs_108 : decode cX5_costs 108 = .ok (.istore_n 1, 1) := by decide +kernel
theorem dX5_costs_109 : decode cX5_costs 109 = .ok (.iinc 2 1, 3) := by decide +kernel
theorem dX5_costs_112 : decode cX5_costs 112 = .ok (.goto (-108), 3) := by decide +kernel
theorem dX5_costs_115 : decode cX5_costs 115 = .ok (.iload_n 1, 1) := by decide +kernel
theorem dX5_costs_116 : decode cX5_costs 116 = .ok (.ireturn, 1) := by decide +kernel
theorem dX5_told_0 : decode cX5_told 0 = .ok (.aload_n 0, 1) := by decide +kernel
theorem dX5_told_1 : decode cX5_told 1 = .ok (.iconst 0, 1) := by decide +kernel
theorem dX5_told_2 : decode cX5_told 2 = .ok (.putfield 87, 3) := by decide +kernel
theorem dX5_told_5 : decode cX5_told 5 = .ok (.aload_n 0, 1) := by decide +kernel
theorem dX5_told_6 : decode cX5_told 6 = .ok (.invokevirtual 180, 3) := by decide +kernel
theorem dX5_told_9 : decode cX5_told 9 = .ok (.i2l, 1) := by decide +kernel
theorem dX5_told_10 : decode cX5_told 10 = .ok (.lreturn, 1) := by decide +kernel
theorem dX5_cost_0 : decode cX5_cost 0 = .ok (.aload_n 0, 1) := by decide +kernel
theorem dX5_cost_1 : decode cX5_cost 1 = .ok (.invokevirtual 183, 3) := by decide +kernel
theorem dX5_cost_4 : decode cX5_cost 4 = .ok (.lreturn, 1) := by decide +kernel
theorem dX5_costByMinutes_0 : decode cX5_costByMinutes 0 = .ok (.aload_n 0, 1) := by decide +kernel
theorem dX5_costByMinutes_1 : decode cX5_costByMinutes 1 = .ok (.invokevirtual 183, 3) := by decide +kernel
theorem dX5_costByMinutes_4 : decode cX5_costByMinutes 4 = .ok (.lreturn, 1) := by decide +kernel
theorem dX5_worth_0 : decode cX5_worth 0 = .ok (.iconst 0, 1) := by decide +kernel
theorem dX5_worth_1 : decode cX5_worth 1 = .ok (.istore_n 1, 1) := by decide +kernel
theorem dX5_worth_2 : decode cX5_worth 2 = .ok (.iconst 0, 1) := by decide +kernel
theorem dX5_worth_3 : decode cX5_worth 3 = .ok (.istore_n 2, 1) := by decide +kernel
theorem dX5_worth_4 : decode cX5_worth 4 = .ok (.iload_n 2, 1) := by decide +kernel
theorem dX5_worth_5 : decode cX5_worth 5 = .ok (.aload_n 0, 1) := by decide +kernel
theorem dX5_worth_6 : decode cX5_worth 6 = .ok (.getfield 100, 3) := by decide +kernel
theorem dX5_worth_9 : decode cX5_worth 9 = .ok (.if_icmp .ge 23, 3) := by decide +kernel
theorem dX5_worth_12 : decode cX5_worth 12 = .ok (.iload_n 1, 1) := by decide +kernel
theorem dX5_worth_13 : decode cX5_worth 13 = .ok (.aload_n 0, 1) := by decide +kernel
theorem dX5_worth_14 : decode cX5_worth 14 = .ok (.getfield 22, 3) := by decide +kernel
theorem dX5_worth_17 : decode cX5_worth 17 = .ok (.aload_n 0, 1) := by decide +kernel
theorem dX5_worth_18 : decode cX5_worth 18 = .ok (.getfield 75, 3) := by decide +kernel
theorem dX5_worth_21 : decode cX5_worth 21 = .ok (.iload_n 2, 1) := by decide +kernel
theorem dX5_worth_22 : decode cX5_worth 22 = .ok (.iaload, 1) := by decide +kernel
theorem dX5_worth_23 : decode cX5_worth 23 = .ok (.iaload, 1) := by decide +kernel
theorem dX5_worth_24 : decode cX5_worth 24 = .ok (.iadd, 1) := by decide +kernel
theorem dX5_worth_25 : decode cX5_worth 25 = .ok (.istore_n 1, 1) := by decide +kernel
theorem dX5_worth_26 : decode cX5_worth 26 = .ok (.iinc 2 1, 3) := by decide +kernel
theorem dX5_worth_29 : decode cX5_worth 29 = .ok (.goto (-25), 3) := by decide +kernel
theorem dX5_worth_32 : decode cX5_worth 32 = .ok (.iload_n 1, 1) := by decide +kernel
theorem dX5_worth_33 : decode cX5_worth 33 = .ok (.ireturn, 1) := by decide +kernel
theorem dX5_isBetter_0 : decode cX5_isBetter 0 = .ok (.aload_n 0, 1) := by decide +kernel
theorem dX5_isBetter_1 : decode cX5_isBetter 1 = .ok (.getfield 187, 3) := by decide +kernel
theorem dX5_isBetter_4 : decode cX5_isBetter 4 = .ok (.iconst 1, 1) := by decide +kernel
theorem dX5_isBetter_5 : decode cX5_isBetter 5 = .ok (.if_icmp .ne 5, 3) := by decide +kernel
theorem dX5_isBetter_8 : decode cX5_isBetter 8 = .ok (.iconst 1, 1) := by decide +kernel
theorem dX5_isBetter_9 : decode cX5_isBetter 9 = .ok (.ireturn, 1) := by decide +kernel
theorem dX5_isBetter_10 : decode cX5_isBetter 10 = .ok (.aload_n 0, 1) := by decide +kernel
theorem dX5_isBetter_11 : decode cX5_isBetter 11 = .ok (.invokevirtual 190, 3) := by decide +kernel
theorem dX5_isBetter_14 : decode cX5_isBetter 14 = .ok (.aload_n 0, 1) := by decide +kernel
theorem dX5_isBetter_15 : decode cX5_isBetter 15 = .ok (.getfield 193, 3) := by decide +kernel
theorem dX5_isBetter_18 : decode cX5_isBetter 18 = .ok (.if_icmp .eq 20, 3) := by decide +kernel
theorem dX5_isBetter_21 : decode cX5_isBetter 21 = .ok (.aload_n 0, 1) := by decide +kernel
theorem dX5_isBetter_22 : decode cX5_isBetter 22 = .ok (.invokevirtual 190, 3) := by decide +kernel
theorem dX5_isBetter_25 : decode cX5_isBetter 25 = .ok (.aload_n 0, 1) := by decide +kernel
theorem dX5_isBetter_26 : decode cX5_isBetter 26 = .ok (.getfield 193, 3) := by decide +kernel
theorem dX5_isBetter_29 : decode cX5_isBetter 29 = .ok (.if_icmp .le 7, 3) := by decide +kernel
theorem dX5_isBetter_32 : decode cX5_isBetter 32 = .ok (.iconst 1, 1) := by decide +kernel
theorem dX5_isBetter_33 : decode cX5_isBetter 33 = .ok (.goto 4, 3) := by decide +kernel
theorem dX5_isBetter_36 : decode cX5_isBetter 36 = .ok (.iconst 0, 1) := by decide +kernel
theorem dX5_isBetter_37 : decode cX5_isBetter 37 = .ok (.ireturn, 1) := by decide +kernel
theorem dX5_isBetter_38 : decode cX5_isBetter 38 = .ok (.aload_n 0, 1) := by decide +kernel
theorem dX5_isBetter_39 : decode cX5_isBetter 39 = .ok (.invokevirtual 150, 3) := by decide +kernel
theorem dX5_isBetter_42 : decode cX5_isBetter 42 = .ok (.aload_n 0, 1) := by decide +kernel
theorem dX5_isBetter_43 : decode cX5_isBetter 43 = .ok (.getfield 196, 3) := by decide +kernel
theorem dX5_isBetter_46 : decode cX5_isBetter 46 = .ok (.if_icmp .eq 22, 3) := by decide +kernel
theorem dX5_isBetter_49 : decode cX5_isBetter 49 = .ok (.aload_n 0, 1) := by decide +kernel
theorem dX5_isBetter_50 : decode cX5_isBetter 50 = .ok (.invokevirtual 150, 3) := by decide +kernel
theorem dX5_isBetter_53 : decode cX5_isBetter 53 = .ok (.aload_n 0, 1) := by decide +kernel
theorem dX5_isBetter_54 : decode cX5_isBetter 54 = .ok (.getfield 196, 3) := by decide +kernel
theorem dX5_isBetter_57 : decode cX5_isBetter 57 = .ok (.if_icmp .ge 7, 3) := by decide +kernel
theorem dX5_isBetter_60 : decode cX5_isBetter 60 = .ok (.iconst 1, 1) := by decide +kernel
theorem dX5_isBetter_61 : decode cX5_isBetter 61 = .ok (.goto 23, 3) := by decide +kernel
theorem dX5_isBetter_64 : decode cX5_isBetter 64 = .ok (.iconst 0, 1) := by decide +kernel
theorem dX5_isBetter_65 : decode cX5_isBetter 65 = .ok (.goto 19, 3) := by decide +kernel
theorem dX5_isBetter_68 : decode cX5_isBetter 68 = .ok (.aload_n 0, 1) := by decide +kernel
theorem dX5_isBetter_69 : decode cX5_isBetter 69 = .ok (.invokevirtual 180, 3) := by decide +kernel
theorem dX5_isBetter_72 : decode cX5_isBetter 72 = .ok (.aload_n 0, 1) := by decide +kernel
theorem dX5_isBetter_73 : decode cX5_isBetter 73 = .ok (.getfield 199, 3) := by decide +kernel
theorem dX5_isBetter_76 : decode cX5_isBetter 76 = .ok (.if_icmp .ge 7, 3) := by decide +kernel
theorem dX5_isBetter_79 : decode cX5_isBetter 79 = .ok (.iconst 1, 1) := by decide +kernel
theorem dX5_isBetter_80 : decode cX5_isBetter 80 = .ok (.goto 4, 3) := by decide +kernel
theorem dX5_isBetter_83 : decode cX5_isBetter 83 = .ok (.iconst 0, 1) := by decide +kernel
theorem dX5_isBetter_84 : decode cX5_isBetter 84 = .ok (.ireturn, 1) := by decide +kernel
theorem dX5_tries_0 : decode cX5_tries 0 = .ok (.aload_n 0, 1) := by decide +kernel
theorem dX5_tries_1 : decode cX5_tries 1 = .ok (.dup, 1) := by decide +kernel
theorem dX5_tries_2 : decode cX5_tries 2 = .ok (.getfield 187, 3) := by decide +kernel
theorem dX5_tries_5 : decode cX5_tries 5 = .ok (.iconst 1, 1) := by decide +kernel
theorem dX5_tries_6 : decode cX5_tries 6 = .ok (.iadd, 1) := by decide +kernel
theorem dX5_tries_7 : decode cX5_tries 7 = .ok (.putfield 187, 3) := by decide +kernel
theorem dX5_tries_10 : decode cX5_tries 10 = .ok (.aload_n 0, 1) := by decide +kernel
theorem dX5_tries_11 : decode cX5_tries 11 = .ok (.invokevirtual 202, 3) := by decide +kernel
theorem dX5_tries_14 : decode cX5_tries 14 = .ok (.ifCond .eq 63, 3) := by decide +kernel
theorem dX5_tries_17 : decode cX5_tries 17 = .ok (.aload_n 0, 1) := by decide +kernel
theorem dX5_tries_18 : decode cX5_tries 18 = .ok (.aload_n 0, 1) := by decide +kernel
theorem dX5_tries_19 : decode cX5_tries 19 = .ok (.invokevirtual 190, 3) := by decide +kernel
theorem dX5_tries_22 : decode cX5_tries 22 = .ok (.putfield 193, 3) := by decide +kernel
theorem dX5_tries_25 : decode cX5_tries 25 = .ok (.aload_n 0, 1) := by decide +kernel
theorem dX5_tries_26 : decode cX5_tries 26 = .ok (.aload_n 0, 1) := by decide +kernel
theorem dX5_tries_27 : decode cX5_tries 27 = .ok (.invokevirtual 150, 3) := by decide +kernel
theorem dX5_tries_30 : decode cX5_tries 30 = .ok (.putfield 196, 3) := by decide +kernel
theorem dX5_tries_33 : decode cX5_tries 33 = .ok (.aload_n 0, 1) := by decide +kernel
theorem dX5_tries_34 : decode cX5_tries 34 = .ok (.aload_n 0, 1) := by decide +kernel
theorem dX5_tries_35 : decode cX5_tries 35 = .ok (.invokevirtual 180, 3) := by decide +kernel
theorem dX5_tries_38 : decode cX5_tries 38 = .ok (.putfield 199, 3) := by decide +kernel
theorem dX5_tries_41 : decode cX5_tries 41 = .ok (.aload_n 0, 1) := by decide +kernel
theorem dX5_tries_42 : decode cX5_tries 42 = .ok (.aload_n 0, 1) := by decide +kernel
theorem dX5_tries_43 : decode cX5_tries 43 = .ok (.getfield 100, 3) := by decide +kernel
theorem dX5_tries_46 : decode cX5_tries 46 = .ok (.putfield 206, 3) := by decide +kernel
theorem dX5_tries_49 : decode cX5_tries 49 = .ok (.iconst 0, 1) := by decide +kernel
theorem dX5_tries_50 : decode cX5_tries 50 = .ok (.istore_n 1, 1) := by decide +kernel
theorem dX5_tries_51 : decode cX5_tries 51 = .ok (.iload_n 1, 1) := by decide +kernel
theorem dX5_tries_52 : decode cX5_tries 52 = .ok (.aload_n 0, 1) := by decide +kernel
theorem dX5_tries_53 : decode cX5_tries 53 = .ok (.getfield 100, 3) := by decide +kernel
theorem dX5_tries_56 : decode cX5_tries 56 = .ok (.if_icmp .ge 21, 3) := by decide +kernel
theorem dX5_tries_59 : decode cX5_tries 59 = .ok (.aload_n 0, 1) := by decide +kernel
theorem dX5_tries_60 : decode cX5_tries 60 = .ok (.getfield 84, 3) := by decide +kernel
theorem dX5_tries_63 : decode cX5_tries 63 = .ok (.iload_n 1, 1) := by decide +kernel
theorem dX5_tries_64 : decode cX5_tries 64 = .ok (.aload_n 0, 1) := by decide +kernel
theorem dX5_tries_65 : decode cX5_tries 65 = .ok (.getfield 75, 3) := by decide +kernel
theorem dX5_tries_68 : decode cX5_tries 68 = .ok (.iload_n 1, 1) := by decide +kernel
theorem dX5_tries_69 : decode cX5_tries 69 = .ok (.iaload, 1) := by decide +kernel
theorem dX5_tries_70 : decode cX5_tries 70 = .ok (.iastore, 1) := by decide +kernel
theorem dX5_tries_71 : decode cX5_tries 71 = .ok (.iinc 1 1, 3) := by decide +kernel
theorem dX5_tries_74 : decode cX5_tries 74 = .ok (.goto (-23), 3) := by decide +kernel
theorem dX5_tries_77 : decode cX5_tries 77 = .ok (.iconst 0, 1) := by decide +kernel
theorem dX5_tries_78 : decode cX5_tries 78 = .ok (.istore_n 1, 1) := by decide +kernel
theorem dX5_tries_79 : decode cX5_tries 79 = .ok (.iload_n 1, 1) := by decide +kernel
theorem dX5_tries_80 : decode cX5_tries 80 = .ok (.aload_n 0, 1) := by decide +kernel
theorem dX5_tries_81 : decode cX5_tries 81 = .ok (.getfield 97, 3) := by decide +kernel
theorem dX5_tries_84 : decode cX5_tries 84 = .ok (.if_icmp .ge 41, 3) := by decide +kernel
theorem dX5_tries_87 : decode cX5_tries 87 = .ok (.aload_n 0, 1) := by decide +kernel
theorem dX5_tries_88 : decode cX5_tries 88 = .ok (.iload_n 1, 1) := by decide +kernel
theorem dX5_tries_89 : decode cX5_tries 89 = .ok (.invokevirtual 169, 3) := by decide +kernel
theorem dX5_tries_92 : decode cX5_tries 92 = .ok (.bipush 45, 2) := by decide +kernel
theorem dX5_tries_94 : decode cX5_tries 94 = .ok (.if_icmp .eq 6, 3) := by decide +kernel
theorem dX5_tries_97 : decode cX5_tries 97 = .ok (.goto 22, 3) := by decide +kernel
theorem dX5_tries_100 : decode cX5_tries 100 = .ok (.aload_n 0, 1) := by decide +kernel
theorem dX5_tries_101 : decode cX5_tries 101 = .ok (.iload_n 1, 1) := by decide +kernel
theorem dX5_tries_102 : decode cX5_tries 102 = .ok (.invokevirtual 173, 3) := by decide +kernel
theorem dX5_tries_105 : decode cX5_tries 105 = .ok (.aload_n 0, 1) := by decide +kernel
theorem dX5_tries_106 : decode cX5_tries 106 = .ok (.invokevirtual 209, 3) := by decide +kernel
theorem dX5_tries_109 : decode cX5_tries 109 = .ok (.aload_n 0, 1) := by decide +kernel
theorem dX5_tries_110 : decode cX5_tries 110 = .ok (.dup, 1) := by decide +kernel
theorem dX5_tries_111 : decode cX5_tries 111 = .ok (.getfield 100, 3) := by decide +kernel
theorem dX5_tries_114 : decode cX5_tries 114 = .ok (.iconst 1, 1) := by decide +kernel
theorem dX5_tries_115 : decode cX5_tries 115 = .ok (.isub, 1) := by decide +kernel
theorem dX5_tries_116 : decode cX5_tries 116 = .ok (.putfield 100, 3) := by decide +kernel
theorem dX5_tries_119 : decode cX5_tries 119 = .ok (.iinc 1 1, 3) := by decide +kernel
theorem dX5_tries_122 : decode cX5_tries 122 = .ok (.goto (-43), 3) := by decide +kernel
theorem dX5_tries_125 : decode cX5_tries 125 = .ok (.return_, 1) := by decide +kernel
theorem dX5_searches_0 : decode cX5_searches 0 = .ok (.aload_n 0, 1) := by decide +kernel
theorem dX5_searches_1 : decode cX5_searches 1 = .ok (.iconst 0, 1) := by decide +kernel
theorem dX5_searches_2 : decode cX5_searches 2 = .ok (.putfield 87, 3) := by decide +kernel
theorem dX5_searches_5 : decode cX5_searches 5 = .ok (.aload_n 0, 1) := by decide +kernel
theorem dX5_searches_6 : decode cX5_searches 6 = .ok (.iconst 0, 1) := by decide +kernel
theorem dX5_searches_7 : decode cX5_searches 7 = .ok (.putfield 187, 3) := by decide +kernel
theorem dX5_searches_10 : decode cX5_searches 10 = .ok (.aload_n 0, 1) := by decide +kernel
theorem dX5_searches_11 : decode cX5_searches 11 = .ok (.invokevirtual 209, 3) := by decide +kernel
theorem dX5_searches_14 : decode cX5_searches 14 = .ok (.return_, 1) := by decide +kernel
theorem dX5_bestOf_0 : decode cX5_bestOf 0 = .ok (.aload_n 0, 1) := by decide +kernel
theorem dX5_bestOf_1 : decode cX5_bestOf 1 = .ok (.invokevirtual 212, 3) := by decide +kernel
theorem dX5_bestOf_4 : decode cX5_bestOf 4 = .ok (.iload_n 1, 1) := by decide +kernel
theorem dX5_bestOf_5 : decode cX5_bestOf 5 = .ok (.ifCond .ne 10, 3) := by decide +kernel
theorem dX5_bestOf_8 : decode cX5_bestOf 8 = .ok (.aload_n 0, 1) := by decide +kernel
theorem dX5_bestOf_9 : decode cX5_bestOf 9 = .ok (.getfield 193, 3) := by decide +kernel
theorem dX5_bestOf_12 : decode cX5_bestOf 12 = .ok (.goto 43, 3) := by decide +kernel
theorem dX5_bestOf_15 : decode cX5_bestOf 15 = .ok (.iload_n 1, 1) := by decide +kernel
theorem dX5_bestOf_16 : decode cX5_bestOf 16 = .ok (.iconst 1, 1) := by decide +kernel
theorem dX5_bestOf_17 : decode cX5_bestOf 17 = .ok (.if_icmp .ne 10, 3) := by decide +kernel
theorem dX5_bestOf_20 : decode cX5_bestOf 20 = .ok (.aload_n 0, 1) := by decide +kernel
theorem dX5_bestOf_21 : decode cX5_bestOf 21 = .ok (.getfield 196, 3) := by decide +kernel
theorem dX5_bestOf_24 : decode cX5_bestOf 24 = .ok (.goto 31, 3) := by decide +kernel
theorem dX5_bestOf_27 : decode cX5_bestOf 27 = .ok (.iload_n 1, 1) := by decide +kernel
theorem dX5_bestOf_28 : decode cX5_bestOf 28 = .ok (.iconst 2, 1) := by decide +kernel
theorem dX5_bestOf_29 : decode cX5_bestOf 29 = .ok (.if_icmp .ne 10, 3) := by decide +kernel
theorem dX5_bestOf_32 : decode cX5_bestOf 32 = .ok (.aload_n 0, 1) := by decide +kernel
theorem dX5_bestOf_33 : decode cX5_bestOf 33 = .ok (.getfield 199, 3) := by decide +kernel
theorem dX5_bestOf_36 : decode cX5_bestOf 36 = .ok (.goto 19, 3) := by decide +kernel
theorem dX5_bestOf_39 : decode cX5_bestOf 39 = .ok (.iload_n 1, 1) := by decide +kernel
theorem dX5_bestOf_40 : decode cX5_bestOf 40 = .ok (.iconst 3, 1) := by decide +kernel
theorem dX5_bestOf_41 : decode cX5_bestOf 41 = .ok (.if_icmp .ne 10, 3) := by decide +kernel
theorem dX5_bestOf_44 : decode cX5_bestOf 44 = .ok (.aload_n 0, 1) := by decide +kernel
theorem dX5_bestOf_45 : decode cX5_bestOf 45 = .ok (.getfield 206, 3) := by decide +kernel
theorem dX5_bestOf_48 : decode cX5_bestOf 48 = .ok (.goto 7, 3) := by decide +kernel
theorem dX5_bestOf_51 : decode cX5_bestOf 51 = .ok (.aload_n 0, 1) := by decide +kernel
theorem dX5_bestOf_52 : decode cX5_bestOf 52 = .ok (.getfield 187, 3) := by decide +kernel
theorem dX5_bestOf_55 : decode cX5_bestOf 55 = .ok (.ireturn, 1) := by decide +kernel
theorem dX5_bestWorth_0 : decode cX5_bestWorth 0 = .ok (.aload_n 0, 1) := by decide +kernel
theorem dX5_bestWorth_1 : decode cX5_bestWorth 1 = .ok (.iconst 0, 1) := by decide +kernel
theorem dX5_bestWorth_2 : decode cX5_bestWorth 2 = .ok (.invokevirtual 215, 3) := by decide +kernel
theorem dX5_bestWorth_5 : decode cX5_bestWorth 5 = .ok (.ireturn, 1) := by decide +kernel
theorem dX5_bestByAll_0 : decode cX5_bestByAll 0 = .ok (.aload_n 0, 1) := by decide +kernel
theorem dX5_bestByAll_1 : decode cX5_bestByAll 1 = .ok (.iconst 0, 1) := by decide +kernel
theorem dX5_bestByAll_2 : decode cX5_bestByAll 2 = .ok (.invokevirtual 215, 3) := by decide +kernel
theorem dX5_bestByAll_5 : decode cX5_bestByAll 5 = .ok (.ireturn, 1) := by decide +kernel
theorem dX5_bestEnd_0 : decode cX5_bestEnd 0 = .ok (.aload_n 0, 1) := by decide +kernel
theorem dX5_bestEnd_1 : decode cX5_bestEnd 1 = .ok (.iconst 1, 1) := by decide +kernel
theorem dX5_bestEnd_2 : decode cX5_bestEnd 2 = .ok (.invokevirtual 215, 3) := by decide +kernel
theorem dX5_bestEnd_5 : decode cX5_bestEnd 5 = .ok (.ireturn, 1) := by decide +kernel
theorem dX5_bestCost_0 : decode cX5_bestCost 0 = .ok (.aload_n 0, 1) := by decide +kernel
theorem dX5_bestCost_1 : decode cX5_bestCost 1 = .ok (.iconst 2, 1) := by decide +kernel
theorem dX5_bestCost_2 : decode cX5_bestCost 2 = .ok (.invokevirtual 215, 3) := by decide +kernel
theorem dX5_bestCost_5 : decode cX5_bestCost 5 = .ok (.ireturn, 1) := by decide +kernel
theorem dX5_bestSize_0 : decode cX5_bestSize 0 = .ok (.aload_n 0, 1) := by decide +kernel
theorem dX5_bestSize_1 : decode cX5_bestSize 1 = .ok (.iconst 3, 1) := by decide +kernel
theorem dX5_bestSize_2 : decode cX5_bestSize 2 = .ok (.invokevirtual 215, 3) := by decide +kernel
theorem dX5_bestSize_5 : decode cX5_bestSize 5 = .ok (.ireturn, 1) := by decide +kernel
theorem dX5_bestAt_0 : decode cX5_bestAt 0 = .ok (.aload_n 0, 1) := by decide +kernel
theorem dX5_bestAt_1 : decode cX5_bestAt 1 = .ok (.invokevirtual 212, 3) := by decide +kernel
theorem dX5_bestAt_4 : decode cX5_bestAt 4 = .ok (.aload_n 0, 1) := by decide +kernel
theorem dX5_bestAt_5 : decode cX5_bestAt 5 = .ok (.iload_n 1, 1) := by decide +kernel
theorem dX5_bestAt_6 : decode cX5_bestAt 6 = .ok (.iconst 0, 1) := by decide +kernel
theorem dX5_bestAt_7 : decode cX5_bestAt 7 = .ok (.aload_n 0, 1) := by decide +kernel
theorem dX5_bestAt_8 : decode cX5_bestAt 8 = .ok (.getfield 206, 3) := by decide +kernel
theorem dX5_bestAt_11 : decode cX5_bestAt 11 = .ok (.iconst 1, 1) := by decide +kernel
theorem dX5_bestAt_12 : decode cX5_bestAt 12 = .ok (.isub, 1) := by decide +kernel
theorem dX5_bestAt_13 : decode cX5_bestAt 13 = .ok (.invokestatic 93, 3) := by decide +kernel
theorem dX5_bestAt_16 : decode cX5_bestAt 16 = .ok (.ifCond .eq 7, 3) := by decide +kernel
theorem dX5_bestAt_19 : decode cX5_bestAt 19 = .ok (.iconst 0, 1) := by decide +kernel
theorem dX5_bestAt_20 : decode cX5_bestAt 20 = .ok (.goto 4, 3) := by decide +kernel
theorem dX5_bestAt_23 : decode cX5_bestAt 23 = .ok (.iconst 1, 1) := by decide +kernel
theorem dX5_bestAt_24 : decode cX5_bestAt 24 = .ok (.invokevirtual 103, 3) := by decide +kernel
theorem dX5_bestAt_27 : decode cX5_bestAt 27 = .ok (.ifCond .eq 7, 3) := by decide +kernel
theorem dX5_bestAt_30 : decode cX5_bestAt 30 = .ok (.iconst 0, 1) := by decide +kernel
theorem dX5_bestAt_31 : decode cX5_bestAt 31 = .ok (.goto 9, 3) := by decide +kernel
theorem dX5_bestAt_34 : decode cX5_bestAt 34 = .ok (.aload_n 0, 1) := by decide +kernel
theorem dX5_bestAt_35 : decode cX5_bestAt 35 = .ok (.getfield 84, 3) := by decide +kernel
theorem dX5_bestAt_38 : decode cX5_bestAt 38 = .ok (.iload_n 1, 1) := by decide +kernel
theorem dX5_bestAt_39 : decode cX5_bestAt 39 = .ok (.iaload, 1) := by decide +kernel
theorem dX5_bestAt_40 : decode cX5_bestAt 40 = .ok (.ireturn, 1) := by decide +kernel
theorem dX5_complete_0 : decode cX5_complete 0 = .ok (.aload_n 0, 1) := by decide +kernel
theorem dX5_complete_1 : decode cX5_complete 1 = .ok (.invokevirtual 212, 3) := by decide +kernel
theorem dX5_complete_4 : decode cX5_complete 4 = .ok (.aload_n 0, 1) := by decide +kernel
theorem dX5_complete_5 : decode cX5_complete 5 = .ok (.getfield 100, 3) := by decide +kernel
theorem dX5_complete_8 : decode cX5_complete 8 = .ok (.istore_n 1, 1) := by decide +kernel
theorem dX5_complete_9 : decode cX5_complete 9 = .ok (.aload_n 0, 1) := by decide +kernel
theorem dX5_complete_10 : decode cX5_complete 10 = .ok (.getfield 100, 3) := by decide +kernel
theorem dX5_complete_13 : decode cX5_complete 13 = .ok (.aload_n 0, 1) := by decide +kernel
theorem dX5_complete_14 : decode cX5_complete 14 = .ok (.getfield 206, 3) := by decide +kernel
theorem dX5_complete_17 : decode cX5_complete 17 = .ok (.if_icmp .ge 19, 3) := by decide +kernel
theorem dX5_complete_20 : decode cX5_complete 20 = .ok (.aload_n 0, 1) := by decide +kernel
theorem dX5_complete_21 : decode cX5_complete 21 = .ok (.aload_n 0, 1) := by decide +kernel
theorem dX5_complete_22 : decode cX5_complete 22 = .ok (.getfield 84, 3) := by decide +kernel
theorem dX5_complete_25 : decode cX5_complete 25 = .ok (.aload_n 0, 1) := by decide +kernel
theorem dX5_complete_26 : decode cX5_complete 26 = .ok (.getfield 100, 3) := by decide +kernel
theorem dX5_complete_29 : decode cX5_complete 29 = .ok (.iaload, 1) := by decide +kernel
theorem dX5_complete_30 : decode cX5_complete 30 = .ok (.invokevirtual 173, 3) := by decide +kernel
theorem dX5_complete_33 : decode cX5_complete 33 = .ok (.goto (-24), 3) := by decide +kernel
theorem dX5_complete_36 : decode cX5_complete 36 = .ok (.aload_n 0, 1) := by decide +kernel
theorem dX5_complete_37 : decode cX5_complete 37 = .ok (.getfield 100, 3) := by decide +kernel
theorem dX5_complete_40 : decode cX5_complete 40 = .ok (.iload_n 1, 1) := by decide +kernel
theorem dX5_complete_41 : decode cX5_complete 41 = .ok (.isub, 1) := by decide +kernel
theorem dX5_complete_42 : decode cX5_complete 42 = .ok (.ireturn, 1) := by decide +kernel
theorem dX5_completions_0 : decode cX5_completions 0 = .ok (.aload_n 0, 1) := by decide +kernel
theorem dX5_completions_1 : decode cX5_completions 1 = .ok (.iconst 4, 1) := by decide +kernel
theorem dX5_completions_2 : decode cX5_completions 2 = .ok (.invokevirtual 215, 3) := by decide +kernel
theorem dX5_completions_5 : decode cX5_completions 5 = .ok (.ireturn, 1) := by decide +kernel
theorem dX5_tightest_0 : decode cX5_tightest 0 = .ok (.aload_n 0, 1) := by decide +kernel
theorem dX5_tightest_1 : decode cX5_tightest 1 = .ok (.aload_n 0, 1) := by decide +kernel
theorem dX5_tightest_2 : decode cX5_tightest 2 = .ok (.getfield 71, 3) := by decide +kernel
theorem dX5_tightest_5 : decode cX5_tightest 5 = .ok (.ifCond .ge 7, 3) := by decide +kernel
theorem dX5_tightest_8 : decode cX5_tightest 8 = .ok (.iconst 1, 1) := by decide +kernel
theorem dX5_tightest_9 : decode cX5_tightest 9 = .ok (.goto 15, 3) := by decide +kernel
theorem dX5_tightest_12 : decode cX5_tightest 12 = .ok (.aload_n 0, 1) := by decide +kernel
theorem dX5_tightest_13 : decode cX5_tightest 13 = .ok (.getfield 90, 3) := by decide +kernel
theorem dX5_tightest_16 : decode cX5_tightest 16 = .ok (.ifCond .ne 7, 3) := by decide +kernel
theorem dX5_tightest_19 : decode cX5_tightest 19 = .ok (.iconst 2, 1) := by decide +kernel
theorem dX5_tightest_20 : decode cX5_tightest 20 = .ok (.goto 4, 3) := by decide +kernel
theorem dX5_tightest_23 : decode cX5_tightest 23 = .ok (.iconst 0, 1) := by decide +kernel
theorem dX5_tightest_24 : decode cX5_tightest 24 = .ok (.invokevirtual 103, 3) := by decide +kernel
theorem dX5_tightest_27 : decode cX5_tightest 27 = .ok (.ifCond .eq 5, 3) := by decide +kernel
theorem dX5_tightest_30 : decode cX5_tightest 30 = .ok (.iconst 0, 1) := by decide +kernel
theorem dX5_tightest_31 : decode cX5_tightest 31 = .ok (.ireturn, 1) := by decide +kernel
theorem dX5_tightest_32 : decode cX5_tightest 32 = .ok (.iconst 0, 1) := by decide +kernel
theorem dX5_tightest_33 : decode cX5_tightest 33 = .ok (.istore_n 1, 1) := by decide +kernel
theorem dX5_tightest_34 : decode cX5_tightest 34 = .ok (.iconst 1, 1) := by decide +kernel
theorem dX5_tightest_35 : decode cX5_tightest 35 = .ok (.istore_n 2, 1) := by decide +kernel
theorem dX5_tightest_36 : decode cX5_tightest 36 = .ok (.iload_n 2, 1) := by decide +kernel
theorem dX5_tightest_37 : decode cX5_tightest 37 = .ok (.aload_n 0, 1) := by decide +kernel
theorem dX5_tightest_38 : decode cX5_tightest 38 = .ok (.getfield 90, 3) := by decide +kernel
theorem dX5_tightest_41 : decode cX5_tightest 41 = .ok (.if_icmp .ge 36, 3) := by decide +kernel
theorem dX5_tightest_44 : decode cX5_tightest 44 = .ok (.aload_n 0, 1) := by decide +kernel
theorem dX5_tightest_45 : decode cX5_tightest 45 = .ok (.iload_n 2, 1) := by decide +kernel
theorem dX5_tightest_46 : decode cX5_tightest 46 = .ok (.invokevirtual 141, 3) := by decide +kernel
theorem dX5_tightest_49 : decode cX5_tightest 49 = .ok (.aload_n 0, 1) := by decide +kernel
theorem dX5_tightest_50 : decode cX5_tightest 50 = .ok (.iload_n 2, 1) := by decide +kernel
theorem dX5_tightest_51 : decode cX5_tightest 51 = .ok (.invokevirtual 144, 3) := by decide +kernel
theorem dX5_tightest_54 : decode cX5_tightest 54 = .ok (.isub, 1) := by decide +kernel
theorem dX5_tightest_55 : decode cX5_tightest 55 = .ok (.aload_n 0, 1) := by decide +kernel
theorem dX5_tightest_56 : decode cX5_tightest 56 = .ok (.iload_n 1, 1) := by decide +kernel
theorem dX5_tightest_57 : decode cX5_tightest 57 = .ok (.invokevirtual 141, 3) := by decide +kernel
theorem dX5_tightest_60 : decode cX5_tightest 60 = .ok (.aload_n 0, 1) := by decide +kernel
theorem dX5_tightest_61 : decode cX5_tightest 61 = .ok (.iload_n 1, 1) := by decide +kernel
theorem dX5_tightest_62 : decode cX5_tightest 62 = .ok (.invokevirtual 144, 3) := by decide +kernel
theorem dX5_tightest_65 : decode cX5_tightest 65 = .ok (.isub, 1) := by decide +kernel
theorem dX5_tightest_66 : decode cX5_tightest 66 = .ok (.if_icmp .ge 5, 3) := by decide +kernel
theorem dX5_tightest_69 : decode cX5_tightest 69 = .ok (.iload_n 2, 1) := by decide +kernel
theorem dX5_tightest_70 : decode cX5_tightest 70 = .ok (.istore_n 1, 1) := by decide +kernel
theorem dX5_tightest_71 : decode cX5_tightest 71 = .ok (.iinc 2 1, 3) := by decide +kernel
theorem dX5_tightest_74 : decode cX5_tightest 74 = .ok (.goto (-38), 3) := by decide +kernel
theorem dX5_tightest_77 : decode cX5_tightest 77 = .ok (.iload_n 1, 1) := by decide +kernel
theorem dX5_tightest_78 : decode cX5_tightest 78 = .ok (.ireturn, 1) := by decide +kernel
theorem dX5_hungShare_0 : decode cX5_hungShare 0 = .ok (.aload_n 0, 1) := by decide +kernel
theorem dX5_hungShare_1 : decode cX5_hungShare 1 = .ok (.aload_n 0, 1) := by decide +kernel
theorem dX5_hungShare_2 : decode cX5_hungShare 2 = .ok (.getfield 97, 3) := by decide +kernel
theorem dX5_hungShare_5 : decode cX5_hungShare 5 = .ok (.ifCond .ne 7, 3) := by decide +kernel
theorem dX5_hungShare_8 : decode cX5_hungShare 8 = .ok (.iconst 1, 1) := by decide +kernel
theorem dX5_hungShare_9 : decode cX5_hungShare 9 = .ok (.goto 4, 3) := by decide +kernel
theorem dX5_hungShare_12 : decode cX5_hungShare 12 = .ok (.iconst 0, 1) := by decide +kernel
theorem dX5_hungShare_13 : decode cX5_hungShare 13 = .ok (.invokevirtual 103, 3) := by decide +kernel
theorem dX5_hungShare_16 : decode cX5_hungShare 16 = .ok (.ifCond .eq 7, 3) := by decide +kernel
theorem dX5_hungShare_19 : decode cX5_hungShare 19 = .ok (.fconst 0, 1) := by decide +kernel
theorem dX5_hungShare_20 : decode cX5_hungShare 20 = .ok (.goto 14, 3) := by decide +kernel
theorem dX5_hungShare_23 : decode cX5_hungShare 23 = .ok (.aload_n 0, 1) := by decide +kernel
theorem dX5_hungShare_24 : decode cX5_hungShare 24 = .ok (.getfield 100, 3) := by decide +kernel
theorem dX5_hungShare_27 : decode cX5_hungShare 27 = .ok (.i2f, 1) := by decide +kernel
theorem dX5_hungShare_28 : decode cX5_hungShare 28 = .ok (.aload_n 0, 1) := by decide +kernel
theorem dX5_hungShare_29 : decode cX5_hungShare 29 = .ok (.getfield 97, 3) := by decide +kernel
theorem dX5_hungShare_32 : decode cX5_hungShare 32 = .ok (.i2f, 1) := by decide +kernel
theorem dX5_hungShare_33 : decode cX5_hungShare 33 = .ok (.fdiv, 1) := by decide +kernel
theorem dX5_hungShare_34 : decode cX5_hungShare 34 = .ok (.freturn, 1) := by decide +kernel
theorem dX5_meanLoad_0 : decode cX5_meanLoad 0 = .ok (.aload_n 0, 1) := by decide +kernel
theorem dX5_meanLoad_1 : decode cX5_meanLoad 1 = .ok (.aload_n 0, 1) := by decide +kernel
theorem dX5_meanLoad_2 : decode cX5_meanLoad 2 = .ok (.getfield 90, 3) := by decide +kernel
theorem dX5_meanLoad_5 : decode cX5_meanLoad 5 = .ok (.ifCond .ne 7, 3) := by decide +kernel
theorem dX5_meanLoad_8 : decode cX5_meanLoad 8 = .ok (.iconst 1, 1) := by decide +kernel
theorem dX5_meanLoad_9 : decode cX5_meanLoad 9 = .ok (.goto 4, 3) := by decide +kernel
theorem dX5_meanLoad_12 : decode cX5_meanLoad 12 = .ok (.iconst 0, 1) := by decide +kernel
theorem dX5_meanLoad_13 : decode cX5_meanLoad 13 = .ok (.invokevirtual 103, 3) := by decide +kernel
theorem dX5_meanLoad_16 : decode cX5_meanLoad 16 = .ok (.ifCond .eq 5, 3) := by decide +kernel
theorem dX5_meanLoad_19 : decode cX5_meanLoad 19 = .ok (.dconst 0, 1) := by decide +kernel
theorem dX5_meanLoad_20 : decode cX5_meanLoad 20 = .ok (.dreturn, 1) := by decide +kernel
theorem dX5_meanLoad_21 : decode cX5_meanLoad 21 = .ok (.iconst 0, 1) := by decide +kernel
theorem dX5_meanLoad_22 : decode cX5_meanLoad 22 = .ok (.istore_n 1, 1) := by decide +kernel
theorem dX5_meanLoad_23 : decode cX5_meanLoad 23 = .ok (.iconst 0, 1) := by decide +kernel
theorem dX5_meanLoad_24 : decode cX5_meanLoad 24 = .ok (.istore_n 2, 1) := by decide +kernel
theorem dX5_meanLoad_25 : decode cX5_meanLoad 25 = .ok (.iload_n 2, 1) := by decide +kernel
theorem dX5_meanLoad_26 : decode cX5_meanLoad 26 = .ok (.aload_n 0, 1) := by decide +kernel
theorem dX5_meanLoad_27 : decode cX5_meanLoad 27 = .ok (.getfield 90, 3) := by decide +kernel
theorem dX5_meanLoad_30 : decode cX5_meanLoad 30 = .ok (.if_icmp .ge 17, 3) := by decide +kernel
theorem dX5_meanLoad_33 : decode cX5_meanLoad 33 = .ok (.iload_n 1, 1) := by decide +kernel
theorem dX5_meanLoad_34 : decode cX5_meanLoad 34 = .ok (.aload_n 0, 1) := by decide +kernel
theorem dX5_meanLoad_35 : decode cX5_meanLoad 35 = .ok (.iload_n 2, 1) := by decide +kernel
theorem dX5_meanLoad_36 : decode cX5_meanLoad 36 = .ok (.invokevirtual 144, 3) := by decide +kernel
theorem dX5_meanLoad_39 : decode cX5_meanLoad 39 = .ok (.iadd, 1) := by decide +kernel
theorem dX5_meanLoad_40 : decode cX5_meanLoad 40 = .ok (.istore_n 1, 1) := by decide +kernel
theorem dX5_meanLoad_41 : decode cX5_meanLoad 41 = .ok (.iinc 2 1, 3) := by decide +kernel
theorem dX5_meanLoad_44 : decode cX5_meanLoad 44 = .ok (.goto (-19), 3) := by decide +kernel
theorem dX5_meanLoad_47 : decode cX5_meanLoad 47 = .ok (.iload_n 1, 1) := by decide +kernel
theorem dX5_meanLoad_48 : decode cX5_meanLoad 48 = .ok (.i2d, 1) := by decide +kernel
theorem dX5_meanLoad_49 : decode cX5_meanLoad 49 = .ok (.aload_n 0, 1) := by decide +kernel
theorem dX5_meanLoad_50 : decode cX5_meanLoad 50 = .ok (.getfield 90, 3) := by decide +kernel
theorem dX5_meanLoad_53 : decode cX5_meanLoad 53 = .ok (.i2d, 1) := by decide +kernel
theorem dX5_meanLoad_54 : decode cX5_meanLoad 54 = .ok (.ddiv, 1) := by decide +kernel
theorem dX5_meanLoad_55 : decode cX5_meanLoad 55 = .ok (.dreturn, 1) := by decide +kernel
theorem dX5_isSound_0 : decode cX5_isSound 0 = .ok (.aload_n 0, 1) := by decide +kernel
theorem dX5_isSound_1 : decode cX5_isSound 1 = .ok (.iconst 0, 1) := by decide +kernel
theorem dX5_isSound_2 : decode cX5_isSound 2 = .ok (.putfield 87, 3) := by decide +kernel
theorem dX5_isSound_5 : decode cX5_isSound 5 = .ok (.iconst 0, 1) := by decide +kernel
theorem dX5_isSound_6 : decode cX5_isSound 6 = .ok (.istore_n 1, 1) := by decide +kernel
theorem dX5_isSound_7 : decode cX5_isSound 7 = .ok (.aload_n 0, 1) := by decide +kernel
theorem dX5_isSound_8 : decode cX5_isSound 8 = .ok (.getfield 71, 3) := by decide +kernel
theorem dX5_isSound_11 : decode cX5_isSound 11 = .ok (.ifCond .lt 32, 3) := by decide +kernel
theorem dX5_isSound_14 : decode cX5_isSound 14 = .ok (.iload_n 1, 1) := by decide +kernel
theorem dX5_isSound_15 : decode cX5_isSound 15 = .ok (.aload_n 0, 1) := by decide +kernel
theorem dX5_isSound_16 : decode cX5_isSound 16 = .ok (.getfield 90, 3) := by decide +kernel
theorem dX5_isSound_19 : decode cX5_isSound 19 = .ok (.if_icmp .ge 24, 3) := by decide +kernel
theorem dX5_isSound_22 : decode cX5_isSound 22 = .ok (.aload_n 0, 1) := by decide +kernel
theorem dX5_isSound_23 : decode cX5_isSound 23 = .ok (.iload_n 1, 1) := by decide +kernel
theorem dX5_isSound_24 : decode cX5_isSound 24 = .ok (.invokevirtual 144, 3) := by decide +kernel
theorem dX5_isSound_27 : decode cX5_isSound 27 = .ok (.aload_n 0, 1) := by decide +kernel
theorem dX5_isSound_28 : decode cX5_isSound 28 = .ok (.iload_n 1, 1) := by decide +kernel
theorem dX5_isSound_29 : decode cX5_isSound 29 = .ok (.invokevirtual 141, 3) := by decide +kernel
theorem dX5_isSound_32 : decode cX5_isSound 32 = .ok (.if_icmp .le 5, 3) := by decide +kernel
theorem dX5_isSound_35 : decode cX5_isSound 35 = .ok (.iconst 0, 1) := by decide +kernel
theorem dX5_isSound_36 : decode cX5_isSound 36 = .ok (.ireturn, 1) := by decide +kernel
theorem dX5_isSound_37 : decode cX5_isSound 37 = .ok (.iinc 1 1, 3) := by decide +kernel
theorem dX5_isSound_40 : decode cX5_isSound 40 = .ok (.goto (-33), 3) := by decide +kernel
theorem dX5_isSound_43 : decode cX5_isSound 43 = .ok (.iconst 1, 1) := by decide +kernel
theorem dX5_isSound_44 : decode cX5_isSound 44 = .ok (.ireturn, 1) := by decide +kernel
theorem dJx00060_init_a7421_0 : decode cJx00060_init_a7421 0 = .ok (.aload_n 0, 1) := by decide +kernel
theorem dJx00060_init_a7421_1 : decode cJx00060_init_a7421 1 = .ok (.aload_n 1, 1) := by decide +kernel
theorem dJx00060_init_a7421_2 : decode cJx00060_init_a7421 2 = .ok (.invokespecial 7, 3) := by decide +kernel
theorem dJx00060_init_a7421_5 : decode cJx00060_init_a7421 5 = .ok (.return_, 1) := by decide +kernel
theorem dJ6_bitCount_0f7a4_0 : decode cJ6_bitCount_0f7a4 0 = .ok (.iload_n 0, 1) := by decide +kernel
theorem dJ6_bitCount_0f7a4_1 : decode cJ6_bitCount_0f7a4 1 = .ok (.iload_n 0, 1) := by decide +kernel
theorem dJ6_bitCount_0f7a4_2 : decode cJ6_bitCount_0f7a4 2 = .ok (.iconst 1, 1) := by decide +kernel
theorem dJ6_bitCount_0f7a4_3 : decode cJ6_bitCount_0f7a4 3 = .ok (.iushr, 1) := by decide +kernel
theorem dJ6_bitCount_0f7a4_4 : decode cJ6_bitCount_0f7a4 4 = .ok (.ldc_w 265, 3) := by decide +kernel
theorem dJ6_bitCount_0f7a4_7 : decode cJ6_bitCount_0f7a4 7 = .ok (.iand, 1) := by decide +kernel
theorem dJ6_bitCount_0f7a4_8 : decode cJ6_bitCount_0f7a4 8 = .ok (.isub, 1) := by decide +kernel
theorem dJ6_bitCount_0f7a4_9 : decode cJ6_bitCount_0f7a4 9 = .ok (.istore_n 0, 1) := by decide +kernel
theorem dJ6_bitCount_0f7a4_10 : decode cJ6_bitCount_0f7a4 10 = .ok (.iload_n 0, 1) := by decide +kernel
theorem dJ6_bitCount_0f7a4_11 : decode cJ6_bitCount_0f7a4 11 = .ok (.ldc_w 266, 3) := by decide +kernel
theorem dJ6_bitCount_0f7a4_14 : decode cJ6_bitCount_0f7a4 14 = .ok (.iand, 1) := by decide +kernel
theorem dJ6_bitCount_0f7a4_15 : decode cJ6_bitCount_0f7a4 15 = .ok (.iload_n 0, 1) := by decide +kernel
theorem dJ6_bitCount_0f7a4_16 : decode cJ6_bitCount_0f7a4 16 = .ok (.iconst 2, 1) := by decide +kernel
theorem dJ6_bitCount_0f7a4_17 : decode cJ6_bitCount_0f7a4 17 = .ok (.iushr, 1) := by decide +kernel
theorem dJ6_bitCount_0f7a4_18 : decode cJ6_bitCount_0f7a4 18 = .ok (.ldc_w 266, 3) := by decide +kernel
theorem dJ6_bitCount_0f7a4_21 : decode cJ6_bitCount_0f7a4 21 = .ok (.iand, 1) := by decide +kernel
theorem dJ6_bitCount_0f7a4_22 : decode cJ6_bitCount_0f7a4 22 = .ok (.iadd, 1) := by decide +kernel
theorem dJ6_bitCount_0f7a4_23 : decode cJ6_bitCount_0f7a4 23 = .ok (.istore_n 0, 1) := by decide +kernel
theorem dJ6_bitCount_0f7a4_24 : decode cJ6_bitCount_0f7a4 24 = .ok (.iload_n 0, 1) := by decide +kernel
theorem dJ6_bitCount_0f7a4_25 : decode cJ6_bitCount_0f7a4 25 = .ok (.iload_n 0, 1) := by decide +kernel
theorem dJ6_bitCount_0f7a4_26 : decode cJ6_bitCount_0f7a4 26 = .ok (.iconst 4, 1) := by decide +kernel
theorem dJ6_bitCount_0f7a4_27 : decode cJ6_bitCount_0f7a4 27 = .ok (.iushr, 1) := by decide +kernel
theorem dJ6_bitCount_0f7a4_28 : decode cJ6_bitCount_0f7a4 28 = .ok (.iadd, 1) := by decide +kernel
theorem dJ6_bitCount_0f7a4_29 : decode cJ6_bitCount_0f7a4 29 = .ok (.ldc_w 267, 3) := by decide +kernel
theorem dJ6_bitCount_0f7a4_32 : decode cJ6_bitCount_0f7a4 32 = .ok (.iand, 1) := by decide +kernel
theorem dJ6_bitCount_0f7a4_33 : decode cJ6_bitCount_0f7a4 33 = .ok (.istore_n 0, 1) := by decide +kernel
theorem dJ6_bitCount_0f7a4_34 : decode cJ6_bitCount_0f7a4 34 = .ok (.iload_n 0, 1) := by decide +kernel
theorem dJ6_bitCount_0f7a4_35 : decode cJ6_bitCount_0f7a4 35 = .ok (.iload_n 0, 1) := by decide +kernel
theorem dJ6_bitCount_0f7a4_36 : decode cJ6_bitCount_0f7a4 36 = .ok (.bipush 8, 2) := by decide +kernel
theorem dJ6_bitCount_0f7a4_38 : decode cJ6_bitCount_0f7a4 38 = .ok (.iushr, 1) := by decide +kernel
theorem dJ6_bitCount_0f7a4_39 : decode cJ6_bitCount_0f7a4 39 = .ok (.iadd, 1) := by decide +kernel
theorem dJ6_bitCount_0f7a4_40 : decode cJ6_bitCount_0f7a4 40 = .ok (.istore_n 0, 1) := by decide +kernel
theorem dJ6_bitCount_0f7a4_41 : decode cJ6_bitCount_0f7a4 41 = .ok (.iload_n 0, 1) := by decide +kernel
theorem dJ6_bitCount_0f7a4_42 : decode cJ6_bitCount_0f7a4 42 = .ok (.iload_n 0, 1) := by decide +kernel
theorem dJ6_bitCount_0f7a4_43 : decode cJ6_bitCount_0f7a4 43 = .ok (.bipush 16, 2) := by decide +kernel
theorem dJ6_bitCount_0f7a4_45 : decode cJ6_bitCount_0f7a4 45 = .ok (.iushr, 1) := by decide +kernel
theorem dJ6_bitCount_0f7a4_46 : decode cJ6_bitCount_0f7a4 46 = .ok (.iadd, 1) := by decide +kernel
theorem dJ6_bitCount_0f7a4_47 : decode cJ6_bitCount_0f7a4 47 = .ok (.istore_n 0, 1) := by decide +kernel
theorem dJ6_bitCount_0f7a4_48 : decode cJ6_bitCount_0f7a4 48 = .ok (.iload_n 0, 1) := by decide +kernel
theorem dJ6_bitCount_0f7a4_49 : decode cJ6_bitCount_0f7a4 49 = .ok (.bipush 63, 2) := by decide +kernel
theorem dJ6_bitCount_0f7a4_51 : decode cJ6_bitCount_0f7a4 51 = .ok (.iand, 1) := by decide +kernel
theorem dJ6_bitCount_0f7a4_52 : decode cJ6_bitCount_0f7a4 52 = .ok (.ireturn, 1) := by decide +kernel
theorem dJ9_max_7cf53_0 : decode cJ9_max_7cf53 0 = .ok (.iload_n 0, 1) := by decide +kernel
theorem dJ9_max_7cf53_1 : decode cJ9_max_7cf53 1 = .ok (.iload_n 1, 1) := by decide +kernel
theorem dJ9_max_7cf53_2 : decode cJ9_max_7cf53 2 = .ok (.if_icmp .lt 7, 3) := by decide +kernel
theorem dJ9_max_7cf53_5 : decode cJ9_max_7cf53 5 = .ok (.iload_n 0, 1) := by decide +kernel
theorem dJ9_max_7cf53_6 : decode cJ9_max_7cf53 6 = .ok (.goto 4, 3) := by decide +kernel
theorem dJ9_max_7cf53_9 : decode cJ9_max_7cf53 9 = .ok (.iload_n 1, 1) := by decide +kernel
theorem dJ9_max_7cf53_10 : decode cJ9_max_7cf53 10 = .ok (.ireturn, 1) := by decide +kernel
theorem dJ9_min_7cf53_0 : decode cJ9_min_7cf53 0 = .ok (.iload_n 0, 1) := by decide +kernel
theorem dJ9_min_7cf53_1 : decode cJ9_min_7cf53 1 = .ok (.iload_n 1, 1) := by decide +kernel
theorem dJ9_min_7cf53_2 : decode cJ9_min_7cf53 2 = .ok (.if_icmp .gt 7, 3) := by decide +kernel
theorem dJ9_min_7cf53_5 : decode cJ9_min_7cf53 5 = .ok (.iload_n 0, 1) := by decide +kernel
theorem dJ9_min_7cf53_6 : decode cJ9_min_7cf53 6 = .ok (.goto 4, 3) := by decide +kernel
theorem dJ9_min_7cf53_9 : decode cJ9_min_7cf53 9 = .ok (.iload_n 1, 1) := by decide +kernel
theorem dJ9_min_7cf53_10 : decode cJ9_min_7cf53 10 = .ok (.ireturn, 1) := by decide +kernel
abbrev vwCl : List vw_C := [(RJ0, TJ0, 2), (RJx00060, TJx00060, 6), (RX0, TX0, 9), (RX1, TX1, 2), (RX2, TX2, 8), (RX3, TX3, 8), (RX4, TX4, 13), (RX5, TX5, 35)]
end
section
theorem dL_addPoint_0 : decode cL_addPoint 0 = .ok (.aload_n 3, 1) := by decide +kernel
theorem dL_addPoint_1 : decode cL_addPoint 1 = .ok (.iconst 0, 1) := by decide +kernel
theorem dL_addPoint_2 : decode cL_addPoint 2 = .ok (.aload_n 0, 1) := by decide +kernel
theorem dL_addPoint_3 : decode cL_addPoint 3 = .ok (.iload_n 1, 1) := by decide +kernel
theorem dL_addPoint_4 : decode cL_addPoint 4 = .ok (.iload_n 2, 1) := by decide +kernel
theorem dL_addPoint_5 : decode cL_addPoint 5 = .ok (.invokevirtual 7, 3) := by decide +kernel
theorem dL_addPoint_8 : decode cL_addPoint 8 = .ok (.i2l, 1) := by decide +kernel
theorem dL_addPoint_9 : decode cL_addPoint 9 = .ok (.lastore, 1) := by decide +kernel
theorem dL_addPoint_10 : decode cL_addPoint 10 = .ok (.goto 11, 3) := by decide +kernel
theorem dL_addPoint_13 : decode cL_addPoint 13 = .ok (.astore 4, 2) := by decide +kernel
theorem dL_addPoint_15 : decode cL_addPoint 15 = .ok (.iconst 1, 1) := by decide +kernel
theorem dL_addPoint_16 : decode cL_addPoint 16 = .ok (.ireturn, 1) := by decide +kernel
theorem dL_addPoint_17 : decode cL_addPoint 17 = .ok (.astore 4, 2) := by decide +kernel
theorem dL_addPoint_19 : decode cL_addPoint 19 = .ok (.iconst 2, 1) := by decide +kernel
theorem dL_addPoint_20 : decode cL_addPoint 20 = .ok (.ireturn, 1) := by decide +kernel
theorem dL_addPoint_21 : decode cL_addPoint 21 = .ok (.iconst 0, 1) := by decide +kernel
theorem dL_addPoint_22 : decode cL_addPoint 22 = .ok (.ireturn, 1) := by decide +kernel
theorem dL_addPiece_0 : decode cL_addPiece 0 = .ok (.aload 5, 2) := by decide +kernel
theorem dL_addPiece_2 : decode cL_addPiece 2 = .ok (.iconst 0, 1) := by decide +kernel
theorem dL_addPiece_3 : decode cL_addPiece 3 = .ok (.aload_n 0, 1) := by decide +kernel
theorem dL_addPiece_4 : decode cL_addPiece 4 = .ok (.iload_n 1, 1) := by decide +kernel
theorem dL_addPiece_5 : decode cL_addPiece 5 = .ok (.iload_n 2, 1) := by decide +kernel
theorem dL_addPiece_6 : decode cL_addPiece 6 = .ok (.iload_n 3, 1) := by decide +kernel
theorem dL_addPiece_7 : decode cL_addPiece 7 = .ok (.iload 4, 2) := by decide +kernel
theorem dL_addPiece_9 : decode cL_addPiece 9 = .ok (.invokevirtual 17, 3) := by decide +kernel
theorem dL_addPiece_12 : decode cL_addPiece 12 = .ok (.i2l, 1) := by decide +kernel
theorem dL_addPiece_13 : decode cL_addPiece 13 = .ok (.lastore, 1) := by decide +kernel
theorem dL_addPiece_14 : decode cL_addPiece 14 = .ok (.goto 11, 3) := by decide +kernel
theorem dL_addPiece_17 : decode cL_addPiece 17 = .ok (.astore 6, 2) := by decide +kernel
theorem dL_addPiece_19 : decode cL_addPiece 19 = .ok (.iconst 1, 1) := by decide +kernel
theorem dL_addPiece_20 : decode cL_addPiece 20 = .ok (.ireturn, 1) := by decide +kernel
theorem dL_addPiece_21 : decode cL_addPiece 21 = .ok (.astore 6, 2) := by decide +kernel
theorem dL_addPiece_23 : decode cL_addPiece 23 = .ok (.iconst 2, 1) := by decide +kernel
theorem dL_addPiece_24 : decode cL_addPiece 24 = .ok (.ireturn, 1) := by decide +kernel
theorem dL_addPiece_25 : decode cL_addPiece 25 = .ok (.iconst 0, 1) := by decide +kernel
theorem dL_addPiece_26 : decode cL_addPiece 26 = .ok (.ireturn, 1) := by decide +kernel
theorem dL_fix_0 : decode cL_fix 0 = .ok (.aload 6, 2) := by decide +kernel
theorem dL_fix_2 : decode cL_fix 2 = .ok (.iconst 0, 1) := by decide +kernel
theorem dL_fix_3 : decode cL_fix 3 = .ok (.aload_n 0, 1) := by decide +kernel
theorem dL_fix_4 : decode cL_fix 4 = .ok (.iload_n 1, 1) := by decide +kernel
theorem dL_fix_5 : decode cL_fix 5 = .ok (.iload_n 2, 1) := by decide +kernel
theorem dL_fix_6 : decode cL_fix 6 = .ok (.iload_n 3, 1) := by decide +kernel
theorem dL_fix_7 : decode cL_fix 7 = .ok (.iload 4, 2) := by decide +kernel
theorem dL_fix_9 : decode cL_fix 9 = .ok (.iload 5, 2) := by decide +kernel
theorem dL_fix_11 : decode cL_fix 11 = .ok (.invokevirtual 21, 3) := by decide +kernel
theorem dL_fix_14 : decode cL_fix 14 = .ok (.i2l, 1) := by decide +kernel
theorem dL_fix_15 : decode cL_fix 15 = .ok (.lastore, 1) := by decide +kernel
theorem dL_fix_16 : decode cL_fix 16 = .ok (.goto 19, 3) := by decide +kernel
theorem dL_fix_19 : decode cL_fix 19 = .ok (.astore 7, 2) := by decide +kernel
theorem dL_fix_21 : decode cL_fix 21 = .ok (.iconst 1, 1) := by decide +kernel
theorem dL_fix_22 : decode cL_fix 22 = .ok (.ireturn, 1) := by decide +kernel
theorem dL_fix_23 : decode cL_fix 23 = .ok (.astore 7, 2) := by decide +kernel
theorem dL_fix_25 : decode cL_fix 25 = .ok (.iconst 2, 1) := by decide +kernel
theorem dL_fix_26 : decode cL_fix 26 = .ok (.ireturn, 1) := by decide +kernel
theorem dL_fix_27 : decode cL_fix 27 = .ok (.astore 7, 2) := by decide +kernel
theorem dL_fix_29 : decode cL_fix 29 = .ok (.iconst 3, 1) := by decide +kernel
theorem dL_fix_30 : decode cL_fix 30 = .ok (.ireturn, 1) := by decide +kernel
theorem dL_fix_31 : decode cL_fix 31 = .ok (.astore 7, 2) := by decide +kernel
theorem dL_fix_33 : decode cL_fix 33 = .ok (.iconst 4, 1) := by decide +kernel
theorem dL_fix_34 : decode cL_fix 34 = .ok (.ireturn, 1) := by decide +kernel
theorem dL_fix_35 : decode cL_fix 35 = .ok (.iconst 0, 1) := by decide +kernel
theorem dL_fix_36 : decode cL_fix 36 = .ok (.ireturn, 1) := by decide +kernel
theorem dL_need_0 : decode cL_need 0 = .ok (.aload_n 3, 1) := by decide +kernel
theorem dL_need_1 : decode cL_need 1 = .ok (.iconst 0, 1) := by decide +kernel
theorem dL_need_2 : decode cL_need 2 = .ok (.aload_n 0, 1) := by decide +kernel
theorem dL_need_3 : decode cL_need 3 = .ok (.iload_n 1, 1) := by decide +kernel
theorem dL_need_4 : decode cL_need 4 = .ok (.iload_n 2, 1) := by decide +kernel
theorem dL_need_5 : decode cL_need 5 = .ok (.invokevirtual 29, 3) := by decide +kernel
theorem dL_need_8 : decode cL_need 8 = .ok (.i2l, 1) := by decide +kernel
theorem dL_need_9 : decode cL_need 9 = .ok (.lastore, 1) := by decide +kernel
theorem dL_need_10 : decode cL_need 10 = .ok (.goto 19, 3) := by decide +kernel
theorem dL_need_13 : decode cL_need 13 = .ok (.astore 4, 2) := by decide +kernel
theorem dL_need_15 : decode cL_need 15 = .ok (.iconst 1, 1) := by decide +kernel
theorem dL_need_16 : decode cL_need 16 = .ok (.ireturn, 1) := by decide +kernel
theorem dL_need_17 : decode cL_need 17 = .ok (.astore 4, 2) := by decide +kernel
theorem dL_need_19 : decode cL_need 19 = .ok (.iconst 2, 1) := by decide +kernel
theorem dL_need_20 : decode cL_need 20 = .ok (.ireturn, 1) := by decide +kernel
theorem dL_need_21 : decode cL_need 21 = .ok (.astore 4, 2) := by decide +kernel
theorem dL_need_23 : decode cL_need 23 = .ok (.iconst 3, 1) := by decide +kernel
theorem dL_need_24 : decode cL_need 24 = .ok (.ireturn, 1) := by decide +kernel
theorem dL_need_25 : decode cL_need 25 = .ok (.astore 4, 2) := by decide +kernel
theorem dL_need_27 : decode cL_need 27 = .ok (.iconst 4, 1) := by decide +kernel
theorem dL_need_28 : decode cL_need 28 = .ok (.ireturn, 1) := by decide +kernel
theorem dL_need_29 : decode cL_need 29 = .ok (.iconst 0, 1) := by decide +kernel
theorem dL_need_30 : decode cL_need 30 = .ok (.ireturn, 1) := by decide +kernel
theorem dL_setArrival_0 : decode cL_setArrival 0 = .ok (.aload_n 3, 1) := by decide +kernel
theorem dL_setArrival_1 : decode cL_setArrival 1 = .ok (.iconst 0, 1) := by decide +kernel
theorem dL_setArrival_2 : decode cL_setArrival 2 = .ok (.aload_n 0, 1) := by decide +kernel
theorem dL_setArrival_3 : decode cL_setArrival 3 = .ok (.iload_n 1, 1) := by decide +kernel
theorem dL_setArrival_4 : decode cL_setArrival 4 = .ok (.iload_n 2, 1) := by decide +kernel
theorem dL_setArrival_5 : decode cL_setArrival 5 = .ok (.invokevirtual 34, 3) := by decide +kernel
theorem dL_setArrival_8 : decode cL_setArrival 8 = .ok (.i2l, 1) := by decide +kernel
theorem dL_setArrival_9 : decode cL_setArrival 9 = .ok (.lastore, 1) := by decide +kernel
theorem dL_setArrival_10 : decode cL_setArrival 10 = .ok (.goto 15, 3) := by decide +kernel
theorem dL_setArrival_13 : decode cL_setArrival 13 = .ok (.astore 4, 2) := by decide +kernel
theorem dL_setArrival_15 : decode cL_setArrival 15 = .ok (.iconst 1, 1) := by decide +kernel
theorem dL_setArrival_16 : decode cL_setArrival 16 = .ok (.ireturn, 1) := by decide +kernel
theorem dL_setArrival_17 : decode cL_setArrival 17 = .ok (.astore 4, 2) := by decide +kernel
theorem dL_setArrival_19 : decode cL_setArrival 19 = .ok (.iconst 2, 1) := by decide +kernel
theorem dL_setArrival_20 : decode cL_setArrival 20 = .ok (.ireturn, 1) := by decide +kernel
theorem dL_setArrival_21 : decode cL_setArrival 21 = .ok (.astore 4, 2) := by decide +kernel
theorem dL_setArrival_23 : decode cL_setArrival 23 = .ok (.iconst 3, 1) := by decide +kernel
theorem dL_setArrival_24 : decode cL_setArrival 24 = .ok (.ireturn, 1) := by decide +kernel
theorem dL_setArrival_25 : decode cL_setArrival 25 = .ok (.iconst 0, 1) := by decide +kernel
theorem dL_setArrival_26 : decode cL_setArrival 26 = .ok (.ireturn, 1) := by decide +kernel
theorem dL_addTown_0 : decode cL_addTown 0 = .ok (.aload 5, 2) := by decide +kernel
theorem dL_addTown_2 : decode cL_addTown 2 = .ok (.iconst 0, 1) := by decide +kernel
theorem dL_addTown_3 : decode cL_addTown 3 = .ok (.aload_n 0, 1) := by decide +kernel
theorem dL_addTown_4 : decode cL_addTown 4 = .ok (.iload_n 1, 1) := by decide +kernel
theorem dL_addTown_5 : decode cL_addTown 5 = .ok (.iload_n 2, 1) := by decide +kernel
theorem dL_addTown_6 : decode cL_addTown 6 = .ok (.iload_n 3, 1) := by decide +kernel
theorem dL_addTown_7 : decode cL_addTown 7 = .ok (.iload 4, 2) := by decide +kernel
theorem dL_addTown_9 : decode cL_addTown 9 = .ok (.invokevirtual 37, 3) := by decide +kernel
theorem dL_addTown_12 : decode cL_addTown 12 = .ok (.i2l, 1) := by decide +kernel
theorem dL_addTown_13 : decode cL_addTown 13 = .ok (.lastore, 1) := by decide +kernel
theorem dL_addTown_14 : decode cL_addTown 14 = .ok (.goto 11, 3) := by decide +kernel
theorem dL_addTown_17 : decode cL_addTown 17 = .ok (.astore 6, 2) := by decide +kernel
theorem dL_addTown_19 : decode cL_addTown 19 = .ok (.iconst 1, 1) := by decide +kernel
theorem dL_addTown_20 : decode cL_addTown 20 = .ok (.ireturn, 1) := by decide +kernel
theorem dL_addTown_21 : decode cL_addTown 21 = .ok (.astore 6, 2) := by decide +kernel
theorem dL_addTown_23 : decode cL_addTown 23 = .ok (.iconst 2, 1) := by decide +kernel
theorem dL_addTown_24 : decode cL_addTown 24 = .ok (.ireturn, 1) := by decide +kernel
theorem dL_addTown_25 : decode cL_addTown 25 = .ok (.iconst 0, 1) := by decide +kernel
theorem dL_addTown_26 : decode cL_addTown 26 = .ok (.ireturn, 1) := by decide +kernel
theorem dL_setRates_0 : decode cL_setRates 0 = .ok (.aload 5, 2) := by decide +kernel
theorem dL_setRates_2 : decode cL_setRates 2 = .ok (.iconst 0, 1) := by decide +kernel
theorem dL_setRates_3 : decode cL_setRates 3 = .ok (.aload_n 0, 1) := by decide +kernel
theorem dL_setRates_4 : decode cL_setRates 4 = .ok (.iload_n 1, 1) := by decide +kernel
theorem dL_setRates_5 : decode cL_setRates 5 = .ok (.iload_n 2, 1) := by decide +kernel
theorem dL_setRates_6 : decode cL_setRates 6 = .ok (.iload_n 3, 1) := by decide +kernel
theorem dL_setRates_7 : decode cL_setRates 7 = .ok (.iload 4, 2) := by decide +kernel
theorem dL_setRates_9 : decode cL_setRates 9 = .ok (.invokevirtual 40, 3) := by decide +kernel
theorem dL_setRates_12 : decode cL_setRates 12 = .ok (.i2l, 1) := by decide +kernel
theorem dL_setRates_13 : decode cL_setRates 13 = .ok (.lastore, 1) := by decide +kernel
theorem dL_setRates_14 : decode cL_setRates 14 = .ok (.goto 11, 3) := by decide +kernel
theorem dL_setRates_17 : decode cL_setRates 17 = .ok (.astore 6, 2) := by decide +kernel
theorem dL_setRates_19 : decode cL_setRates 19 = .ok (.iconst 1, 1) := by decide +kernel
theorem dL_setRates_20 : decode cL_setRates 20 = .ok (.ireturn, 1) := by decide +kernel
theorem dL_setRates_21 : decode cL_setRates 21 = .ok (.astore 6, 2) := by decide +kernel
theorem dL_setRates_23 : decode cL_setRates 23 = .ok (.iconst 2, 1) := by decide +kernel
theorem dL_setRates_24 : decode cL_setRates 24 = .ok (.ireturn, 1) := by decide +kernel
theorem dL_setRates_25 : decode cL_setRates 25 = .ok (.iconst 0, 1) := by decide +kernel
theorem dL_setRates_26 : decode cL_setRates 26 = .ok (.ireturn, 1) := by decide +kernel
theorem dL_come_0 : decode cL_come 0 = .ok (.aload_n 2, 1) := by decide +kernel
theorem dL_come_1 : decode cL_come 1 = .ok (.iconst 0, 1) := by decide +kernel
theorem dL_come_2 : decode cL_come 2 = .ok (.aload_n 0, 1) := by decide +kernel
theorem dL_come_3 : decode cL_come 3 = .ok (.iload_n 1, 1) := by decide +kernel
theorem dL_come_4 : decode cL_come 4 = .ok (.invokevirtual 43, 3) := by decide +kernel
theorem dL_come_7 : decode cL_come 7 = .ok (.i2l, 1) := by decide +kernel
theorem dL_come_8 : decode cL_come 8 = .ok (.lastore, 1) := by decide +kernel
theorem dL_come_9 : decode cL_come 9 = .ok (.goto 6, 3) := by decide +kernel
theorem dL_come_12 : decode cL_come 12 = .ok (.astore_n 3, 1) := by decide +kernel
theorem dL_come_13 : decode cL_come 13 = .ok (.iconst 1, 1) := by decide +kernel
theorem dL_come_14 : decode cL_come 14 = .ok (.ireturn, 1) := by decide +kernel
theorem dL_come_15 : decode cL_come 15 = .ok (.iconst 0, 1) := by decide +kernel
theorem dL_come_16 : decode cL_come 16 = .ok (.ireturn, 1) := by decide +kernel
theorem dL_town_0 : decode cL_town 0 = .ok (.aload_n 1, 1) := by decide +kernel
theorem dL_town_1 : decode cL_town 1 = .ok (.iconst 0, 1) := by decide +kernel
theorem dL_town_2 : decode cL_town 2 = .ok (.aload_n 0, 1) := by decide +kernel
theorem dL_town_3 : decode cL_town 3 = .ok (.invokevirtual 47, 3) := by decide +kernel
theorem dL_town_6 : decode cL_town 6 = .ok (.i2l, 1) := by decide +kernel
theorem dL_town_7 : decode cL_town 7 = .ok (.lastore, 1) := by decide +kernel
theorem dL_town_8 : decode cL_town 8 = .ok (.goto 6, 3) := by decide +kernel
theorem dL_town_11 : decode cL_town 11 = .ok (.astore_n 2, 1) := by decide +kernel
theorem dL_town_12 : decode cL_town 12 = .ok (.iconst 1, 1) := by decide +kernel
theorem dL_town_13 : decode cL_town 13 = .ok (.ireturn, 1) := by decide +kernel
theorem dL_town_14 : decode cL_town 14 = .ok (.iconst 0, 1) := by decide +kernel
theorem dL_town_15 : decode cL_town 15 = .ok (.ireturn, 1) := by decide +kernel
theorem dL_loadOn_0 : decode cL_loadOn 0 = .ok (.aload_n 3, 1) := by decide +kernel
theorem dL_loadOn_1 : decode cL_loadOn 1 = .ok (.iconst 0, 1) := by decide +kernel
theorem dL_loadOn_2 : decode cL_loadOn 2 = .ok (.aload_n 0, 1) := by decide +kernel
theorem dL_loadOn_3 : decode cL_loadOn 3 = .ok (.iload_n 1, 1) := by decide +kernel
theorem dL_loadOn_4 : decode cL_loadOn 4 = .ok (.iload_n 2, 1) := by decide +kernel
theorem dL_loadOn_5 : decode cL_loadOn 5 = .ok (.invokevirtual 51, 3) := by decide +kernel
theorem dL_loadOn_8 : decode cL_loadOn 8 = .ok (.i2l, 1) := by decide +kernel
theorem dL_loadOn_9 : decode cL_loadOn 9 = .ok (.lastore, 1) := by decide +kernel
theorem dL_loadOn_10 : decode cL_loadOn 10 = .ok (.goto 11, 3) := by decide +kernel
theorem dL_loadOn_13 : decode cL_loadOn 13 = .ok (.astore 4, 2) := by decide +kernel
theorem dL_loadOn_15 : decode cL_loadOn 15 = .ok (.iconst 1, 1) := by decide +kernel
theorem dL_loadOn_16 : decode cL_loadOn 16 = .ok (.ireturn, 1) := by decide +kernel
theorem dL_loadOn_17 : decode cL_loadOn 17 = .ok (.astore 4, 2) := by decide +kernel
theorem dL_loadOn_19 : decode cL_loadOn 19 = .ok (.iconst 2, 1) := by decide +kernel
theorem dL_loadOn_20 : decode cL_loadOn 20 = .ok (.ireturn, 1) := by decide +kernel
theorem dL_loadOn_21 : decode cL_loadOn 21 = .ok (.iconst 0, 1) := by decide +kernel
theorem dL_loadOn_22 : decode cL_loadOn 22 = .ok (.ireturn, 1) := by decide +kernel
theorem dL_mayBear_0 : decode cL_mayBear 0 = .ok (.aload_n 2, 1) := by decide +kernel
theorem dL_mayBear_1 : decode cL_mayBear 1 = .ok (.iconst 0, 1) := by decide +kernel
theorem dL_mayBear_2 : decode cL_mayBear 2 = .ok (.aload_n 0, 1) := by decide +kernel
theorem dL_mayBear_3 : decode cL_mayBear 3 = .ok (.iload_n 1, 1) := by decide +kernel
theorem dL_mayBear_4 : decode cL_mayBear 4 = .ok (.invokevirtual 54, 3) := by decide +kernel
theorem dL_mayBear_7 : decode cL_mayBear 7 = .ok (.i2l, 1) := by decide +kernel
theorem dL_mayBear_8 : decode cL_mayBear 8 = .ok (.lastore, 1) := by decide +kernel
theorem dL_mayBear_9 : decode cL_mayBear 9 = .ok (.goto 9, 3) := by decide +kernel
theorem dL_mayBear_12 : decode cL_mayBear 12 = .ok (.astore_n 3, 1) := by decide +kernel
theorem dL_mayBear_13 : decode cL_mayBear 13 = .ok (.iconst 1, 1) := by decide +kernel
theorem dL_mayBear_14 : decode cL_mayBear 14 = .ok (.ireturn, 1) := by decide +kernel
theorem dL_mayBear_15 : decode cL_mayBear 15 = .ok (.astore_n 3, 1) := by decide +kernel
theorem dL_mayBear_16 : decode cL_mayBear 16 = .ok (.iconst 2, 1) := by decide +kernel
theorem dL_mayBear_17 : decode cL_mayBear 17 = .ok (.ireturn, 1) := by decide +kernel
theorem dL_mayBear_18 : decode cL_mayBear 18 = .ok (.iconst 0, 1) := by decide +kernel
theorem dL_mayBear_19 : decode cL_mayBear 19 = .ok (.ireturn, 1) := by decide +kernel
theorem dL_bears_0 : decode cL_bears 0 = .ok (.aload_n 2, 1) := by decide +kernel
theorem dL_bears_1 : decode cL_bears 1 = .ok (.iconst 0, 1) := by decide +kernel
theorem dL_bears_2 : decode cL_bears 2 = .ok (.aload_n 0, 1) := by decide +kernel
theorem dL_bears_3 : decode cL_bears 3 = .ok (.iload_n 1, 1) := by decide +kernel
theorem dL_bears_4 : decode cL_bears 4 = .ok (.invokevirtual 57, 3) := by decide +kernel
theorem dL_bears_7 : decode cL_bears 7 = .ok (.i2l, 1) := by decide +kernel
theorem dL_bears_8 : decode cL_bears 8 = .ok (.lastore, 1) := by decide +kernel
theorem dL_bears_9 : decode cL_bears 9 = .ok (.goto 6, 3) := by decide +kernel
theorem dL_bears_12 : decode cL_bears 12 = .ok (.astore_n 3, 1) := by decide +kernel
theorem dL_bears_13 : decode cL_bears 13 = .ok (.iconst 1, 1) := by decide +kernel
theorem dL_bears_14 : decode cL_bears 14 = .ok (.ireturn, 1) := by decide +kernel
theorem dL_bears_15 : decode cL_bears 15 = .ok (.iconst 0, 1) := by decide +kernel
theorem dL_bears_16 : decode cL_bears 16 = .ok (.ireturn, 1) := by decide +kernel
theorem dL_reason_0 : decode cL_reason 0 = .ok (.aload_n 2, 1) := by decide +kernel
theorem dL_reason_1 : decode cL_reason 1 = .ok (.iconst 0, 1) := by decide +kernel
theorem dL_reason_2 : decode cL_reason 2 = .ok (.aload_n 0, 1) := by decide +kernel
theorem dL_reason_3 : decode cL_reason 3 = .ok (.iload_n 1, 1) := by decide +kernel
theorem dL_reason_4 : decode cL_reason 4 = .ok (.invokevirtual 60, 3) := by decide +kernel
theorem dL_reason_7 : decode cL_reason 7 = .ok (.i2l, 1) := by decide +kernel
theorem dL_reason_8 : decode cL_reason 8 = .ok (.lastore, 1) := by decide +kernel
theorem dL_reason_9 : decode cL_reason 9 = .ok (.goto 6, 3) := by decide +kernel
theorem dL_reason_12 : decode cL_reason 12 = .ok (.astore_n 3, 1) := by decide +kernel
theorem dL_reason_13 : decode cL_reason 13 = .ok (.iconst 1, 1) := by decide +kernel
theorem dL_reason_14 : decode cL_reason 14 = .ok (.ireturn, 1) := by decide +kernel
theorem dL_reason_15 : decode cL_reason 15 = .ok (.iconst 0, 1) := by decide +kernel
theorem dL_reason_16 : decode cL_reason 16 = .ok (.ireturn, 1) := by decide +kernel
theorem dL_hang_0 : decode cL_hang 0 = .ok (.aload_n 2, 1) := by decide +kernel
theorem dL_hang_1 : decode cL_hang 1 = .ok (.iconst 0, 1) := by decide +kernel
theorem dL_hang_2 : decode cL_hang 2 = .ok (.aload_n 0, 1) := by decide +kernel
theorem dL_hang_3 : decode cL_hang 3 = .ok (.iload_n 1, 1) := by decide +kernel
theorem dL_hang_4 : decode cL_hang 4 = .ok (.invokevirtual 64, 3) := by decide +kernel
theorem dL_hang_7 : decode cL_hang 7 = .ok (.i2l, 1) := by decide +kernel
theorem dL_hang_8 : decode cL_hang 8 = .ok (.lastore, 1) := by decide +kernel
theorem dL_hang_9 : decode cL_hang 9 = .ok (.goto 9, 3) := by decide +kernel
theorem dL_hang_12 : decode cL_hang 12 = .ok (.astore_n 3, 1) := by decide +kernel
theorem dL_hang_13 : decode cL_hang 13 = .ok (.iconst 1, 1) := by decide +kernel
theorem dL_hang_14 : decode cL_hang 14 = .ok (.ireturn, 1) := by decide +kernel
theorem dL_hang_15 : decode cL_hang 15 = .ok (.astore_n 3, 1) := by decide +kernel
theorem dL_hang_16 : decode cL_hang 16 = .ok (.iconst 2, 1) := by decide +kernel
theorem dL_hang_17 : decode cL_hang 17 = .ok (.ireturn, 1) := by decide +kernel
theorem dL_hang_18 : decode cL_hang 18 = .ok (.iconst 0, 1) := by decide +kernel
theorem dL_hang_19 : decode cL_hang 19 = .ok (.ireturn, 1) := by decide +kernel
theorem dL_takeDown_0 : decode cL_takeDown 0 = .ok (.aload_n 1, 1) := by decide +kernel
theorem dL_takeDown_1 : decode cL_takeDown 1 = .ok (.iconst 0, 1) := by decide +kernel
theorem dL_takeDown_2 : decode cL_takeDown 2 = .ok (.aload_n 0, 1) := by decide +kernel
theorem dL_takeDown_3 : decode cL_takeDown 3 = .ok (.invokevirtual 67, 3) := by decide +kernel
theorem dL_takeDown_6 : decode cL_takeDown 6 = .ok (.i2l, 1) := by decide +kernel
theorem dL_takeDown_7 : decode cL_takeDown 7 = .ok (.lastore, 1) := by decide +kernel
theorem dL_takeDown_8 : decode cL_takeDown 8 = .ok (.goto 6, 3) := by decide +kernel
theorem dL_takeDown_11 : decode cL_takeDown 11 = .ok (.astore_n 2, 1) := by decide +kernel
theorem dL_takeDown_12 : decode cL_takeDown 12 = .ok (.iconst 1, 1) := by decide +kernel
theorem dL_takeDown_13 : decode cL_takeDown 13 = .ok (.ireturn, 1) := by decide +kernel
theorem dL_takeDown_14 : decode cL_takeDown 14 = .ok (.iconst 0, 1) := by decide +kernel
theorem dL_takeDown_15 : decode cL_takeDown 15 = .ok (.ireturn, 1) := by decide +kernel
theorem dL_hungAt_0 : decode cL_hungAt 0 = .ok (.aload_n 2, 1) := by decide +kernel
theorem dL_hungAt_1 : decode cL_hungAt 1 = .ok (.iconst 0, 1) := by decide +kernel
theorem dL_hungAt_2 : decode cL_hungAt 2 = .ok (.aload_n 0, 1) := by decide +kernel
theorem dL_hungAt_3 : decode cL_hungAt 3 = .ok (.iload_n 1, 1) := by decide +kernel
theorem dL_hungAt_4 : decode cL_hungAt 4 = .ok (.invokevirtual 70, 3) := by decide +kernel
theorem dL_hungAt_7 : decode cL_hungAt 7 = .ok (.i2l, 1) := by decide +kernel
theorem dL_hungAt_8 : decode cL_hungAt 8 = .ok (.lastore, 1) := by decide +kernel
theorem dL_hungAt_9 : decode cL_hungAt 9 = .ok (.goto 6, 3) := by decide +kernel
theorem dL_hungAt_12 : decode cL_hungAt 12 = .ok (.astore_n 3, 1) := by decide +kernel
theorem dL_hungAt_13 : decode cL_hungAt 13 = .ok (.iconst 1, 1) := by decide +kernel
theorem dL_hungAt_14 : decode cL_hungAt 14 = .ok (.ireturn, 1) := by decide +kernel
theorem dL_hungAt_15 : decode cL_hungAt 15 = .ok (.iconst 0, 1) := by decide +kernel
theorem dL_hungAt_16 : decode cL_hungAt 16 = .ok (.ireturn, 1) := by decide +kernel
theorem dL_beginOf_0 : decode cL_beginOf 0 = .ok (.aload_n 2, 1) := by decide +kernel
theorem dL_beginOf_1 : decode cL_beginOf 1 = .ok (.iconst 0, 1) := by decide +kernel
theorem dL_beginOf_2 : decode cL_beginOf 2 = .ok (.aload_n 0, 1) := by decide +kernel
theorem dL_beginOf_3 : decode cL_beginOf 3 = .ok (.iload_n 1, 1) := by decide +kernel
theorem dL_beginOf_4 : decode cL_beginOf 4 = .ok (.invokevirtual 73, 3) := by decide +kernel
theorem dL_beginOf_7 : decode cL_beginOf 7 = .ok (.i2l, 1) := by decide +kernel
theorem dL_beginOf_8 : decode cL_beginOf 8 = .ok (.lastore, 1) := by decide +kernel
theorem dL_beginOf_9 : decode cL_beginOf 9 = .ok (.goto 6, 3) := by decide +kernel
theorem dL_beginOf_12 : decode cL_beginOf 12 = .ok (.astore_n 3, 1) := by decide +kernel
theorem dL_beginOf_13 : decode cL_beginOf 13 = .ok (.iconst 1, 1) := by decide +kernel
theorem dL_beginOf_14 : decode cL_beginOf 14 = .ok (.ireturn, 1) := by decide +kernel
theorem dL_beginOf_15 : decode cL_beginOf 15 = .ok (.iconst 0, 1) := by decide +kernel
theorem dL_beginOf_16 : decode cL_beginOf 16 = .ok (.ireturn, 1) := by decide +kernel
theorem dL_bestAt_0 : decode cL_bestAt 0 = .ok (.aload_n 2, 1) := by decide +kernel
theorem dL_bestAt_1 : decode cL_bestAt 1 = .ok (.iconst 0, 1) := by decide +kernel
theorem dL_bestAt_2 : decode cL_bestAt 2 = .ok (.aload_n 0, 1) := by decide +kernel
theorem dL_bestAt_3 : decode cL_bestAt 3 = .ok (.iload_n 1, 1) := by decide +kernel
theorem dL_bestAt_4 : decode cL_bestAt 4 = .ok (.invokevirtual 76, 3) := by decide +kernel
theorem dL_bestAt_7 : decode cL_bestAt 7 = .ok (.i2l, 1) := by decide +kernel
theorem dL_bestAt_8 : decode cL_bestAt 8 = .ok (.lastore, 1) := by decide +kernel
theorem dL_bestAt_9 : decode cL_bestAt 9 = .ok (.goto 6, 3) := by decide +kernel
theorem dL_bestAt_12 : decode cL_bestAt 12 = .ok (.astore_n 3, 1) := by decide +kernel
theorem dL_bestAt_13 : decode cL_bestAt 13 = .ok (.iconst 1, 1) := by decide +kernel
theorem dL_bestAt_14 : decode cL_bestAt 14 = .ok (.ireturn, 1) := by decide +kernel
theorem dL_bestAt_15 : decode cL_bestAt 15 = .ok (.iconst 0, 1) := by decide +kernel
theorem dL_bestAt_16 : decode cL_bestAt 16 = .ok (.ireturn, 1) := by decide +kernel
theorem dL_tightest_0 : decode cL_tightest 0 = .ok (.aload_n 1, 1) := by decide +kernel
theorem dL_tightest_1 : decode cL_tightest 1 = .ok (.iconst 0, 1) := by decide +kernel
theorem dL_tightest_2 : decode cL_tightest 2 = .ok (.aload_n 0, 1) := by decide +kernel
theorem dL_tightest_3 : decode cL_tightest 3 = .ok (.invokevirtual 79, 3) := by decide +kernel
theorem dL_tightest_6 : decode cL_tightest 6 = .ok (.i2l, 1) := by decide +kernel
theorem dL_tightest_7 : decode cL_tightest 7 = .ok (.lastore, 1) := by decide +kernel
theorem dL_tightest_8 : decode cL_tightest 8 = .ok (.goto 9, 3) := by decide +kernel
theorem dL_tightest_11 : decode cL_tightest 11 = .ok (.astore_n 2, 1) := by decide +kernel
theorem dL_tightest_12 : decode cL_tightest 12 = .ok (.iconst 1, 1) := by decide +kernel
theorem dL_tightest_13 : decode cL_tightest 13 = .ok (.ireturn, 1) := by decide +kernel
theorem dL_tightest_14 : decode cL_tightest 14 = .ok (.astore_n 2, 1) := by decide +kernel
theorem dL_tightest_15 : decode cL_tightest 15 = .ok (.iconst 2, 1) := by decide +kernel
theorem dL_tightest_16 : decode cL_tightest 16 = .ok (.ireturn, 1) := by decide +kernel
theorem dL_tightest_17 : decode cL_tightest 17 = .ok (.iconst 0, 1) := by decide +kernel
theorem dL_tightest_18 : decode cL_tightest 18 = .ok (.ireturn, 1) := by decide +kernel
theorem dL_hungShare_0 : decode cL_hungShare 0 = .ok (.aload_n 1, 1) := by decide +kernel
theorem dL_hungShare_1 : decode cL_hungShare 1 = .ok (.iconst 0, 1) := by decide +kernel
theorem dL_hungShare_2 : decode cL_hungShare 2 = .ok (.aload_n 0, 1) := by decide +kernel
theorem dL_hungShare_3 : decode cL_hungShare 3 = .ok (.invokevirtual 82, 3) := by decide +kernel
theorem dL_hungShare_6 : decode cL_hungShare 6 = .ok (.f2d, 1) := by decide +kernel
theorem dL_hungShare_7 : decode cL_hungShare 7 = .ok (.dastore, 1) := by decide +kernel
theorem dL_hungShare_8 : decode cL_hungShare 8 = .ok (.goto 6, 3) := by decide +kernel
theorem dL_hungShare_11 : decode cL_hungShare 11 = .ok (.astore_n 2, 1) := by decide +kernel
theorem dL_hungShare_12 : decode cL_hungShare 12 = .ok (.iconst 1, 1) := by decide +kernel
theorem dL_hungShare_13 : decode cL_hungShare 13 = .ok (.ireturn, 1) := by decide +kernel
theorem dL_hungShare_14 : decode cL_hungShare 14 = .ok (.iconst 0, 1) := by decide +kernel
theorem dL_hungShare_15 : decode cL_hungShare 15 = .ok (.ireturn, 1) := by decide +kernel
theorem dL_meanLoad_0 : decode cL_meanLoad 0 = .ok (.aload_n 1, 1) := by decide +kernel
theorem dL_meanLoad_1 : decode cL_meanLoad 1 = .ok (.iconst 0, 1) := by decide +kernel
theorem dL_meanLoad_2 : decode cL_meanLoad 2 = .ok (.aload_n 0, 1) := by decide +kernel
theorem dL_meanLoad_3 : decode cL_meanLoad 3 = .ok (.invokevirtual 88, 3) := by decide +kernel
theorem dL_meanLoad_6 : decode cL_meanLoad 6 = .ok (.dastore, 1) := by decide +kernel
theorem dL_meanLoad_7 : decode cL_meanLoad 7 = .ok (.goto 6, 3) := by decide +kernel
theorem dL_meanLoad_10 : decode cL_meanLoad 10 = .ok (.astore_n 2, 1) := by decide +kernel
theorem dL_meanLoad_11 : decode cL_meanLoad 11 = .ok (.iconst 1, 1) := by decide +kernel
theorem dL_meanLoad_12 : decode cL_meanLoad 12 = .ok (.ireturn, 1) := by decide +kernel
theorem dL_meanLoad_13 : decode cL_meanLoad 13 = .ok (.iconst 0, 1) := by decide +kernel
theorem dL_meanLoad_14 : decode cL_meanLoad 14 = .ok (.ireturn, 1) := by decide +kernel
theorem dL_law_0 : decode cL_law 0 = .ok (.new 8, 3) := by decide +kernel
theorem dL_law_3 : decode cL_law 3 = .ok (.dup, 1) := by decide +kernel
theorem dL_law_4 : decode cL_law 4 = .ok (.invokespecial 92, 3) := by decide +kernel
theorem dL_law_7 : decode cL_law 7 = .ok (.astore_n 1, 1) := by decide +kernel
theorem dL_law_8 : decode cL_law 8 = .ok (.new 93, 3) := by decide +kernel
theorem dL_law_11 : decode cL_law 11 = .ok (.dup, 1) := by decide +kernel
theorem dL_law_12 : decode cL_law 12 = .ok (.invokespecial 95, 3) := by decide +kernel
theorem dL_law_15 : decode cL_law 15 = .ok (.astore_n 2, 1) := by decide +kernel
theorem dL_law_16 : decode cL_law 16 = .ok (.iconst 1, 1) := by decide +kernel
theorem dL_law_17 : decode cL_law 17 = .ok (.newarray .long, 2) := by decide +kernel
theorem dL_law_19 : decode cL_law 19 = .ok (.astore_n 3, 1) := by decide +kernel
theorem dL_law_20 : decode cL_law 20 = .ok (.iconst 1, 1) := by decide +kernel
theorem dL_law_21 : decode cL_law 21 = .ok (.newarray .double, 2) := by decide +kernel
theorem dL_law_23 : decode cL_law 23 = .ok (.astore 4, 2) := by decide +kernel
theorem dL_law_25 : decode cL_law 25 = .ok (.iconst 0, 1) := by decide +kernel
theorem dL_law_26 : decode cL_law 26 = .ok (.istore 5, 2) := by decide +kernel
theorem dL_law_28 : decode cL_law 28 = .ok (.iload 5, 2) := by decide +kernel
theorem dL_law_30 : decode cL_law 30 = .ok (.aload_n 0, 1) := by decide +kernel
theorem dL_law_31 : decode cL_law 31 = .ok (.arraylength, 1) := by decide +kernel
theorem dL_law_32 : decode cL_law 32 = .ok (.bipush 6, 2) := by decide +kernel
theorem dL_law_34 : decode cL_law 34 = .ok (.isub, 1) := by decide +kernel
theorem dL_law_35 : decode cL_law 35 = .ok (.if_icmp .gt 1701, 3) := by decide +kernel
theorem dL_law_38 : decode cL_law 38 = .ok (.aload_n 0, 1) := by decide +kernel
theorem dL_law_39 : decode cL_law 39 = .ok (.iload 5, 2) := by decide +kernel
theorem dL_law_41 : decode cL_law 41 = .ok (.iaload, 1) := by decide +kernel
theorem dL_law_42 : decode cL_law 42 = .ok (.bipush 63, 2) := by decide +kernel
theorem dL_law_44 : decode cL_law 44 = .ok (.iand, 1) := by decide +kernel
theorem dL_law_45 : decode cL_law 45 = .ok (.tableswitch 1685 0 33 #[151, 219, 311, 415, 483, 551, 643, 735, 791, 835, 903, 959, 1015, 1071, 1127, 1171, 1184, 1240, 1296, 1309, 1322, 1336, 1350, 1363, 1376, 1389, 1402, 1415, 1471, 1484, 1497, 1541, 1607, 1672], 151) := by decide +kernel
theorem dL_law_196 : decode cL_law 196 = .ok (.aload_n 1, 1) := by decide +kernel
theorem dL_law_197 : decode cL_law 197 = .ok (.aload_n 0, 1) := by decide +kernel
theorem dL_law_198 : decode cL_law 198 = .ok (.iload 5, 2) := by decide +kernel
theorem dL_law_200 : decode cL_law 200 = .ok (.iconst 1, 1) := by decide +kernel
theorem dL_law_201 : decode cL_law 201 = .ok (.iadd, 1) := by decide +kernel
theorem dL_law_202 : decode cL_law 202 = .ok (.iaload, 1) := by decide +kernel
theorem dL_law_203 : decode cL_law 203 = .ok (.aload_n 0, 1) := by decide +kernel
theorem dL_law_204 : decode cL_law 204 = .ok (.iload 5, 2) := by decide +kernel
theorem dL_law_206 : decode cL_law 206 = .ok (.iconst 2, 1) := by decide +kernel
theorem dL_law_207 : decode cL_law 207 = .ok (.iadd, 1) := by decide +kernel
theorem dL_law_208 : decode cL_law 208 = .ok (.iaload, 1) := by decide +kernel
theorem dL_law_209 : decode cL_law 209 = .ok (.aload_n 3, 1) := by decide +kernel
theorem dL_law_210 : decode cL_law 210 = .ok (.invokestatic 96, 3) := by decide +kernel
theorem dL_law_213 : decode cL_law 213 = .ok (.istore 6, 2) := by decide +kernel
theorem dL_law_215 : decode cL_law 215 = .ok (.aload_n 2, 1) := by decide +kernel
theorem dL_law_216 : decode cL_law 216 = .ok (.aload_n 0, 1) := by decide +kernel
theorem dL_law_217 : decode cL_law 217 = .ok (.iload 5, 2) := by decide +kernel
theorem dL_law_219 : decode cL_law 219 = .ok (.iconst 1, 1) := by decide +kernel
theorem dL_law_220 : decode cL_law 220 = .ok (.iadd, 1) := by decide +kernel
theorem dL_law_221 : decode cL_law 221 = .ok (.iaload, 1) := by decide +kernel
theorem dL_law_222 : decode cL_law 222 = .ok (.aload_n 0, 1) := by decide +kernel
theorem dL_law_223 : decode cL_law 223 = .ok (.iload 5, 2) := by decide +kernel
theorem dL_law_225 : decode cL_law 225 = .ok (.iconst 2, 1) := by decide +kernel
theorem dL_law_226 : decode cL_law 226 = .ok (.iadd, 1) := by decide +kernel
theorem dL_law_227 : decode cL_law 227 = .ok (.iaload, 1) := by decide +kernel
theorem dL_law_228 : decode cL_law 228 = .ok (.invokevirtual 101, 3) := by decide +kernel
theorem dL_law_231 : decode cL_law 231 = .ok (.istore 7, 2) := by decide +kernel
theorem dL_law_233 : decode cL_law 233 = .ok (.aload_n 2, 1) := by decide +kernel
theorem dL_law_234 : decode cL_law 234 = .ok (.invokevirtual 102, 3) := by decide +kernel
theorem dL_law_237 : decode cL_law 237 = .ok (.iload 6, 2) := by decide +kernel
theorem dL_law_239 : decode cL_law 239 = .ok (.if_icmp .eq 5, 3) := by decide +kernel
theorem dL_law_242 : decode cL_law 242 = .ok (.iconst 0, 1) := by decide +kernel
theorem dL_law_243 : decode cL_law 243 = .ok (.ireturn, 1) := by decide +kernel
theorem dL_law_244 : decode cL_law 244 = .ok (.iload 6, 2) := by decide +kernel
theorem dL_law_246 : decode cL_law 246 = .ok (.ifCond .ne 15, 3) := by decide +kernel
theorem dL_law_249 : decode cL_law 249 = .ok (.aload_n 3, 1) := by decide +kernel
theorem dL_law_250 : decode cL_law 250 = .ok (.iconst 0, 1) := by decide +kernel
theorem dL_law_251 : decode cL_law 251 = .ok (.laload, 1) := by decide +kernel
theorem dL_law_252 : decode cL_law 252 = .ok (.iload 7, 2) := by decide +kernel
theorem dL_law_254 : decode cL_law 254 = .ok (.i2l, 1) := by decide +kernel
theorem dL_law_255 : decode cL_law 255 = .ok (.lcmp, 1) := by decide +kernel
theorem dL_law_256 : decode cL_law 256 = .ok (.ifCond .eq 5, 3) := by decide +kernel
theorem dL_law_259 : decode cL_law 259 = .ok (.iconst 0, 1) := by decide +kernel
theorem dL_law_260 : decode cL_law 260 = .ok (.ireturn, 1) := by decide +kernel
theorem dL_law_261 : decode cL_law 261 = .ok (.goto 1469, 3) := by decide +kernel
theorem dL_law_264 : decode cL_law 264 = .ok (.aload_n 1, 1) := by decide +kernel
theorem dL_law_265 : decode cL_law 265 = .ok (.aload_n 0, 1) := by decide +kernel
theorem dL_law_266 : decode cL_law 266 = .ok (.iload 5, 2) := by decide +kernel
theorem dL_law_268 : decode cL_law 268 = .ok (.iconst 1, 1) := by decide +kernel
theorem dL_law_269 : decode cL_law 269 = .ok (.iadd, 1) := by decide +kernel
theorem dL_law_270 : decode cL_law 270 = .ok (.iaload, 1) := by decide +kernel
theorem dL_law_271 : decode cL_law 271 = .ok (.aload_n 0, 1) := by decide +kernel
theorem dL_law_272 : decode cL_law 272 = .ok (.iload 5, 2) := by decide +kernel
theorem dL_law_274 : decode cL_law 274 = .ok (.iconst 2, 1) := by decide +kernel
theorem dL_law_275 : decode cL_law 275 = .ok (.iadd, 1) := by decide +kernel
theorem dL_law_276 : decode cL_law 276 = .ok (.iaload, 1) := by decide +kernel
theorem dL_law_277 : decode cL_law 277 = .ok (.aload_n 0, 1) := by decide +kernel
theorem dL_law_278 : decode cL_law 278 = .ok (.iload 5, 2) := by decide +kernel
theorem dL_law_280 : decode cL_law 280 = .ok (.iconst 3, 1) := by decide +kernel
theorem dL_law_281 : decode cL_law 281 = .ok (.iadd, 1) := by decide +kernel
theorem dL_law_282 : decode cL_law 282 = .ok (.iaload, 1) := by decide +kernel
theorem dL_law_283 : decode cL_law 283 = .ok (.aload_n 0, 1) := by decide +kernel
theorem dL_law_284 : decode cL_law 284 = .ok (.iload 5, 2) := by decide +kernel
theorem dL_law_286 : decode cL_law 286 = .ok (.iconst 4, 1) := by decide +kernel
theorem dL_law_287 : decode cL_law 287 = .ok (.iadd, 1) := by decide +kernel
theorem dL_law_288 : decode cL_law 288 = .ok (.iaload, 1) := by decide +kernel
theorem dL_law_289 : decode cL_law 289 = .ok (.aload_n 3, 1) := by decide +kernel
theorem dL_law_290 : decode cL_law 290 = .ok (.invokestatic 105, 3) := by decide +kernel
theorem dL_law_293 : decode cL_law 293 = .ok (.istore 6, 2) := by decide +kernel
theorem dL_law_295 : decode cL_law 295 = .ok (.aload_n 2, 1) := by decide +kernel
theorem dL_law_296 : decode cL_law 296 = .ok (.aload_n 0, 1) := by decide +kernel
theorem dL_law_297 : decode cL_law 297 = .ok (.iload 5, 2) := by decide +kernel
theorem dL_law_299 : decode cL_law 299 = .ok (.iconst 1, 1) := by decide +kernel
theorem dL_law_300 : decode cL_law 300 = .ok (.iadd, 1) := by decide +kernel
theorem dL_law_301 : decode cL_law 301 = .ok (.iaload, 1) := by decide +kernel
theorem dL_law_302 : decode cL_law 302 = .ok (.aload_n 0, 1) := by decide +kernel
theorem dL_law_303 : decode cL_law 303 = .ok (.iload 5, 2) := by decide +kernel
theorem dL_law_305 : decode cL_law 305 = .ok (.iconst 2, 1) := by decide +kernel
theorem dL_law_306 : decode cL_law 306 = .ok (.iadd, 1) := by decide +kernel
theorem dL_law_307 : decode cL_law 307 = .ok (.iaload, 1) := by decide +kernel
theorem dL_law_308 : decode cL_law 308 = .ok (.aload_n 0, 1) := by decide +kernel
theorem dL_law_309 : decode cL_law 309 = .ok (.iload 5, 2) := by decide +kernel
theorem dL_law_311 : decode cL_law 311 = .ok (.iconst 3, 1) := by decide +kernel
theorem dL_law_312 : decode cL_law 312 = .ok (.iadd, 1) := by decide +kernel
theorem dL_law_313 : decode cL_law 313 = .ok (.iaload, 1) := by decide +kernel
theorem dL_law_314 : decode cL_law 314 = .ok (.aload_n 0, 1) := by decide +kernel
theorem dL_law_315 : decode cL_law 315 = .ok (.iload 5, 2) := by decide +kernel
theorem dL_law_317 : decode cL_law 317 = .ok (.iconst 4, 1) := by decide +kernel
theorem dL_law_318 : decode cL_law 318 = .ok (.iadd, 1) := by decide +kernel
theorem dL_law_319 : decode cL_law 319 = .ok (.iaload, 1) := by decide +kernel
theorem dL_law_320 : decode cL_law 320 = .ok (.invokevirtual 108, 3) := by decide +kernel
theorem dL_law_323 : decode cL_law 323 = .ok (.istore 7, 2) := by decide +kernel
theorem dL_law_325 : decode cL_law 325 = .ok (.aload_n 2, 1) := by decide +kernel
theorem dL_law_326 : decode cL_law 326 = .ok (.invokevirtual 102, 3) := by decide +kernel
theorem dL_law_329 : decode cL_law 329 = .ok (.iload 6, 2) := by decide +kernel
theorem dL_law_331 : decode cL_law 331 = .ok (.if_icmp .eq 5, 3) := by decide +kernel
theorem dL_law_334 : decode cL_law 334 = .ok (.iconst 0, 1) := by decide +kernel
theorem dL_law_335 : decode cL_law 335 = .ok (.ireturn, 1) := by decide +kernel
theorem dL_law_336 : decode cL_law 336 = .ok (.iload 6, 2) := by decide +kernel
theorem dL_law_338 : decode cL_law 338 = .ok (.ifCond .ne 15, 3) := by decide +kernel
theorem dL_law_341 : decode cL_law 341 = .ok (.aload_n 3, 1) := by decide +kernel
theorem dL_law_342 : decode cL_law 342 = .ok (.iconst 0, 1) := by decide +kernel
theorem dL_law_343 : decode cL_law 343 = .ok (.laload, 1) := by decide +kernel
theorem dL_law_344 : decode cL_law 344 = .ok (.iload 7, 2) := by decide +kernel
theorem dL_law_346 : decode cL_law 346 = .ok (.i2l, 1) := by decide +kernel
theorem dL_law_347 : decode cL_law 347 = .ok (.lcmp, 1) := by decide +kernel
theorem dL_law_348 : decode cL_law 348 = .ok (.ifCond .eq 5, 3) := by decide +kernel
theorem dL_law_351 : decode cL_law 351 = .ok (.iconst 0, 1) := by decide +kernel
theorem dL_law_352 : decode cL_law 352 = .ok (.ireturn, 1) := by decide +kernel
theorem dL_law_353 : decode cL_law 353 = .ok (.goto 1377, 3) := by decide +kernel
theorem dL_law_356 : decode cL_law 356 = .ok (.aload_n 1, 1) := by decide +kernel
theorem dL_law_357 : decode cL_law 357 = .ok (.aload_n 0, 1) := by decide +kernel
theorem dL_law_358 : decode cL_law 358 = .ok (.iload 5, 2) := by decide +kernel
theorem dL_law_360 : decode cL_law 360 = .ok (.iconst 1, 1) := by decide +kernel
theorem dL_law_361 : decode cL_law 361 = .ok (.iadd, 1) := by decide +kernel
theorem dL_law_362 : decode cL_law 362 = .ok (.iaload, 1) := by decide +kernel
theorem dL_law_363 : decode cL_law 363 = .ok (.aload_n 0, 1) := by decide +kernel
theorem dL_law_364 : decode cL_law 364 = .ok (.iload 5, 2) := by decide +kernel
theorem dL_law_366 : decode cL_law 366 = .ok (.iconst 2, 1) := by decide +kernel
theorem dL_law_367 : decode cL_law 367 = .ok (.iadd, 1) := by decide +kernel
theorem dL_law_368 : decode cL_law 368 = .ok (.iaload, 1) := by decide +kernel
theorem dL_law_369 : decode cL_law 369 = .ok (.aload_n 0, 1) := by decide +kernel
theorem dL_law_370 : decode cL_law 370 = .ok (.iload 5, 2) := by decide +kernel
theorem dL_law_372 : decode cL_law 372 = .ok (.iconst 3, 1) := by decide +kernel
theorem dL_law_373 : decode cL_law 373 = .ok (.iadd, 1) := by decide +kernel
theorem dL_law_374 : decode cL_law 374 = .ok (.iaload, 1) := by decide +kernel
theorem dL_law_375 : decode cL_law 375 = .ok (.aload_n 0, 1) := by decide +kernel
theorem dL_law_376 : decode cL_law 376 = .ok (.iload 5, 2) := by decide +kernel
theorem dL_law_378 : decode cL_law 378 = .ok (.iconst 4, 1) := by decide +kernel
theorem dL_law_379 : decode cL_law 379 = .ok (.iadd, 1) := by decide +kernel
theorem dL_law_380 : decode cL_law 380 = .ok (.iaload, 1) := by decide +kernel
theorem dL_law_381 : decode cL_law 381 = .ok (.aload_n 0, 1) := by decide +kernel
theorem dL_law_382 : decode cL_law 382 = .ok (.iload 5, 2) := by decide +kernel
theorem dL_law_384 : decode cL_law 384 = .ok (.iconst 5, 1) := by decide +kernel
theorem dL_law_385 : decode cL_law 385 = .ok (.iadd, 1) := by decide +kernel
theorem dL_law_386 : decode cL_law 386 = .ok (.iaload, 1) := by decide +kernel
theorem dL_law_387 : decode cL_law 387 = .ok (.aload_n 3, 1) := by decide +kernel
theorem dL_law_388 : decode cL_law 388 = .ok (.invokestatic 109, 3) := by decide +kernel
theorem dL_law_391 : decode cL_law 391 = .ok (.istore 6, 2) := by decide +kernel
theorem dL_law_393 : decode cL_law 393 = .ok (.aload_n 2, 1) := by decide +kernel
theorem dL_law_394 : decode cL_law 394 = .ok (.aload_n 0, 1) := by decide +kernel
theorem dL_law_395 : decode cL_law 395 = .ok (.iload 5, 2) := by decide +kernel
theorem dL_law_397 : decode cL_law 397 = .ok (.iconst 1, 1) := by decide +kernel
theorem dL_law_398 : decode cL_law 398 = .ok (.iadd, 1) := by decide +kernel
theorem dL_law_399 : decode cL_law 399 = .ok (.iaload, 1) := by decide +kernel
theorem dL_law_400 : decode cL_law 400 = .ok (.aload_n 0, 1) := by decide +kernel
theorem dL_law_401 : decode cL_law 401 = .ok (.iload 5, 2) := by decide +kernel
theorem dL_law_403 : decode cL_law 403 = .ok (.iconst 2, 1) := by decide +kernel
theorem dL_law_404 : decode cL_law 404 = .ok (.iadd, 1) := by decide +kernel
theorem dL_law_405 : decode cL_law 405 = .ok (.iaload, 1) := by decide +kernel
theorem dL_law_406 : decode cL_law 406 = .ok (.aload_n 0, 1) := by decide +kernel
theorem dL_law_407 : decode cL_law 407 = .ok (.iload 5, 2) := by decide +kernel
theorem dL_law_409 : decode cL_law 409 = .ok (.iconst 3, 1) := by decide +kernel
theorem dL_law_410 : decode cL_law 410 = .ok (.iadd, 1) := by decide +kernel
theorem dL_law_411 : decode cL_law 411 = .ok (.iaload, 1) := by decide +kernel
theorem dL_law_412 : decode cL_law 412 = .ok (.aload_n 0, 1) := by decide +kernel
theorem dL_law_413 : decode cL_law 413 = .ok (.iload 5, 2) := by decide +kernel
theorem dL_law_415 : decode cL_law 415 = .ok (.iconst 4, 1) := by decide +kernel
theorem dL_law_416 : decode cL_law 416 = .ok (.iadd, 1) := by decide +kernel
theorem dL_law_417 : decode cL_law 417 = .ok (.iaload, 1) := by decide +kernel
theorem dL_law_418 : decode cL_law 418 = .ok (.aload_n 0, 1) := by decide +kernel
theorem dL_law_419 : decode cL_law 419 = .ok (.iload 5, 2) := by decide +kernel
theorem dL_law_421 : decode cL_law 421 = .ok (.iconst 5, 1) := by decide +kernel
theorem dL_law_422 : decode cL_law 422 = .ok (.iadd, 1) := by decide +kernel
theorem dL_law_423 : decode cL_law 423 = .ok (.iaload, 1) := by decide +kernel
theorem dL_law_424 : decode cL_law 424 = .ok (.invokevirtual 112, 3) := by decide +kernel
theorem dL_law_427 : decode cL_law 427 = .ok (.istore 7, 2) := by decide +kernel
theorem dL_law_429 : decode cL_law 429 = .ok (.aload_n 2, 1) := by decide +kernel
theorem dL_law_430 : decode cL_law 430 = .ok (.invokevirtual 102, 3) := by decide +kernel
theorem dL_law_433 : decode cL_law 433 = .ok (.iload 6, 2) := by decide +kernel
theorem dL_law_435 : decode cL_law 435 = .ok (.if_icmp .eq 5, 3) := by decide +kernel
theorem dL_law_438 : decode cL_law 438 = .ok (.iconst 0, 1) := by decide +kernel
theorem dL_law_439 : decode cL_law 439 = .ok (.ireturn, 1) := by decide +kernel
theorem dL_law_440 : decode cL_law 440 = .ok (.iload 6, 2) := by decide +kernel
theorem dL_law_442 : decode cL_law 442 = .ok (.ifCond .ne 15, 3) := by decide +kernel
theorem dL_law_445 : decode cL_law 445 = .ok (.aload_n 3, 1) := by decide +kernel
theorem dL_law_446 : decode cL_law 446 = .ok (.iconst 0, 1) := by decide +kernel
theorem dL_law_447 : decode cL_law 447 = .ok (.laload, 1) := by decide +kernel
theorem dL_law_448 : decode cL_law 448 = .ok (.iload 7, 2) := by decide +kernel
theorem dL_law_450 : decode cL_law 450 = .ok (.i2l, 1) := by decide +kernel
theorem dL_law_451 : decode cL_law 451 = .ok (.lcmp, 1) := by decide +kernel
theorem dL_law_452 : decode cL_law 452 = .ok (.ifCond .eq 5, 3) := by decide +kernel
theorem dL_law_455 : decode cL_law 455 = .ok (.iconst 0, 1) := by decide +kernel
theorem dL_law_456 : decode cL_law 456 = .ok (.ireturn, 1) := by decide +kernel
theorem dL_law_457 : decode cL_law 457 = .ok (.goto 1273, 3) := by decide +kernel
theorem dL_law_460 : decode cL_law 460 = .ok (.aload_n 1, 1) := by decide +kernel
theorem dL_law_461 : decode cL_law 461 = .ok (.aload_n 0, 1) := by decide +kernel
theorem dL_law_462 : decode cL_law 462 = .ok (.iload 5, 2) := by decide +kernel
theorem dL_law_464 : decode cL_law 464 = .ok (.iconst 1, 1) := by decide +kernel
theorem dL_law_465 : decode cL_law 465 = .ok (.iadd, 1) := by decide +kernel
theorem dL_law_466 : decode cL_law 466 = .ok (.iaload, 1) := by decide +kernel
theorem dL_law_467 : decode cL_law 467 = .ok (.aload_n 0, 1) := by decide +kernel
theorem dL_law_468 : decode cL_law 468 = .ok (.iload 5, 2) := by decide +kernel
theorem dL_law_470 : decode cL_law 470 = .ok (.iconst 2, 1) := by decide +kernel
theorem dL_law_471 : decode cL_law 471 = .ok (.iadd, 1) := by decide +kernel
theorem dL_law_472 : decode cL_law 472 = .ok (.iaload, 1) := by decide +kernel
theorem dL_law_473 : decode cL_law 473 = .ok (.aload_n 3, 1) := by decide +kernel
theorem dL_law_474 : decode cL_law 474 = .ok (.invokestatic 113, 3) := by decide +kernel
theorem dL_law_477 : decode cL_law 477 = .ok (.istore 6, 2) := by decide +kernel
theorem dL_law_479 : decode cL_law 479 = .ok (.aload_n 2, 1) := by decide +kernel
theorem dL_law_480 : decode cL_law 480 = .ok (.aload_n 0, 1) := by decide +kernel
theorem dL_law_481 : decode cL_law 481 = .ok (.iload 5, 2) := by decide +kernel
theorem dL_law_483 : decode cL_law 483 = .ok (.iconst 1, 1) := by decide +kernel
theorem dL_law_484 : decode cL_law 484 = .ok (.iadd, 1) := by decide +kernel
theorem dL_law_485 : decode cL_law 485 = .ok (.iaload, 1) := by decide +kernel
theorem dL_law_486 : decode cL_law 486 = .ok (.aload_n 0, 1) := by decide +kernel
theorem dL_law_487 : decode cL_law 487 = .ok (.iload 5, 2) := by decide +kernel
theorem dL_law_489 : decode cL_law 489 = .ok (.iconst 2, 1) := by decide +kernel
theorem dL_law_490 : decode cL_law 490 = .ok (.iadd, 1) := by decide +kernel
theorem dL_law_491 : decode cL_law 491 = .ok (.iaload, 1) := by decide +kernel
theorem dL_law_492 : decode cL_law 492 = .ok (.invokevirtual 115, 3) := by decide +kernel
theorem dL_law_495 : decode cL_law 495 = .ok (.istore 7, 2) := by decide +kernel
theorem dL_law_497 : decode cL_law 497 = .ok (.aload_n 2, 1) := by decide +kernel
theorem dL_law_498 : decode cL_law 498 = .ok (.invokevirtual 102, 3) := by decide +kernel
theorem dL_law_501 : decode cL_law 501 = .ok (.iload 6, 2) := by decide +kernel
theorem dL_law_503 : decode cL_law 503 = .ok (.if_icmp .eq 5, 3) := by decide +kernel
theorem dL_law_506 : decode cL_law 506 = .ok (.iconst 0, 1) := by decide +kernel
theorem dL_law_507 : decode cL_law 507 = .ok (.ireturn, 1) := by decide +kernel
theorem dL_law_508 : decode cL_law 508 = .ok (.iload 6, 2) := by decide +kernel
theorem dL_law_510 : decode cL_law 510 = .ok (.ifCond .ne 15, 3) := by decide +kernel
theorem dL_law_513 : decode cL_law 513 = .ok (.aload_n 3, 1) := by decide +kernel
theorem dL_law_514 : decode cL_law 514 = .ok (.iconst 0, 1) := by decide +kernel
theorem dL_law_515 : decode cL_law 515 = .ok (.laload, 1) := by decide +kernel
theorem dL_law_516 : decode cL_law 516 = .ok (.iload 7, 2) := by decide +kernel
theorem dL_law_518 : decode cL_law 518 = .ok (.i2l, 1) := by decide +kernel
theorem dL_law_519 : decode cL_law 519 = .ok (.lcmp, 1) := by decide +kernel
theorem dL_law_520 : decode cL_law 520 = .ok (.ifCond .eq 5, 3) := by decide +kernel
theorem dL_law_523 : decode cL_law 523 = .ok (.iconst 0, 1) := by decide +kernel
theorem dL_law_524 : decode cL_law 524 = .ok (.ireturn, 1) := by decide +kernel
theorem dL_law_525 : decode cL_law 525 = .ok (.goto 1205, 3) := by decide +kernel
theorem dL_law_528 : decode cL_law 528 = .ok (.aload_n 1, 1) := by decide +kernel
theorem dL_law_529 : decode cL_law 529 = .ok (.aload_n 0, 1) := by decide +kernel
theorem dL_law_530 : decode cL_law 530 = .ok (.iload 5, 2) := by decide +kernel
theorem dL_law_532 : decode cL_law 532 = .ok (.iconst 1, 1) := by decide +kernel
theorem dL_law_533 : decode cL_law 533 = .ok (.iadd, 1) := by decide +kernel
theorem dL_law_534 : decode cL_law 534 = .ok (.iaload, 1) := by decide +kernel
theorem dL_law_535 : decode cL_law 535 = .ok (.aload_n 0, 1) := by decide +kernel
theorem dL_law_536 : decode cL_law 536 = .ok (.iload 5, 2) := by decide +kernel
theorem dL_law_538 : decode cL_law 538 = .ok (.iconst 2, 1) := by decide +kernel
theorem dL_law_539 : decode cL_law 539 = .ok (.iadd, 1) := by decide +kernel
theorem dL_law_540 : decode cL_law 540 = .ok (.iaload, 1) := by decide +kernel
theorem dL_law_541 : decode cL_law 541 = .ok (.aload_n 3, 1) := by decide +kernel
theorem dL_law_542 : decode cL_law 542 = .ok (.invokestatic 116, 3) := by decide +kernel
theorem dL_law_545 : decode cL_law 545 = .ok (.istore 6, 2) := by decide +kernel
theorem dL_law_547 : decode cL_law 547 = .ok (.aload_n 2, 1) := by decide +kernel
theorem dL_law_548 : decode cL_law 548 = .ok (.aload_n 0, 1) := by decide +kernel
theorem dL_law_549 : decode cL_law 549 = .ok (.iload 5, 2) := by decide +kernel
theorem dL_law_551 : decode cL_law 551 = .ok (.iconst 1, 1) := by decide +kernel
theorem dL_law_552 : decode cL_law 552 = .ok (.iadd, 1) := by decide +kernel
theorem dL_law_553 : decode cL_law 553 = .ok (.iaload, 1) := by decide +kernel
theorem dL_law_554 : decode cL_law 554 = .ok (.aload_n 0, 1) := by decide +kernel
theorem dL_law_555 : decode cL_law 555 = .ok (.iload 5, 2) := by decide +kernel
theorem dL_law_557 : decode cL_law 557 = .ok (.iconst 2, 1) := by decide +kernel
theorem dL_law_558 : decode cL_law 558 = .ok (.iadd, 1) := by decide +kernel
theorem dL_law_559 : decode cL_law 559 = .ok (.iaload, 1) := by decide +kernel
theorem dL_law_560 : decode cL_law 560 = .ok (.invokevirtual 118, 3) := by decide +kernel
theorem dL_law_563 : decode cL_law 563 = .ok (.istore 7, 2) := by decide +kernel
theorem dL_law_565 : decode cL_law 565 = .ok (.aload_n 2, 1) := by decide +kernel
theorem dL_law_566 : decode cL_law 566 = .ok (.invokevirtual 102, 3) := by decide +kernel
theorem dL_law_569 : decode cL_law 569 = .ok (.iload 6, 2) := by decide +kernel
theorem dL_law_571 : decode cL_law 571 = .ok (.if_icmp .eq 5, 3) := by decide +kernel
theorem dL_law_574 : decode cL_law 574 = .ok (.iconst 0, 1) := by decide +kernel
theorem dL_law_575 : decode cL_law 575 = .ok (.ireturn, 1) := by decide +kernel
theorem dL_law_576 : decode cL_law 576 = .ok (.iload 6, 2) := by decide +kernel
theorem dL_law_578 : decode cL_law 578 = .ok (.ifCond .ne 15, 3) := by decide +kernel
theorem dL_law_581 : decode cL_law 581 = .ok (.aload_n 3, 1) := by decide +kernel
theorem dL_law_582 : decode cL_law 582 = .ok (.iconst 0, 1) := by decide +kernel
theorem dL_law_583 : decode cL_law 583 = .ok (.laload, 1) := by decide +kernel
theorem dL_law_584 : decode cL_law 584 = .ok (.iload 7, 2) := by decide +kernel
theorem dL_law_586 : decode cL_law 586 = .ok (.i2l, 1) := by decide +kernel
theorem dL_law_587 : decode cL_law 587 = .ok (.lcmp, 1) := by decide +kernel
theorem dL_law_588 : decode cL_law 588 = .ok (.ifCond .eq 5, 3) := by decide +kernel
theorem dL_law_591 : decode cL_law 591 = .ok (.iconst 0, 1) := by decide +kernel
theorem dL_law_592 : decode cL_law 592 = .ok (.ireturn, 1) := by decide +kernel
theorem dL_law_593 : decode cL_law 593 = .ok (.goto 1137, 3) := by decide +kernel
theorem dL_law_596 : decode cL_law 596 = .ok (.aload_n 1, 1) := by decide +kernel
theorem dL_law_597 : decode cL_law 597 = .ok (.aload_n 0, 1) := by decide +kernel
theorem dL_law_598 : decode cL_law 598 = .ok (.iload 5, 2) := by decide +kernel
theorem dL_law_600 : decode cL_law 600 = .ok (.iconst 1, 1) := by decide +kernel
theorem dL_law_601 : decode cL_law 601 = .ok (.iadd, 1) := by decide +kernel
theorem dL_law_602 : decode cL_law 602 = .ok (.iaload, 1) := by decide +kernel
theorem dL_law_603 : decode cL_law 603 = .ok (.aload_n 0, 1) := by decide +kernel
theorem dL_law_604 : decode cL_law 604 = .ok (.iload 5, 2) := by decide +kernel
theorem dL_law_606 : decode cL_law 606 = .ok (.iconst 2, 1) := by decide +kernel
theorem dL_law_607 : decode cL_law 607 = .ok (.iadd, 1) := by decide +kernel
theorem dL_law_608 : decode cL_law 608 = .ok (.iaload, 1) := by decide +kernel
theorem dL_law_609 : decode cL_law 609 = .ok (.aload_n 0, 1) := by decide +kernel
theorem dL_law_610 : decode cL_law 610 = .ok (.iload 5, 2) := by decide +kernel
theorem dL_law_612 : decode cL_law 612 = .ok (.iconst 3, 1) := by decide +kernel
theorem dL_law_613 : decode cL_law 613 = .ok (.iadd, 1) := by decide +kernel
theorem dL_law_614 : decode cL_law 614 = .ok (.iaload, 1) := by decide +kernel
theorem dL_law_615 : decode cL_law 615 = .ok (.aload_n 0, 1) := by decide +kernel
theorem dL_law_616 : decode cL_law 616 = .ok (.iload 5, 2) := by decide +kernel
theorem dL_law_618 : decode cL_law 618 = .ok (.iconst 4, 1) := by decide +kernel
theorem dL_law_619 : decode cL_law 619 = .ok (.iadd, 1) := by decide +kernel
theorem dL_law_620 : decode cL_law 620 = .ok (.iaload, 1) := by decide +kernel
theorem dL_law_621 : decode cL_law 621 = .ok (.aload_n 3, 1) := by decide +kernel
theorem dL_law_622 : decode cL_law 622 = .ok (.invokestatic 119, 3) := by decide +kernel
theorem dL_law_625 : decode cL_law 625 = .ok (.istore 6, 2) := by decide +kernel
theorem dL_law_627 : decode cL_law 627 = .ok (.aload_n 2, 1) := by decide +kernel
theorem dL_law_628 : decode cL_law 628 = .ok (.aload_n 0, 1) := by decide +kernel
theorem dL_law_629 : decode cL_law 629 = .ok (.iload 5, 2) := by decide +kernel
theorem dL_law_631 : decode cL_law 631 = .ok (.iconst 1, 1) := by decide +kernel
theorem dL_law_632 : decode cL_law 632 = .ok (.iadd, 1) := by decide +kernel
theorem dL_law_633 : decode cL_law 633 = .ok (.iaload, 1) := by decide +kernel
theorem dL_law_634 : decode cL_law 634 = .ok (.aload_n 0, 1) := by decide +kernel
theorem dL_law_635 : decode cL_law 635 = .ok (.iload 5, 2) := by decide +kernel
theorem dL_law_637 : decode cL_law 637 = .ok (.iconst 2, 1) := by decide +kernel
theorem dL_law_638 : decode cL_law 638 = .ok (.iadd, 1) := by decide +kernel
theorem dL_law_639 : decode cL_law 639 = .ok (.iaload, 1) := by decide +kernel
theorem dL_law_640 : decode cL_law 640 = .ok (.aload_n 0, 1) := by decide +kernel
theorem dL_law_641 : decode cL_law 641 = .ok (.iload 5, 2) := by decide +kernel
theorem dL_law_643 : decode cL_law 643 = .ok (.iconst 3, 1) := by decide +kernel
theorem dL_law_644 : decode cL_law 644 = .ok (.iadd, 1) := by decide +kernel
theorem dL_law_645 : decode cL_law 645 = .ok (.iaload, 1) := by decide +kernel
theorem dL_law_646 : decode cL_law 646 = .ok (.aload_n 0, 1) := by decide +kernel
theorem dL_law_647 : decode cL_law 647 = .ok (.iload 5, 2) := by decide +kernel
theorem dL_law_649 : decode cL_law 649 = .ok (.iconst 4, 1) := by decide +kernel
theorem dL_law_650 : decode cL_law 650 = .ok (.iadd, 1) := by decide +kernel
theorem dL_law_651 : decode cL_law 651 = .ok (.iaload, 1) := by decide +kernel
theorem dL_law_652 : decode cL_law 652 = .ok (.invokevirtual 121, 3) := by decide +kernel
theorem dL_law_655 : decode cL_law 655 = .ok (.istore 7, 2) := by decide +kernel
theorem dL_law_657 : decode cL_law 657 = .ok (.aload_n 2, 1) := by decide +kernel
theorem dL_law_658 : decode cL_law 658 = .ok (.invokevirtual 102, 3) := by decide +kernel
theorem dL_law_661 : decode cL_law 661 = .ok (.iload 6, 2) := by decide +kernel
theorem dL_law_663 : decode cL_law 663 = .ok (.if_icmp .eq 5, 3) := by decide +kernel
theorem dL_law_666 : decode cL_law 666 = .ok (.iconst 0, 1) := by decide +kernel
theorem dL_law_667 : decode cL_law 667 = .ok (.ireturn, 1) := by decide +kernel
theorem dL_law_668 : decode cL_law 668 = .ok (.iload 6, 2) := by decide +kernel
theorem dL_law_670 : decode cL_law 670 = .ok (.ifCond .ne 15, 3) := by decide +kernel
theorem dL_law_673 : decode cL_law 673 = .ok (.aload_n 3, 1) := by decide +kernel
theorem dL_law_674 : decode cL_law 674 = .ok (.iconst 0, 1) := by decide +kernel
theorem dL_law_675 : decode cL_law 675 = .ok (.laload, 1) := by decide +kernel
theorem dL_law_676 : decode cL_law 676 = .ok (.iload 7, 2) := by decide +kernel
theorem dL_law_678 : decode cL_law 678 = .ok (.i2l, 1) := by decide +kernel
theorem dL_law_679 : decode cL_law 679 = .ok (.lcmp, 1) := by decide +kernel
theorem dL_law_680 : decode cL_law 680 = .ok (.ifCond .eq 5, 3) := by decide +kernel
theorem dL_law_683 : decode cL_law 683 = .ok (.iconst 0, 1) := by decide +kernel
theorem dL_law_684 : decode cL_law 684 = .ok (.ireturn, 1) := by decide +kernel
theorem dL_law_685 : decode cL_law 685 = .ok (.goto 1045, 3) := by decide +kernel
theorem dL_law_688 : decode cL_law 688 = .ok (.aload_n 1, 1) := by decide +kernel
theorem dL_law_689 : decode cL_law 689 = .ok (.aload_n 0, 1) := by decide +kernel
theorem dL_law_690 : decode cL_law 690 = .ok (.iload 5, 2) := by decide +kernel
theorem dL_law_692 : decode cL_law 692 = .ok (.iconst 1, 1) := by decide +kernel
theorem dL_law_693 : decode cL_law 693 = .ok (.iadd, 1) := by decide +kernel
theorem dL_law_694 : decode cL_law 694 = .ok (.iaload, 1) := by decide +kernel
theorem dL_law_695 : decode cL_law 695 = .ok (.aload_n 0, 1) := by decide +kernel
theorem dL_law_696 : decode cL_law 696 = .ok (.iload 5, 2) := by decide +kernel
theorem dL_law_698 : decode cL_law 698 = .ok (.iconst 2, 1) := by decide +kernel
theorem dL_law_699 : decode cL_law 699 = .ok (.iadd, 1) := by decide +kernel
theorem dL_law_700 : decode cL_law 700 = .ok (.iaload, 1) := by decide +kernel
theorem dL_law_701 : decode cL_law 701 = .ok (.aload_n 0, 1) := by decide +kernel
theorem dL_law_702 : decode cL_law 702 = .ok (.iload 5, 2) := by decide +kernel
theorem dL_law_704 : decode cL_law 704 = .ok (.iconst 3, 1) := by decide +kernel
theorem dL_law_705 : decode cL_law 705 = .ok (.iadd, 1) := by decide +kernel
theorem dL_law_706 : decode cL_law 706 = .ok (.iaload, 1) := by decide +kernel
theorem dL_law_707 : decode cL_law 707 = .ok (.aload_n 0, 1) := by decide +kernel
theorem dL_law_708 : decode cL_law 708 = .ok (.iload 5, 2) := by decide +kernel
theorem dL_law_710 : decode cL_law 710 = .ok (.iconst 4, 1) := by decide +kernel
theorem dL_law_711 : decode cL_law 711 = .ok (.iadd, 1) := by decide +kernel
theorem dL_law_712 : decode cL_law 712 = .ok (.iaload, 1) := by decide +kernel
theorem dL_law_713 : decode cL_law 713 = .ok (.aload_n 3, 1) := by decide +kernel
theorem dL_law_714 : decode cL_law 714 = .ok (.invokestatic 122, 3) := by decide +kernel
theorem dL_law_717 : decode cL_law 717 = .ok (.istore 6, 2) := by decide +kernel
theorem dL_law_719 : decode cL_law 719 = .ok (.aload_n 2, 1) := by decide +kernel
theorem dL_law_720 : decode cL_law 720 = .ok (.aload_n 0, 1) := by decide +kernel
theorem dL_law_721 : decode cL_law 721 = .ok (.iload 5, 2) := by decide +kernel
theorem dL_law_723 : decode cL_law 723 = .ok (.iconst 1, 1) := by decide +kernel
theorem dL_law_724 : decode cL_law 724 = .ok (.iadd, 1) := by decide +kernel
theorem dL_law_725 : decode cL_law 725 = .ok (.iaload, 1) := by decide +kernel
theorem dL_law_726 : decode cL_law 726 = .ok (.aload_n 0, 1) := by decide +kernel
theorem dL_law_727 : decode cL_law 727 = .ok (.iload 5, 2) := by decide +kernel
theorem dL_law_729 : decode cL_law 729 = .ok (.iconst 2, 1) := by decide +kernel
theorem dL_law_730 : decode cL_law 730 = .ok (.iadd, 1) := by decide +kernel
theorem dL_law_731 : decode cL_law 731 = .ok (.iaload, 1) := by decide +kernel
theorem dL_law_732 : decode cL_law 732 = .ok (.aload_n 0, 1) := by decide +kernel
theorem dL_law_733 : decode cL_law 733 = .ok (.iload 5, 2) := by decide +kernel
theorem dL_law_735 : decode cL_law 735 = .ok (.iconst 3, 1) := by decide +kernel
theorem dL_law_736 : decode cL_law 736 = .ok (.iadd, 1) := by decide +kernel
theorem dL_law_737 : decode cL_law 737 = .ok (.iaload, 1) := by decide +kernel
theorem dL_law_738 : decode cL_law 738 = .ok (.aload_n 0, 1) := by decide +kernel
theorem dL_law_739 : decode cL_law 739 = .ok (.iload 5, 2) := by decide +kernel
theorem dL_law_741 : decode cL_law 741 = .ok (.iconst 4, 1) := by decide +kernel
theorem dL_law_742 : decode cL_law 742 = .ok (.iadd, 1) := by decide +kernel
theorem dL_law_743 : decode cL_law 743 = .ok (.iaload, 1) := by decide +kernel
theorem dL_law_744 : decode cL_law 744 = .ok (.invokevirtual 124, 3) := by decide +kernel
theorem dL_law_747 : decode cL_law 747 = .ok (.istore 7, 2) := by decide +kernel
theorem dL_law_749 : decode cL_law 749 = .ok (.aload_n 2, 1) := by decide +kernel
theorem dL_law_750 : decode cL_law 750 = .ok (.invokevirtual 102, 3) := by decide +kernel
theorem dL_law_753 : decode cL_law 753 = .ok (.iload 6, 2) := by decide +kernel
theorem dL_law_755 : decode cL_law 755 = .ok (.if_icmp .eq 5, 3) := by decide +kernel
theorem dL_law_758 : decode cL_law 758 = .ok (.iconst 0, 1) := by decide +kernel
theorem dL_law_759 : decode cL_law 759 = .ok (.ireturn, 1) := by decide +kernel
theorem dL_law_760 : decode cL_law 760 = .ok (.iload 6, 2) := by decide +kernel
theorem dL_law_762 : decode cL_law 762 = .ok (.ifCond .ne 15, 3) := by decide +kernel
theorem dL_law_765 : decode cL_law 765 = .ok (.aload_n 3, 1) := by decide +kernel
theorem dL_law_766 : decode cL_law 766 = .ok (.iconst 0, 1) := by decide +kernel
theorem dL_law_767 : decode cL_law 767 = .ok (.laload, 1) := by decide +kernel
theorem dL_law_768 : decode cL_law 768 = .ok (.iload 7, 2) := by decide +kernel
theorem dL_law_770 : decode cL_law 770 = .ok (.i2l, 1) := by decide +kernel
theorem dL_law_771 : decode cL_law 771 = .ok (.lcmp, 1) := by decide +kernel
theorem dL_law_772 : decode cL_law 772 = .ok (.ifCond .eq 5, 3) := by decide +kernel
theorem dL_law_775 : decode cL_law 775 = .ok (.iconst 0, 1) := by decide +kernel
theorem dL_law_776 : decode cL_law 776 = .ok (.ireturn, 1) := by decide +kernel
theorem dL_law_777 : decode cL_law 777 = .ok (.goto 953, 3) := by decide +kernel
theorem dL_law_780 : decode cL_law 780 = .ok (.aload_n 1, 1) := by decide +kernel
theorem dL_law_781 : decode cL_law 781 = .ok (.aload_n 0, 1) := by decide +kernel
theorem dL_law_782 : decode cL_law 782 = .ok (.iload 5, 2) := by decide +kernel
theorem dL_law_784 : decode cL_law 784 = .ok (.iconst 1, 1) := by decide +kernel
theorem dL_law_785 : decode cL_law 785 = .ok (.iadd, 1) := by decide +kernel
theorem dL_law_786 : decode cL_law 786 = .ok (.iaload, 1) := by decide +kernel
theorem dL_law_787 : decode cL_law 787 = .ok (.aload_n 3, 1) := by decide +kernel
theorem dL_law_788 : decode cL_law 788 = .ok (.invokestatic 125, 3) := by decide +kernel
theorem dL_law_791 : decode cL_law 791 = .ok (.istore 6, 2) := by decide +kernel
theorem dL_law_793 : decode cL_law 793 = .ok (.aload_n 2, 1) := by decide +kernel
theorem dL_law_794 : decode cL_law 794 = .ok (.aload_n 0, 1) := by decide +kernel
theorem dL_law_795 : decode cL_law 795 = .ok (.iload 5, 2) := by decide +kernel
theorem dL_law_797 : decode cL_law 797 = .ok (.iconst 1, 1) := by decide +kernel
theorem dL_law_798 : decode cL_law 798 = .ok (.iadd, 1) := by decide +kernel
theorem dL_law_799 : decode cL_law 799 = .ok (.iaload, 1) := by decide +kernel
theorem dL_law_800 : decode cL_law 800 = .ok (.invokevirtual 128, 3) := by decide +kernel
theorem dL_law_803 : decode cL_law 803 = .ok (.istore 7, 2) := by decide +kernel
theorem dL_law_805 : decode cL_law 805 = .ok (.aload_n 2, 1) := by decide +kernel
theorem dL_law_806 : decode cL_law 806 = .ok (.invokevirtual 102, 3) := by decide +kernel
theorem dL_law_809 : decode cL_law 809 = .ok (.iload 6, 2) := by decide +kernel
theorem dL_law_811 : decode cL_law 811 = .ok (.if_icmp .eq 5, 3) := by decide +kernel
theorem dL_law_814 : decode cL_law 814 = .ok (.iconst 0, 1) := by decide +kernel
theorem dL_law_815 : decode cL_law 815 = .ok (.ireturn, 1) := by decide +kernel
theorem dL_law_816 : decode cL_law 816 = .ok (.iload 6, 2) := by decide +kernel
theorem dL_law_818 : decode cL_law 818 = .ok (.ifCond .ne 15, 3) := by decide +kernel
theorem dL_law_821 : decode cL_law 821 = .ok (.aload_n 3, 1) := by decide +kernel
theorem dL_law_822 : decode cL_law 822 = .ok (.iconst 0, 1) := by decide +kernel
theorem dL_law_823 : decode cL_law 823 = .ok (.laload, 1) := by decide +kernel
theorem dL_law_824 : decode cL_law 824 = .ok (.iload 7, 2) := by decide +kernel
theorem dL_law_826 : decode cL_law 826 = .ok (.i2l, 1) := by decide +kernel
theorem dL_law_827 : decode cL_law 827 = .ok (.lcmp, 1) := by decide +kernel
theorem dL_law_828 : decode cL_law 828 = .ok (.ifCond .eq 5, 3) := by decide +kernel
theorem dL_law_831 : decode cL_law 831 = .ok (.iconst 0, 1) := by decide +kernel
theorem dL_law_832 : decode cL_law 832 = .ok (.ireturn, 1) := by decide +kernel
theorem dL_law_833 : decode cL_law 833 = .ok (.goto 897, 3) := by decide +kernel
theorem dL_law_836 : decode cL_law 836 = .ok (.aload_n 1, 1) := by decide +kernel
theorem dL_law_837 : decode cL_law 837 = .ok (.aload_n 3, 1) := by decide +kernel
theorem dL_law_838 : decode cL_law 838 = .ok (.invokestatic 129, 3) := by decide +kernel
theorem dL_law_841 : decode cL_law 841 = .ok (.istore 6, 2) := by decide +kernel
theorem dL_law_843 : decode cL_law 843 = .ok (.aload_n 2, 1) := by decide +kernel
theorem dL_law_844 : decode cL_law 844 = .ok (.invokevirtual 132, 3) := by decide +kernel
theorem dL_law_847 : decode cL_law 847 = .ok (.istore 7, 2) := by decide +kernel
theorem dL_law_849 : decode cL_law 849 = .ok (.aload_n 2, 1) := by decide +kernel
theorem dL_law_850 : decode cL_law 850 = .ok (.invokevirtual 102, 3) := by decide +kernel
theorem dL_law_853 : decode cL_law 853 = .ok (.iload 6, 2) := by decide +kernel
theorem dL_law_855 : decode cL_law 855 = .ok (.if_icmp .eq 5, 3) := by decide +kernel
theorem dL_law_858 : decode cL_law 858 = .ok (.iconst 0, 1) := by decide +kernel
theorem dL_law_859 : decode cL_law 859 = .ok (.ireturn, 1) := by decide +kernel
theorem dL_law_860 : decode cL_law 860 = .ok (.iload 6, 2) := by decide +kernel
theorem dL_law_862 : decode cL_law 862 = .ok (.ifCond .ne 15, 3) := by decide +kernel
theorem dL_law_865 : decode cL_law 865 = .ok (.aload_n 3, 1) := by decide +kernel
theorem dL_law_866 : decode cL_law 866 = .ok (.iconst 0, 1) := by decide +kernel
theorem dL_law_867 : decode cL_law 867 = .ok (.laload, 1) := by decide +kernel
theorem dL_law_868 : decode cL_law 868 = .ok (.iload 7, 2) := by decide +kernel
theorem dL_law_870 : decode cL_law 870 = .ok (.i2l, 1) := by decide +kernel
theorem dL_law_871 : decode cL_law 871 = .ok (.lcmp, 1) := by decide +kernel
theorem dL_law_872 : decode cL_law 872 = .ok (.ifCond .eq 5, 3) := by decide +kernel
theorem dL_law_875 : decode cL_law 875 = .ok (.iconst 0, 1) := by decide +kernel
theorem dL_law_876 : decode cL_law 876 = .ok (.ireturn, 1) := by decide +kernel
theorem dL_law_877 : decode cL_law 877 = .ok (.goto 853, 3) := by decide +kernel
theorem dL_law_880 : decode cL_law 880 = .ok (.aload_n 1, 1) := by decide +kernel
theorem dL_law_881 : decode cL_law 881 = .ok (.aload_n 0, 1) := by decide +kernel
theorem dL_law_882 : decode cL_law 882 = .ok (.iload 5, 2) := by decide +kernel
theorem dL_law_884 : decode cL_law 884 = .ok (.iconst 1, 1) := by decide +kernel
theorem dL_law_885 : decode cL_law 885 = .ok (.iadd, 1) := by decide +kernel
theorem dL_law_886 : decode cL_law 886 = .ok (.iaload, 1) := by decide +kernel
theorem dL_law_887 : decode cL_law 887 = .ok (.aload_n 0, 1) := by decide +kernel
theorem dL_law_888 : decode cL_law 888 = .ok (.iload 5, 2) := by decide +kernel
theorem dL_law_890 : decode cL_law 890 = .ok (.iconst 2, 1) := by decide +kernel
theorem dL_law_891 : decode cL_law 891 = .ok (.iadd, 1) := by decide +kernel
theorem dL_law_892 : decode cL_law 892 = .ok (.iaload, 1) := by decide +kernel
theorem dL_law_893 : decode cL_law 893 = .ok (.aload_n 3, 1) := by decide +kernel
theorem dL_law_894 : decode cL_law 894 = .ok (.invokestatic 133, 3) := by decide +kernel
theorem dL_law_897 : decode cL_law 897 = .ok (.istore 6, 2) := by decide +kernel
theorem dL_law_899 : decode cL_law 899 = .ok (.aload_n 2, 1) := by decide +kernel
theorem dL_law_900 : decode cL_law 900 = .ok (.aload_n 0, 1) := by decide +kernel
theorem dL_law_901 : decode cL_law 901 = .ok (.iload 5, 2) := by decide +kernel
theorem dL_law_903 : decode cL_law 903 = .ok (.iconst 1, 1) := by decide +kernel
theorem dL_law_904 : decode cL_law 904 = .ok (.iadd, 1) := by decide +kernel
theorem dL_law_905 : decode cL_law 905 = .ok (.iaload, 1) := by decide +kernel
theorem dL_law_906 : decode cL_law 906 = .ok (.aload_n 0, 1) := by decide +kernel
theorem dL_law_907 : decode cL_law 907 = .ok (.iload 5, 2) := by decide +kernel
theorem dL_law_909 : decode cL_law 909 = .ok (.iconst 2, 1) := by decide +kernel
theorem dL_law_910 : decode cL_law 910 = .ok (.iadd, 1) := by decide +kernel
theorem dL_law_911 : decode cL_law 911 = .ok (.iaload, 1) := by decide +kernel
theorem dL_law_912 : decode cL_law 912 = .ok (.invokevirtual 135, 3) := by decide +kernel
theorem dL_law_915 : decode cL_law 915 = .ok (.istore 7, 2) := by decide +kernel
theorem dL_law_917 : decode cL_law 917 = .ok (.aload_n 2, 1) := by decide +kernel
theorem dL_law_918 : decode cL_law 918 = .ok (.invokevirtual 102, 3) := by decide +kernel
theorem dL_law_921 : decode cL_law 921 = .ok (.iload 6, 2) := by decide +kernel
theorem dL_law_923 : decode cL_law 923 = .ok (.if_icmp .eq 5, 3) := by decide +kernel
theorem dL_law_926 : decode cL_law 926 = .ok (.iconst 0, 1) := by decide +kernel
theorem dL_law_927 : decode cL_law 927 = .ok (.ireturn, 1) := by decide +kernel
theorem dL_law_928 : decode cL_law 928 = .ok (.iload 6, 2) := by decide +kernel
theorem dL_law_930 : decode cL_law 930 = .ok (.ifCond .ne 15, 3) := by decide +kernel
theorem dL_law_933 : decode cL_law 933 = .ok (.aload_n 3, 1) := by decide +kernel
theorem dL_law_934 : decode cL_law 934 = .ok (.iconst 0, 1) := by decide +kernel
theorem dL_law_935 : decode cL_law 935 = .ok (.laload, 1) := by decide +kernel
theorem dL_law_936 : decode cL_law 936 = .ok (.iload 7, 2) := by decide +kernel
theorem dL_law_938 : decode cL_law 938 = .ok (.i2l, 1) := by decide +kernel
theorem dL_law_939 : decode cL_law 939 = .ok (.lcmp, 1) := by decide +kernel
theorem dL_law_940 : decode cL_law 940 = .ok (.ifCond .eq 5, 3) := by decide +kernel
theorem dL_law_943 : decode cL_law 943 = .ok (.iconst 0, 1) := by decide +kernel
theorem dL_law_944 : decode cL_law 944 = .ok (.ireturn, 1) := by decide +kernel
theorem dL_law_945 : decode cL_law 945 = .ok (.goto 785, 3) := by decide +kernel
theorem dL_law_948 : decode cL_law 948 = .ok (.aload_n 1, 1) := by decide +kernel
theorem dL_law_949 : decode cL_law 949 = .ok (.aload_n 0, 1) := by decide +kernel
theorem dL_law_950 : decode cL_law 950 = .ok (.iload 5, 2) := by decide +kernel
theorem dL_law_952 : decode cL_law 952 = .ok (.iconst 1, 1) := by decide +kernel
theorem dL_law_953 : decode cL_law 953 = .ok (.iadd, 1) := by decide +kernel
theorem dL_law_954 : decode cL_law 954 = .ok (.iaload, 1) := by decide +kernel
theorem dL_law_955 : decode cL_law 955 = .ok (.aload_n 3, 1) := by decide +kernel
theorem dL_law_956 : decode cL_law 956 = .ok (.invokestatic 136, 3) := by decide +kernel
theorem dL_law_959 : decode cL_law 959 = .ok (.istore 6, 2) := by decide +kernel
theorem dL_law_961 : decode cL_law 961 = .ok (.aload_n 2, 1) := by decide +kernel
theorem dL_law_962 : decode cL_law 962 = .ok (.aload_n 0, 1) := by decide +kernel
theorem dL_law_963 : decode cL_law 963 = .ok (.iload 5, 2) := by decide +kernel
theorem dL_law_965 : decode cL_law 965 = .ok (.iconst 1, 1) := by decide +kernel
theorem dL_law_966 : decode cL_law 966 = .ok (.iadd, 1) := by decide +kernel
theorem dL_law_967 : decode cL_law 967 = .ok (.iaload, 1) := by decide +kernel
theorem dL_law_968 : decode cL_law 968 = .ok (.invokevirtual 138, 3) := by decide +kernel
theorem dL_law_971 : decode cL_law 971 = .ok (.istore 7, 2) := by decide +kernel
theorem dL_law_973 : decode cL_law 973 = .ok (.aload_n 2, 1) := by decide +kernel
theorem dL_law_974 : decode cL_law 974 = .ok (.invokevirtual 102, 3) := by decide +kernel
theorem dL_law_977 : decode cL_law 977 = .ok (.iload 6, 2) := by decide +kernel
theorem dL_law_979 : decode cL_law 979 = .ok (.if_icmp .eq 5, 3) := by decide +kernel
theorem dL_law_982 : decode cL_law 982 = .ok (.iconst 0, 1) := by decide +kernel
theorem dL_law_983 : decode cL_law 983 = .ok (.ireturn, 1) := by decide +kernel
theorem dL_law_984 : decode cL_law 984 = .ok (.iload 6, 2) := by decide +kernel
theorem dL_law_986 : decode cL_law 986 = .ok (.ifCond .ne 15, 3) := by decide +kernel
theorem dL_law_989 : decode cL_law 989 = .ok (.aload_n 3, 1) := by decide +kernel
theorem dL_law_990 : decode cL_law 990 = .ok (.iconst 0, 1) := by decide +kernel
theorem dL_law_991 : decode cL_law 991 = .ok (.laload, 1) := by decide +kernel
theorem dL_law_992 : decode cL_law 992 = .ok (.iload 7, 2) := by decide +kernel
theorem dL_law_994 : decode cL_law 994 = .ok (.i2l, 1) := by decide +kernel
theorem dL_law_995 : decode cL_law 995 = .ok (.lcmp, 1) := by decide +kernel
theorem dL_law_996 : decode cL_law 996 = .ok (.ifCond .eq 5, 3) := by decide +kernel
theorem dL_law_999 : decode cL_law 999 = .ok (.iconst 0, 1) := by decide +kernel
theorem dL_law_1000 : decode cL_law 1000 = .ok (.ireturn, 1) := by decide +kernel
theorem dL_law_1001 : decode cL_law 1001 = .ok (.goto 729, 3) := by decide +kernel
theorem dL_law_1004 : decode cL_law 1004 = .ok (.aload_n 1, 1) := by decide +kernel
theorem dL_law_1005 : decode cL_law 1005 = .ok (.aload_n 0, 1) := by decide +kernel
theorem dL_law_1006 : decode cL_law 1006 = .ok (.iload 5, 2) := by decide +kernel
theorem dL_law_1008 : decode cL_law 1008 = .ok (.iconst 1, 1) := by decide +kernel
theorem dL_law_1009 : decode cL_law 1009 = .ok (.iadd, 1) := by decide +kernel
theorem dL_law_1010 : decode cL_law 1010 = .ok (.iaload, 1) := by decide +kernel
theorem dL_law_1011 : decode cL_law 1011 = .ok (.aload_n 3, 1) := by decide +kernel
theorem dL_law_1012 : decode cL_law 1012 = .ok (.invokestatic 139, 3) := by decide +kernel
theorem dL_law_1015 : decode cL_law 1015 = .ok (.istore 6, 2) := by decide +kernel
theorem dL_law_1017 : decode cL_law 1017 = .ok (.aload_n 2, 1) := by decide +kernel
theorem dL_law_1018 : decode cL_law 1018 = .ok (.aload_n 0, 1) := by decide +kernel
theorem dL_law_1019 : decode cL_law 1019 = .ok (.iload 5, 2) := by decide +kernel
theorem dL_law_1021 : decode cL_law 1021 = .ok (.iconst 1, 1) := by decide +kernel
theorem dL_law_1022 : decode cL_law 1022 = .ok (.iadd, 1) := by decide +kernel
theorem dL_law_1023 : decode cL_law 1023 = .ok (.iaload, 1) := by decide +kernel
theorem dL_law_1024 : decode cL_law 1024 = .ok (.invokevirtual 141, 3) := by decide +kernel
theorem dL_law_1027 : decode cL_law 1027 = .ok (.istore 7, 2) := by decide +kernel
theorem dL_law_1029 : decode cL_law 1029 = .ok (.aload_n 2, 1) := by decide +kernel
theorem dL_law_1030 : decode cL_law 1030 = .ok (.invokevirtual 102, 3) := by decide +kernel
theorem dL_law_1033 : decode cL_law 1033 = .ok (.iload 6, 2) := by decide +kernel
theorem dL_law_1035 : decode cL_law 1035 = .ok (.if_icmp .eq 5, 3) := by decide +kernel
theorem dL_law_1038 : decode cL_law 1038 = .ok (.iconst 0, 1) := by decide +kernel
theorem dL_law_1039 : decode cL_law 1039 = .ok (.ireturn, 1) := by decide +kernel
theorem dL_law_1040 : decode cL_law 1040 = .ok (.iload 6, 2) := by decide +kernel
theorem dL_law_1042 : decode cL_law 1042 = .ok (.ifCond .ne 15, 3) := by decide +kernel
theorem dL_law_1045 : decode cL_law 1045 = .ok (.aload_n 3, 1) := by decide +kernel
theorem dL_law_1046 : decode cL_law 1046 = .ok (.iconst 0, 1) := by decide +kernel
theorem dL_law_1047 : decode cL_law 1047 = .ok (.laload, 1) := by decide +kernel
theorem dL_law_1048 : decode cL_law 1048 = .ok (.iload 7, 2) := by decide +kernel
theorem dL_law_1050 : decode cL_law 1050 = .ok (.i2l, 1) := by decide +kernel
theorem dL_law_1051 : decode cL_law 1051 = .ok (.lcmp, 1) := by decide +kernel
theorem dL_law_1052 : decode cL_law 1052 = .ok (.ifCond .eq 5, 3) := by decide +kernel
theorem dL_law_1055 : decode cL_law 1055 = .ok (.iconst 0, 1) := by decide +kernel
theorem dL_law_1056 : decode cL_law 1056 = .ok (.ireturn, 1) := by decide +kernel
theorem dL_law_1057 : decode cL_law 1057 = .ok (.goto 673, 3) := by decide +kernel
theorem dL_law_1060 : decode cL_law 1060 = .ok (.aload_n 1, 1) := by decide +kernel
theorem dL_law_1061 : decode cL_law 1061 = .ok (.aload_n 0, 1) := by decide +kernel
theorem dL_law_1062 : decode cL_law 1062 = .ok (.iload 5, 2) := by decide +kernel
theorem dL_law_1064 : decode cL_law 1064 = .ok (.iconst 1, 1) := by decide +kernel
theorem dL_law_1065 : decode cL_law 1065 = .ok (.iadd, 1) := by decide +kernel
theorem dL_law_1066 : decode cL_law 1066 = .ok (.iaload, 1) := by decide +kernel
theorem dL_law_1067 : decode cL_law 1067 = .ok (.aload_n 3, 1) := by decide +kernel
theorem dL_law_1068 : decode cL_law 1068 = .ok (.invokestatic 142, 3) := by decide +kernel
theorem dL_law_1071 : decode cL_law 1071 = .ok (.istore 6, 2) := by decide +kernel
theorem dL_law_1073 : decode cL_law 1073 = .ok (.aload_n 2, 1) := by decide +kernel
theorem dL_law_1074 : decode cL_law 1074 = .ok (.aload_n 0, 1) := by decide +kernel
theorem dL_law_1075 : decode cL_law 1075 = .ok (.iload 5, 2) := by decide +kernel
theorem dL_law_1077 : decode cL_law 1077 = .ok (.iconst 1, 1) := by decide +kernel
theorem dL_law_1078 : decode cL_law 1078 = .ok (.iadd, 1) := by decide +kernel
theorem dL_law_1079 : decode cL_law 1079 = .ok (.iaload, 1) := by decide +kernel
theorem dL_law_1080 : decode cL_law 1080 = .ok (.invokevirtual 144, 3) := by decide +kernel
theorem dL_law_1083 : decode cL_law 1083 = .ok (.istore 7, 2) := by decide +kernel
theorem dL_law_1085 : decode cL_law 1085 = .ok (.aload_n 2, 1) := by decide +kernel
theorem dL_law_1086 : decode cL_law 1086 = .ok (.invokevirtual 102, 3) := by decide +kernel
theorem dL_law_1089 : decode cL_law 1089 = .ok (.iload 6, 2) := by decide +kernel
theorem dL_law_1091 : decode cL_law 1091 = .ok (.if_icmp .eq 5, 3) := by decide +kernel
theorem dL_law_1094 : decode cL_law 1094 = .ok (.iconst 0, 1) := by decide +kernel
theorem dL_law_1095 : decode cL_law 1095 = .ok (.ireturn, 1) := by decide +kernel
theorem dL_law_1096 : decode cL_law 1096 = .ok (.iload 6, 2) := by decide +kernel
theorem dL_law_1098 : decode cL_law 1098 = .ok (.ifCond .ne 15, 3) := by decide +kernel
theorem dL_law_1101 : decode cL_law 1101 = .ok (.aload_n 3, 1) := by decide +kernel
theorem dL_law_1102 : decode cL_law 1102 = .ok (.iconst 0, 1) := by decide +kernel
theorem dL_law_1103 : decode cL_law 1103 = .ok (.laload, 1) := by decide +kernel
theorem dL_law_1104 : decode cL_law 1104 = .ok (.iload 7, 2) := by decide +kernel
theorem dL_law_1106 : decode cL_law 1106 = .ok (.i2l, 1) := by decide +kernel
theorem dL_law_1107 : decode cL_law 1107 = .ok (.lcmp, 1) := by decide +kernel
theorem dL_law_1108 : decode cL_law 1108 = .ok (.ifCond .eq 5, 3) := by decide +kernel
theorem dL_law_1111 : decode cL_law 1111 = .ok (.iconst 0, 1) := by decide +kernel
theorem dL_law_1112 : decode cL_law 1112 = .ok (.ireturn, 1) := by decide +kernel
theorem dL_law_1113 : decode cL_law 1113 = .ok (.goto 617, 3) := by decide +kernel
theorem dL_law_1116 : decode cL_law 1116 = .ok (.aload_n 1, 1) := by decide +kernel
theorem dL_law_1117 : decode cL_law 1117 = .ok (.aload_n 0, 1) := by decide +kernel
theorem dL_law_1118 : decode cL_law 1118 = .ok (.iload 5, 2) := by decide +kernel
theorem dL_law_1120 : decode cL_law 1120 = .ok (.iconst 1, 1) := by decide +kernel
theorem dL_law_1121 : decode cL_law 1121 = .ok (.iadd, 1) := by decide +kernel
theorem dL_law_1122 : decode cL_law 1122 = .ok (.iaload, 1) := by decide +kernel
theorem dL_law_1123 : decode cL_law 1123 = .ok (.aload_n 3, 1) := by decide +kernel
theorem dL_law_1124 : decode cL_law 1124 = .ok (.invokestatic 145, 3) := by decide +kernel
theorem dL_law_1127 : decode cL_law 1127 = .ok (.istore 6, 2) := by decide +kernel
theorem dL_law_1129 : decode cL_law 1129 = .ok (.aload_n 2, 1) := by decide +kernel
theorem dL_law_1130 : decode cL_law 1130 = .ok (.aload_n 0, 1) := by decide +kernel
theorem dL_law_1131 : decode cL_law 1131 = .ok (.iload 5, 2) := by decide +kernel
theorem dL_law_1133 : decode cL_law 1133 = .ok (.iconst 1, 1) := by decide +kernel
theorem dL_law_1134 : decode cL_law 1134 = .ok (.iadd, 1) := by decide +kernel
theorem dL_law_1135 : decode cL_law 1135 = .ok (.iaload, 1) := by decide +kernel
theorem dL_law_1136 : decode cL_law 1136 = .ok (.invokevirtual 147, 3) := by decide +kernel
theorem dL_law_1139 : decode cL_law 1139 = .ok (.istore 7, 2) := by decide +kernel
theorem dL_law_1141 : decode cL_law 1141 = .ok (.aload_n 2, 1) := by decide +kernel
theorem dL_law_1142 : decode cL_law 1142 = .ok (.invokevirtual 102, 3) := by decide +kernel
theorem dL_law_1145 : decode cL_law 1145 = .ok (.iload 6, 2) := by decide +kernel
theorem dL_law_1147 : decode cL_law 1147 = .ok (.if_icmp .eq 5, 3) := by decide +kernel
theorem dL_law_1150 : decode cL_law 1150 = .ok (.iconst 0, 1) := by decide +kernel
theorem dL_law_1151 : decode cL_law 1151 = .ok (.ireturn, 1) := by decide +kernel
theorem dL_law_1152 : decode cL_law 1152 = .ok (.iload 6, 2) := by decide +kernel
theorem dL_law_1154 : decode cL_law 1154 = .ok (.ifCond .ne 15, 3) := by decide +kernel
theorem dL_law_1157 : decode cL_law 1157 = .ok (.aload_n 3, 1) := by decide +kernel
theorem dL_law_1158 : decode cL_law 1158 = .ok (.iconst 0, 1) := by decide +kernel
theorem dL_law_1159 : decode cL_law 1159 = .ok (.laload, 1) := by decide +kernel
theorem dL_law_1160 : decode cL_law 1160 = .ok (.iload 7, 2) := by decide +kernel
theorem dL_law_1162 : decode cL_law 1162 = .ok (.i2l, 1) := by decide +kernel
theorem dL_law_1163 : decode cL_law 1163 = .ok (.lcmp, 1) := by decide +kernel
theorem dL_law_1164 : decode cL_law 1164 = .ok (.ifCond .eq 5, 3) := by decide +kernel
theorem dL_law_1167 : decode cL_law 1167 = .ok (.iconst 0, 1) := by decide +kernel
theorem dL_law_1168 : decode cL_law 1168 = .ok (.ireturn, 1) := by decide +kernel
theorem dL_law_1169 : decode cL_law 1169 = .ok (.goto 561, 3) := by decide +kernel
theorem dL_law_1172 : decode cL_law 1172 = .ok (.aload_n 1, 1) := by decide +kernel
theorem dL_law_1173 : decode cL_law 1173 = .ok (.aload_n 3, 1) := by decide +kernel
theorem dL_law_1174 : decode cL_law 1174 = .ok (.invokestatic 148, 3) := by decide +kernel
theorem dL_law_1177 : decode cL_law 1177 = .ok (.istore 6, 2) := by decide +kernel
theorem dL_law_1179 : decode cL_law 1179 = .ok (.aload_n 2, 1) := by decide +kernel
theorem dL_law_1180 : decode cL_law 1180 = .ok (.invokevirtual 150, 3) := by decide +kernel
theorem dL_law_1183 : decode cL_law 1183 = .ok (.istore 7, 2) := by decide +kernel
theorem dL_law_1185 : decode cL_law 1185 = .ok (.aload_n 2, 1) := by decide +kernel
theorem dL_law_1186 : decode cL_law 1186 = .ok (.invokevirtual 102, 3) := by decide +kernel
theorem dL_law_1189 : decode cL_law 1189 = .ok (.iload 6, 2) := by decide +kernel
theorem dL_law_1191 : decode cL_law 1191 = .ok (.if_icmp .eq 5, 3) := by decide +kernel
theorem dL_law_1194 : decode cL_law 1194 = .ok (.iconst 0, 1) := by decide +kernel
theorem dL_law_1195 : decode cL_law 1195 = .ok (.ireturn, 1) := by decide +kernel
theorem dL_law_1196 : decode cL_law 1196 = .ok (.iload 6, 2) := by decide +kernel
theorem dL_law_1198 : decode cL_law 1198 = .ok (.ifCond .ne 15, 3) := by decide +kernel
theorem dL_law_1201 : decode cL_law 1201 = .ok (.aload_n 3, 1) := by decide +kernel
theorem dL_law_1202 : decode cL_law 1202 = .ok (.iconst 0, 1) := by decide +kernel
theorem dL_law_1203 : decode cL_law 1203 = .ok (.laload, 1) := by decide +kernel
theorem dL_law_1204 : decode cL_law 1204 = .ok (.iload 7, 2) := by decide +kernel
theorem dL_law_1206 : decode cL_law 1206 = .ok (.i2l, 1) := by decide +kernel
theorem dL_law_1207 : decode cL_law 1207 = .ok (.lcmp, 1) := by decide +kernel
theorem dL_law_1208 : decode cL_law 1208 = .ok (.ifCond .eq 5, 3) := by decide +kernel
theorem dL_law_1211 : decode cL_law 1211 = .ok (.iconst 0, 1) := by decide +kernel
theorem dL_law_1212 : decode cL_law 1212 = .ok (.ireturn, 1) := by decide +kernel
theorem dL_law_1213 : decode cL_law 1213 = .ok (.goto 517, 3) := by decide +kernel
theorem dL_law_1216 : decode cL_law 1216 = .ok (.aload_n 1, 1) := by decide +kernel
theorem dL_law_1217 : decode cL_law 1217 = .ok (.invokevirtual 151, 3) := by decide +kernel
theorem dL_law_1220 : decode cL_law 1220 = .ok (.aload_n 2, 1) := by decide +kernel
theorem dL_law_1221 : decode cL_law 1221 = .ok (.invokevirtual 154, 3) := by decide +kernel
theorem dL_law_1224 : decode cL_law 1224 = .ok (.if_icmp .eq 506, 3) := by decide +kernel
theorem dL_law_1227 : decode cL_law 1227 = .ok (.iconst 0, 1) := by decide +kernel
theorem dL_law_1228 : decode cL_law 1228 = .ok (.ireturn, 1) := by decide +kernel
theorem dL_law_1229 : decode cL_law 1229 = .ok (.aload_n 1, 1) := by decide +kernel
theorem dL_law_1230 : decode cL_law 1230 = .ok (.aload_n 0, 1) := by decide +kernel
theorem dL_law_1231 : decode cL_law 1231 = .ok (.iload 5, 2) := by decide +kernel
theorem dL_law_1233 : decode cL_law 1233 = .ok (.iconst 1, 1) := by decide +kernel
theorem dL_law_1234 : decode cL_law 1234 = .ok (.iadd, 1) := by decide +kernel
theorem dL_law_1235 : decode cL_law 1235 = .ok (.iaload, 1) := by decide +kernel
theorem dL_law_1236 : decode cL_law 1236 = .ok (.aload_n 3, 1) := by decide +kernel
theorem dL_law_1237 : decode cL_law 1237 = .ok (.invokestatic 155, 3) := by decide +kernel
theorem dL_law_1240 : decode cL_law 1240 = .ok (.istore 6, 2) := by decide +kernel
theorem dL_law_1242 : decode cL_law 1242 = .ok (.aload_n 2, 1) := by decide +kernel
theorem dL_law_1243 : decode cL_law 1243 = .ok (.aload_n 0, 1) := by decide +kernel
theorem dL_law_1244 : decode cL_law 1244 = .ok (.iload 5, 2) := by decide +kernel
theorem dL_law_1246 : decode cL_law 1246 = .ok (.iconst 1, 1) := by decide +kernel
theorem dL_law_1247 : decode cL_law 1247 = .ok (.iadd, 1) := by decide +kernel
theorem dL_law_1248 : decode cL_law 1248 = .ok (.iaload, 1) := by decide +kernel
theorem dL_law_1249 : decode cL_law 1249 = .ok (.invokevirtual 157, 3) := by decide +kernel
theorem dL_law_1252 : decode cL_law 1252 = .ok (.istore 7, 2) := by decide +kernel
theorem dL_law_1254 : decode cL_law 1254 = .ok (.aload_n 2, 1) := by decide +kernel
theorem dL_law_1255 : decode cL_law 1255 = .ok (.invokevirtual 102, 3) := by decide +kernel
theorem dL_law_1258 : decode cL_law 1258 = .ok (.iload 6, 2) := by decide +kernel
theorem dL_law_1260 : decode cL_law 1260 = .ok (.if_icmp .eq 5, 3) := by decide +kernel
theorem dL_law_1263 : decode cL_law 1263 = .ok (.iconst 0, 1) := by decide +kernel
theorem dL_law_1264 : decode cL_law 1264 = .ok (.ireturn, 1) := by decide +kernel
theorem dL_law_1265 : decode cL_law 1265 = .ok (.iload 6, 2) := by decide +kernel
theorem dL_law_1267 : decode cL_law 1267 = .ok (.ifCond .ne 15, 3) := by decide +kernel
theorem dL_law_1270 : decode cL_law 1270 = .ok (.aload_n 3, 1) := by decide +kernel
theorem dL_law_1271 : decode cL_law 1271 = .ok (.iconst 0, 1) := by decide +kernel
theorem dL_law_1272 : decode cL_law 1272 = .ok (.laload, 1) := by decide +kernel
theorem dL_law_1273 : decode cL_law 1273 = .ok (.iload 7, 2) := by decide +kernel
theorem dL_law_1275 : decode cL_law 1275 = .ok (.i2l, 1) := by decide +kernel
theorem dL_law_1276 : decode cL_law 1276 = .ok (.lcmp, 1) := by decide +kernel
theorem dL_law_1277 : decode cL_law 1277 = .ok (.ifCond .eq 5, 3) := by decide +kernel
theorem dL_law_1280 : decode cL_law 1280 = .ok (.iconst 0, 1) := by decide +kernel
theorem dL_law_1281 : decode cL_law 1281 = .ok (.ireturn, 1) := by decide +kernel
theorem dL_law_1282 : decode cL_law 1282 = .ok (.goto 448, 3) := by decide +kernel
theorem dL_law_1285 : decode cL_law 1285 = .ok (.aload_n 1, 1) := by decide +kernel
theorem dL_law_1286 : decode cL_law 1286 = .ok (.aload_n 0, 1) := by decide +kernel
theorem dL_law_1287 : decode cL_law 1287 = .ok (.iload 5, 2) := by decide +kernel
theorem dL_law_1289 : decode cL_law 1289 = .ok (.iconst 1, 1) := by decide +kernel
theorem dL_law_1290 : decode cL_law 1290 = .ok (.iadd, 1) := by decide +kernel
theorem dL_law_1291 : decode cL_law 1291 = .ok (.iaload, 1) := by decide +kernel
theorem dL_law_1292 : decode cL_law 1292 = .ok (.aload_n 3, 1) := by decide +kernel
theorem dL_law_1293 : decode cL_law 1293 = .ok (.invokestatic 158, 3) := by decide +kernel
theorem dL_law_1296 : decode cL_law 1296 = .ok (.istore 6, 2) := by decide +kernel
theorem dL_law_1298 : decode cL_law 1298 = .ok (.aload_n 2, 1) := by decide +kernel
theorem dL_law_1299 : decode cL_law 1299 = .ok (.aload_n 0, 1) := by decide +kernel
theorem dL_law_1300 : decode cL_law 1300 = .ok (.iload 5, 2) := by decide +kernel
theorem dL_law_1302 : decode cL_law 1302 = .ok (.iconst 1, 1) := by decide +kernel
theorem dL_law_1303 : decode cL_law 1303 = .ok (.iadd, 1) := by decide +kernel
theorem dL_law_1304 : decode cL_law 1304 = .ok (.iaload, 1) := by decide +kernel
theorem dL_law_1305 : decode cL_law 1305 = .ok (.invokevirtual 160, 3) := by decide +kernel
theorem dL_law_1308 : decode cL_law 1308 = .ok (.istore 7, 2) := by decide +kernel
theorem dL_law_1310 : decode cL_law 1310 = .ok (.aload_n 2, 1) := by decide +kernel
theorem dL_law_1311 : decode cL_law 1311 = .ok (.invokevirtual 102, 3) := by decide +kernel
theorem dL_law_1314 : decode cL_law 1314 = .ok (.iload 6, 2) := by decide +kernel
theorem dL_law_1316 : decode cL_law 1316 = .ok (.if_icmp .eq 5, 3) := by decide +kernel
theorem dL_law_1319 : decode cL_law 1319 = .ok (.iconst 0, 1) := by decide +kernel
theorem dL_law_1320 : decode cL_law 1320 = .ok (.ireturn, 1) := by decide +kernel
theorem dL_law_1321 : decode cL_law 1321 = .ok (.iload 6, 2) := by decide +kernel
theorem dL_law_1323 : decode cL_law 1323 = .ok (.ifCond .ne 15, 3) := by decide +kernel
theorem dL_law_1326 : decode cL_law 1326 = .ok (.aload_n 3, 1) := by decide +kernel
theorem dL_law_1327 : decode cL_law 1327 = .ok (.iconst 0, 1) := by decide +kernel
theorem dL_law_1328 : decode cL_law 1328 = .ok (.laload, 1) := by decide +kernel
theorem dL_law_1329 : decode cL_law 1329 = .ok (.iload 7, 2) := by decide +kernel
theorem dL_law_1331 : decode cL_law 1331 = .ok (.i2l, 1) := by decide +kernel
theorem dL_law_1332 : decode cL_law 1332 = .ok (.lcmp, 1) := by decide +kernel
theorem dL_law_1333 : decode cL_law 1333 = .ok (.ifCond .eq 5, 3) := by decide +kernel
theorem dL_law_1336 : decode cL_law 1336 = .ok (.iconst 0, 1) := by decide +kernel
theorem dL_law_1337 : decode cL_law 1337 = .ok (.ireturn, 1) := by decide +kernel
theorem dL_law_1338 : decode cL_law 1338 = .ok (.goto 392, 3) := by decide +kernel
theorem dL_law_1341 : decode cL_law 1341 = .ok (.aload_n 1, 1) := by decide +kernel
theorem dL_law_1342 : decode cL_law 1342 = .ok (.invokevirtual 161, 3) := by decide +kernel
theorem dL_law_1345 : decode cL_law 1345 = .ok (.aload_n 2, 1) := by decide +kernel
theorem dL_law_1346 : decode cL_law 1346 = .ok (.invokevirtual 164, 3) := by decide +kernel
theorem dL_law_1349 : decode cL_law 1349 = .ok (.if_icmp .eq 381, 3) := by decide +kernel
theorem dL_law_1352 : decode cL_law 1352 = .ok (.iconst 0, 1) := by decide +kernel
theorem dL_law_1353 : decode cL_law 1353 = .ok (.ireturn, 1) := by decide +kernel
theorem dL_law_1354 : decode cL_law 1354 = .ok (.aload_n 1, 1) := by decide +kernel
theorem dL_law_1355 : decode cL_law 1355 = .ok (.invokevirtual 165, 3) := by decide +kernel
theorem dL_law_1358 : decode cL_law 1358 = .ok (.aload_n 2, 1) := by decide +kernel
theorem dL_law_1359 : decode cL_law 1359 = .ok (.invokevirtual 168, 3) := by decide +kernel
theorem dL_law_1362 : decode cL_law 1362 = .ok (.if_icmp .eq 368, 3) := by decide +kernel
theorem dL_law_1365 : decode cL_law 1365 = .ok (.iconst 0, 1) := by decide +kernel
theorem dL_law_1366 : decode cL_law 1366 = .ok (.ireturn, 1) := by decide +kernel
theorem dL_law_1367 : decode cL_law 1367 = .ok (.aload_n 1, 1) := by decide +kernel
theorem dL_law_1368 : decode cL_law 1368 = .ok (.invokevirtual 169, 3) := by decide +kernel
theorem dL_law_1371 : decode cL_law 1371 = .ok (.aload_n 2, 1) := by decide +kernel
theorem dL_law_1372 : decode cL_law 1372 = .ok (.invokevirtual 173, 3) := by decide +kernel
theorem dL_law_1375 : decode cL_law 1375 = .ok (.lcmp, 1) := by decide +kernel
theorem dL_law_1376 : decode cL_law 1376 = .ok (.ifCond .eq 354, 3) := by decide +kernel
theorem dL_law_1379 : decode cL_law 1379 = .ok (.iconst 0, 1) := by decide +kernel
theorem dL_law_1380 : decode cL_law 1380 = .ok (.ireturn, 1) := by decide +kernel
theorem dL_law_1381 : decode cL_law 1381 = .ok (.aload_n 1, 1) := by decide +kernel
theorem dL_law_1382 : decode cL_law 1382 = .ok (.invokevirtual 174, 3) := by decide +kernel
theorem dL_law_1385 : decode cL_law 1385 = .ok (.aload_n 2, 1) := by decide +kernel
theorem dL_law_1386 : decode cL_law 1386 = .ok (.invokevirtual 177, 3) := by decide +kernel
theorem dL_law_1389 : decode cL_law 1389 = .ok (.lcmp, 1) := by decide +kernel
theorem dL_law_1390 : decode cL_law 1390 = .ok (.ifCond .eq 340, 3) := by decide +kernel
theorem dL_law_1393 : decode cL_law 1393 = .ok (.iconst 0, 1) := by decide +kernel
theorem dL_law_1394 : decode cL_law 1394 = .ok (.ireturn, 1) := by decide +kernel
theorem dL_law_1395 : decode cL_law 1395 = .ok (.aload_n 1, 1) := by decide +kernel
theorem dL_law_1396 : decode cL_law 1396 = .ok (.invokevirtual 178, 3) := by decide +kernel
theorem dL_law_1399 : decode cL_law 1399 = .ok (.aload_n 2, 1) := by decide +kernel
theorem dL_law_1400 : decode cL_law 1400 = .ok (.invokevirtual 181, 3) := by decide +kernel
theorem dL_law_1403 : decode cL_law 1403 = .ok (.if_icmp .eq 327, 3) := by decide +kernel
theorem dL_law_1406 : decode cL_law 1406 = .ok (.iconst 0, 1) := by decide +kernel
theorem dL_law_1407 : decode cL_law 1407 = .ok (.ireturn, 1) := by decide +kernel
theorem dL_law_1408 : decode cL_law 1408 = .ok (.aload_n 1, 1) := by decide +kernel
theorem dL_law_1409 : decode cL_law 1409 = .ok (.invokevirtual 182, 3) := by decide +kernel
theorem dL_law_1412 : decode cL_law 1412 = .ok (.aload_n 2, 1) := by decide +kernel
theorem dL_law_1413 : decode cL_law 1413 = .ok (.invokevirtual 185, 3) := by decide +kernel
theorem dL_law_1416 : decode cL_law 1416 = .ok (.if_icmp .eq 314, 3) := by decide +kernel
theorem dL_law_1419 : decode cL_law 1419 = .ok (.iconst 0, 1) := by decide +kernel
theorem dL_law_1420 : decode cL_law 1420 = .ok (.ireturn, 1) := by decide +kernel
theorem dL_law_1421 : decode cL_law 1421 = .ok (.aload_n 1, 1) := by decide +kernel
theorem dL_law_1422 : decode cL_law 1422 = .ok (.invokevirtual 186, 3) := by decide +kernel
theorem dL_law_1425 : decode cL_law 1425 = .ok (.aload_n 2, 1) := by decide +kernel
theorem dL_law_1426 : decode cL_law 1426 = .ok (.invokevirtual 189, 3) := by decide +kernel
theorem dL_law_1429 : decode cL_law 1429 = .ok (.if_icmp .eq 301, 3) := by decide +kernel
theorem dL_law_1432 : decode cL_law 1432 = .ok (.iconst 0, 1) := by decide +kernel
theorem dL_law_1433 : decode cL_law 1433 = .ok (.ireturn, 1) := by decide +kernel
theorem dL_law_1434 : decode cL_law 1434 = .ok (.aload_n 1, 1) := by decide +kernel
theorem dL_law_1435 : decode cL_law 1435 = .ok (.invokevirtual 190, 3) := by decide +kernel
theorem dL_law_1438 : decode cL_law 1438 = .ok (.aload_n 2, 1) := by decide +kernel
theorem dL_law_1439 : decode cL_law 1439 = .ok (.invokevirtual 193, 3) := by decide +kernel
theorem dL_law_1442 : decode cL_law 1442 = .ok (.if_icmp .eq 288, 3) := by decide +kernel
theorem dL_law_1445 : decode cL_law 1445 = .ok (.iconst 0, 1) := by decide +kernel
theorem dL_law_1446 : decode cL_law 1446 = .ok (.ireturn, 1) := by decide +kernel
theorem dL_law_1447 : decode cL_law 1447 = .ok (.aload_n 1, 1) := by decide +kernel
theorem dL_law_1448 : decode cL_law 1448 = .ok (.invokevirtual 194, 3) := by decide +kernel
theorem dL_law_1451 : decode cL_law 1451 = .ok (.aload_n 2, 1) := by decide +kernel
theorem dL_law_1452 : decode cL_law 1452 = .ok (.invokevirtual 197, 3) := by decide +kernel
theorem dL_law_1455 : decode cL_law 1455 = .ok (.if_icmp .eq 275, 3) := by decide +kernel
theorem dL_law_1458 : decode cL_law 1458 = .ok (.iconst 0, 1) := by decide +kernel
theorem dL_law_1459 : decode cL_law 1459 = .ok (.ireturn, 1) := by decide +kernel
theorem dL_law_1460 : decode cL_law 1460 = .ok (.aload_n 1, 1) := by decide +kernel
theorem dL_law_1461 : decode cL_law 1461 = .ok (.aload_n 0, 1) := by decide +kernel
theorem dL_law_1462 : decode cL_law 1462 = .ok (.iload 5, 2) := by decide +kernel
theorem dL_law_1464 : decode cL_law 1464 = .ok (.iconst 1, 1) := by decide +kernel
theorem dL_law_1465 : decode cL_law 1465 = .ok (.iadd, 1) := by decide +kernel
theorem dL_law_1466 : decode cL_law 1466 = .ok (.iaload, 1) := by decide +kernel
theorem dL_law_1467 : decode cL_law 1467 = .ok (.aload_n 3, 1) := by decide +kernel
theorem dL_law_1468 : decode cL_law 1468 = .ok (.invokestatic 198, 3) := by decide +kernel
theorem dL_law_1471 : decode cL_law 1471 = .ok (.istore 6, 2) := by decide +kernel
theorem dL_law_1473 : decode cL_law 1473 = .ok (.aload_n 2, 1) := by decide +kernel
theorem dL_law_1474 : decode cL_law 1474 = .ok (.aload_n 0, 1) := by decide +kernel
theorem dL_law_1475 : decode cL_law 1475 = .ok (.iload 5, 2) := by decide +kernel
theorem dL_law_1477 : decode cL_law 1477 = .ok (.iconst 1, 1) := by decide +kernel
theorem dL_law_1478 : decode cL_law 1478 = .ok (.iadd, 1) := by decide +kernel
theorem dL_law_1479 : decode cL_law 1479 = .ok (.iaload, 1) := by decide +kernel
theorem dL_law_1480 : decode cL_law 1480 = .ok (.invokevirtual 200, 3) := by decide +kernel
theorem dL_law_1483 : decode cL_law 1483 = .ok (.istore 7, 2) := by decide +kernel
theorem dL_law_1485 : decode cL_law 1485 = .ok (.aload_n 2, 1) := by decide +kernel
theorem dL_law_1486 : decode cL_law 1486 = .ok (.invokevirtual 102, 3) := by decide +kernel
theorem dL_law_1489 : decode cL_law 1489 = .ok (.iload 6, 2) := by decide +kernel
theorem dL_law_1491 : decode cL_law 1491 = .ok (.if_icmp .eq 5, 3) := by decide +kernel
theorem dL_law_1494 : decode cL_law 1494 = .ok (.iconst 0, 1) := by decide +kernel
theorem dL_law_1495 : decode cL_law 1495 = .ok (.ireturn, 1) := by decide +kernel
theorem dL_law_1496 : decode cL_law 1496 = .ok (.iload 6, 2) := by decide +kernel
theorem dL_law_1498 : decode cL_law 1498 = .ok (.ifCond .ne 15, 3) := by decide +kernel
theorem dL_law_1501 : decode cL_law 1501 = .ok (.aload_n 3, 1) := by decide +kernel
theorem dL_law_1502 : decode cL_law 1502 = .ok (.iconst 0, 1) := by decide +kernel
theorem dL_law_1503 : decode cL_law 1503 = .ok (.laload, 1) := by decide +kernel
theorem dL_law_1504 : decode cL_law 1504 = .ok (.iload 7, 2) := by decide +kernel
theorem dL_law_1506 : decode cL_law 1506 = .ok (.i2l, 1) := by decide +kernel
theorem dL_law_1507 : decode cL_law 1507 = .ok (.lcmp, 1) := by decide +kernel
theorem dL_law_1508 : decode cL_law 1508 = .ok (.ifCond .eq 5, 3) := by decide +kernel
theorem dL_law_1511 : decode cL_law 1511 = .ok (.iconst 0, 1) := by decide +kernel
theorem dL_law_1512 : decode cL_law 1512 = .ok (.ireturn, 1) := by decide +kernel
theorem dL_law_1513 : decode cL_law 1513 = .ok (.goto 217, 3) := by decide +kernel
theorem dL_law_1516 : decode cL_law 1516 = .ok (.aload_n 1, 1) := by decide +kernel
theorem dL_law_1517 : decode cL_law 1517 = .ok (.invokevirtual 201, 3) := by decide +kernel
theorem dL_law_1520 : decode cL_law 1520 = .ok (.aload_n 2, 1) := by decide +kernel
theorem dL_law_1521 : decode cL_law 1521 = .ok (.invokevirtual 204, 3) := by decide +kernel
theorem dL_law_1524 : decode cL_law 1524 = .ok (.if_icmp .eq 206, 3) := by decide +kernel
theorem dL_law_1527 : decode cL_law 1527 = .ok (.iconst 0, 1) := by decide +kernel
theorem dL_law_1528 : decode cL_law 1528 = .ok (.ireturn, 1) := by decide +kernel
theorem dL_law_1529 : decode cL_law 1529 = .ok (.aload_n 1, 1) := by decide +kernel
theorem dL_law_1530 : decode cL_law 1530 = .ok (.invokevirtual 205, 3) := by decide +kernel
theorem dL_law_1533 : decode cL_law 1533 = .ok (.aload_n 2, 1) := by decide +kernel
theorem dL_law_1534 : decode cL_law 1534 = .ok (.invokevirtual 208, 3) := by decide +kernel
theorem dL_law_1537 : decode cL_law 1537 = .ok (.if_icmp .eq 193, 3) := by decide +kernel
theorem dL_law_1540 : decode cL_law 1540 = .ok (.iconst 0, 1) := by decide +kernel
theorem dL_law_1541 : decode cL_law 1541 = .ok (.ireturn, 1) := by decide +kernel
theorem dL_law_1542 : decode cL_law 1542 = .ok (.aload_n 1, 1) := by decide +kernel
theorem dL_law_1543 : decode cL_law 1543 = .ok (.aload_n 3, 1) := by decide +kernel
theorem dL_law_1544 : decode cL_law 1544 = .ok (.invokestatic 209, 3) := by decide +kernel
theorem dL_law_1547 : decode cL_law 1547 = .ok (.istore 6, 2) := by decide +kernel
theorem dL_law_1549 : decode cL_law 1549 = .ok (.aload_n 2, 1) := by decide +kernel
theorem dL_law_1550 : decode cL_law 1550 = .ok (.invokevirtual 211, 3) := by decide +kernel
theorem dL_law_1553 : decode cL_law 1553 = .ok (.istore 7, 2) := by decide +kernel
theorem dL_law_1555 : decode cL_law 1555 = .ok (.aload_n 2, 1) := by decide +kernel
theorem dL_law_1556 : decode cL_law 1556 = .ok (.invokevirtual 102, 3) := by decide +kernel
theorem dL_law_1559 : decode cL_law 1559 = .ok (.iload 6, 2) := by decide +kernel
theorem dL_law_1561 : decode cL_law 1561 = .ok (.if_icmp .eq 5, 3) := by decide +kernel
theorem dL_law_1564 : decode cL_law 1564 = .ok (.iconst 0, 1) := by decide +kernel
theorem dL_law_1565 : decode cL_law 1565 = .ok (.ireturn, 1) := by decide +kernel
theorem dL_law_1566 : decode cL_law 1566 = .ok (.iload 6, 2) := by decide +kernel
theorem dL_law_1568 : decode cL_law 1568 = .ok (.ifCond .ne 15, 3) := by decide +kernel
theorem dL_law_1571 : decode cL_law 1571 = .ok (.aload_n 3, 1) := by decide +kernel
theorem dL_law_1572 : decode cL_law 1572 = .ok (.iconst 0, 1) := by decide +kernel
theorem dL_law_1573 : decode cL_law 1573 = .ok (.laload, 1) := by decide +kernel
theorem dL_law_1574 : decode cL_law 1574 = .ok (.iload 7, 2) := by decide +kernel
theorem dL_law_1576 : decode cL_law 1576 = .ok (.i2l, 1) := by decide +kernel
theorem dL_law_1577 : decode cL_law 1577 = .ok (.lcmp, 1) := by decide +kernel
theorem dL_law_1578 : decode cL_law 1578 = .ok (.ifCond .eq 5, 3) := by decide +kernel
theorem dL_law_1581 : decode cL_law 1581 = .ok (.iconst 0, 1) := by decide +kernel
theorem dL_law_1582 : decode cL_law 1582 = .ok (.ireturn, 1) := by decide +kernel
theorem dL_law_1583 : decode cL_law 1583 = .ok (.goto 147, 3) := by decide +kernel
theorem dL_law_1586 : decode cL_law 1586 = .ok (.aload_n 1, 1) := by decide +kernel
theorem dL_law_1587 : decode cL_law 1587 = .ok (.aload 4, 2) := by decide +kernel
theorem dL_law_1589 : decode cL_law 1589 = .ok (.invokestatic 212, 3) := by decide +kernel
theorem dL_law_1592 : decode cL_law 1592 = .ok (.istore 6, 2) := by decide +kernel
theorem dL_law_1594 : decode cL_law 1594 = .ok (.aload_n 2, 1) := by decide +kernel
theorem dL_law_1595 : decode cL_law 1595 = .ok (.invokevirtual 215, 3) := by decide +kernel
theorem dL_law_1598 : decode cL_law 1598 = .ok (.fstore 7, 2) := by decide +kernel
theorem dL_law_1600 : decode cL_law 1600 = .ok (.aload_n 2, 1) := by decide +kernel
theorem dL_law_1601 : decode cL_law 1601 = .ok (.invokevirtual 102, 3) := by decide +kernel
theorem dL_law_1604 : decode cL_law 1604 = .ok (.iload 6, 2) := by decide +kernel
theorem dL_law_1606 : decode cL_law 1606 = .ok (.if_icmp .eq 5, 3) := by decide +kernel
theorem dL_law_1609 : decode cL_law 1609 = .ok (.iconst 0, 1) := by decide +kernel
theorem dL_law_1610 : decode cL_law 1610 = .ok (.ireturn, 1) := by decide +kernel
theorem dL_law_1611 : decode cL_law 1611 = .ok (.iload 6, 2) := by decide +kernel
theorem dL_law_1613 : decode cL_law 1613 = .ok (.ifCond .ne 36, 3) := by decide +kernel
theorem dL_law_1616 : decode cL_law 1616 = .ok (.aload 4, 2) := by decide +kernel
theorem dL_law_1618 : decode cL_law 1618 = .ok (.iconst 0, 1) := by decide +kernel
theorem dL_law_1619 : decode cL_law 1619 = .ok (.daload, 1) := by decide +kernel
theorem dL_law_1620 : decode cL_law 1620 = .ok (.fload 7, 2) := by decide +kernel
theorem dL_law_1622 : decode cL_law 1622 = .ok (.f2d, 1) := by decide +kernel
theorem dL_law_1623 : decode cL_law 1623 = .ok (.dcmp .l, 1) := by decide +kernel
theorem dL_law_1624 : decode cL_law 1624 = .ok (.ifCond .eq 25, 3) := by decide +kernel
theorem dL_law_1627 : decode cL_law 1627 = .ok (.aload 4, 2) := by decide +kernel
theorem dL_law_1629 : decode cL_law 1629 = .ok (.iconst 0, 1) := by decide +kernel
theorem dL_law_1630 : decode cL_law 1630 = .ok (.daload, 1) := by decide +kernel
theorem dL_law_1631 : decode cL_law 1631 = .ok (.aload 4, 2) := by decide +kernel
theorem dL_law_1633 : decode cL_law 1633 = .ok (.iconst 0, 1) := by decide +kernel
theorem dL_law_1634 : decode cL_law 1634 = .ok (.daload, 1) := by decide +kernel
theorem dL_law_1635 : decode cL_law 1635 = .ok (.dcmp .l, 1) := by decide +kernel
theorem dL_law_1636 : decode cL_law 1636 = .ok (.ifCond .eq 11, 3) := by decide +kernel
theorem dL_law_1639 : decode cL_law 1639 = .ok (.fload 7, 2) := by decide +kernel
theorem dL_law_1641 : decode cL_law 1641 = .ok (.fload 7, 2) := by decide +kernel
theorem dL_law_1643 : decode cL_law 1643 = .ok (.fcmp .l, 1) := by decide +kernel
theorem dL_law_1644 : decode cL_law 1644 = .ok (.ifCond .ne 5, 3) := by decide +kernel
theorem dL_law_1647 : decode cL_law 1647 = .ok (.iconst 0, 1) := by decide +kernel
theorem dL_law_1648 : decode cL_law 1648 = .ok (.ireturn, 1) := by decide +kernel
theorem dL_law_1649 : decode cL_law 1649 = .ok (.goto 81, 3) := by decide +kernel
theorem dL_law_1652 : decode cL_law 1652 = .ok (.aload_n 1, 1) := by decide +kernel
theorem dL_law_1653 : decode cL_law 1653 = .ok (.aload 4, 2) := by decide +kernel
theorem dL_law_1655 : decode cL_law 1655 = .ok (.invokestatic 216, 3) := by decide +kernel
theorem dL_law_1658 : decode cL_law 1658 = .ok (.istore 6, 2) := by decide +kernel
theorem dL_law_1660 : decode cL_law 1660 = .ok (.aload_n 2, 1) := by decide +kernel
theorem dL_law_1661 : decode cL_law 1661 = .ok (.invokevirtual 218, 3) := by decide +kernel
theorem dL_law_1664 : decode cL_law 1664 = .ok (.dstore 7, 2) := by decide +kernel
theorem dL_law_1666 : decode cL_law 1666 = .ok (.aload_n 2, 1) := by decide +kernel
theorem dL_law_1667 : decode cL_law 1667 = .ok (.invokevirtual 102, 3) := by decide +kernel
theorem dL_law_1670 : decode cL_law 1670 = .ok (.iload 6, 2) := by decide +kernel
theorem dL_law_1672 : decode cL_law 1672 = .ok (.if_icmp .eq 5, 3) := by decide +kernel
theorem dL_law_1675 : decode cL_law 1675 = .ok (.iconst 0, 1) := by decide +kernel
theorem dL_law_1676 : decode cL_law 1676 = .ok (.ireturn, 1) := by decide +kernel
theorem dL_law_1677 : decode cL_law 1677 = .ok (.iload 6, 2) := by decide +kernel
theorem dL_law_1679 : decode cL_law 1679 = .ok (.ifCond .ne 35, 3) := by decide +kernel
theorem dL_law_1682 : decode cL_law 1682 = .ok (.aload 4, 2) := by decide +kernel
theorem dL_law_1684 : decode cL_law 1684 = .ok (.iconst 0, 1) := by decide +kernel
theorem dL_law_1685 : decode cL_law 1685 = .ok (.daload, 1) := by decide +kernel
theorem dL_law_1686 : decode cL_law 1686 = .ok (.dload 7, 2) := by decide +kernel
theorem dL_law_1688 : decode cL_law 1688 = .ok (.dcmp .l, 1) := by decide +kernel
theorem dL_law_1689 : decode cL_law 1689 = .ok (.ifCond .eq 25, 3) := by decide +kernel
theorem dL_law_1692 : decode cL_law 1692 = .ok (.aload 4, 2) := by decide +kernel
theorem dL_law_1694 : decode cL_law 1694 = .ok (.iconst 0, 1) := by decide +kernel
theorem dL_law_1695 : decode cL_law 1695 = .ok (.daload, 1) := by decide +kernel
theorem dL_law_1696 : decode cL_law 1696 = .ok (.aload 4, 2) := by decide +kernel
theorem dL_law_1698 : decode cL_law 1698 = .ok (.iconst 0, 1) := by decide +kernel
theorem dL_law_1699 : decode cL_law 1699 = .ok (.daload, 1) := by decide +kernel
theorem dL_law_1700 : decode cL_law 1700 = .ok (.dcmp .l, 1) := by decide +kernel
theorem dL_law_1701 : decode cL_law 1701 = .ok (.ifCond .eq 11, 3) := by decide +kernel
theorem dL_law_1704 : decode cL_law 1704 = .ok (.dload 7, 2) := by decide +kernel
theorem dL_law_1706 : decode cL_law 1706 = .ok (.dload 7, 2) := by decide +kernel
theorem dL_law_1708 : decode cL_law 1708 = .ok (.dcmp .l, 1) := by decide +kernel
theorem dL_law_1709 : decode cL_law 1709 = .ok (.ifCond .ne 5, 3) := by decide +kernel
theorem dL_law_1712 : decode cL_law 1712 = .ok (.iconst 0, 1) := by decide +kernel
theorem dL_law_1713 : decode cL_law 1713 = .ok (.ireturn, 1) := by decide +kernel
theorem dL_law_1714 : decode cL_law 1714 = .ok (.goto 16, 3) := by decide +kernel
theorem dL_law_1717 : decode cL_law 1717 = .ok (.aload_n 1, 1) := by decide +kernel
theorem dL_law_1718 : decode cL_law 1718 = .ok (.invokevirtual 219, 3) := by decide +kernel
theorem dL_law_1721 : decode cL_law 1721 = .ok (.aload_n 2, 1) := by decide +kernel
theorem dL_law_1722 : decode cL_law 1722 = .ok (.invokevirtual 223, 3) := by decide +kernel
theorem dL_law_1725 : decode cL_law 1725 = .ok (.if_icmp .eq 5, 3) := by decide +kernel
theorem dL_law_1728 : decode cL_law 1728 = .ok (.iconst 0, 1) := by decide +kernel
theorem dL_law_1729 : decode cL_law 1729 = .ok (.ireturn, 1) := by decide +kernel
theorem dL_law_1730 : decode cL_law 1730 = .ok (.iinc 5 6, 3) := by decide +kernel
theorem dL_law_1733 : decode cL_law 1733 = .ok (.goto (-1705), 3) := by decide +kernel
theorem dL_law_1736 : decode cL_law 1736 = .ok (.iconst 1, 1) := by decide +kernel
theorem dL_law_1737 : decode cL_law 1737 = .ok (.ireturn, 1) := by decide +kernel
end
section
/-- the words that every method of this claim is given: the good ones of the tables -/
def ALL : List Cond := lw_tbl.filter goodWord
theorem all_tbl : ∀ w ∈ ALL, w ∈ lw_tbl := fun w h => (List.mem_filter.mp h).1
theorem all_good : ∀ w ∈ ALL, goodWord w = true := fun w h => (List.mem_filter.mp h).2
theorem all_in {w : Cond} (h : w ∈ tables_1) (hg : goodWord w = true) : w ∈ ALL := List.mem_filter.mpr ⟨List.mem_append_right _ h, hg⟩
theorem all_in1 {w : Cond} (i : Nat) (h : tables_1_1[i]? = some w) (hg : goodWord w = true) : w ∈ ALL := all_in (List.mem_append_left _ (List.mem_of_getElem? h)) hg
theorem all_in2 {w : Cond} (i : Nat) (h : tables_1_2[i]? = some w) (hg : goodWord w = true) : w ∈ ALL := all_in (List.mem_append_right _ (List.mem_append_left _ (List.mem_of_getElem? h))) hg
theorem all_in3 {w : Cond} (i : Nat) (h : tables_1_3[i]? = some w) (hg : goodWord w = true) : w ∈ ALL := all_in (List.mem_append_right _ (List.mem_append_right _ (List.mem_append_left _ (List.mem_of_getElem? h)))) hg
theorem all_in4 {w : Cond} (i : Nat) (h : tables_1_4[i]? = some w) (hg : goodWord w = true) : w ∈ ALL := all_in (List.mem_append_right _ (List.mem_append_right _ (List.mem_append_right _ (List.mem_append_left _ (List.mem_of_getElem? h))))) hg
theorem all_in5 {w : Cond} (i : Nat) (h : tables_1_5[i]? = some w) (hg : goodWord w = true) : w ∈ ALL := all_in (List.mem_append_right _ (List.mem_append_right _ (List.mem_append_right _ (List.mem_append_right _ (List.mem_of_getElem? h))))) hg
theorem tbl_in1 {w : Cond} (i : Nat) (h : tables_1_1[i]? = some w) : w ∈ lw_tbl := List.mem_append_right _ (List.mem_append_left _ (List.mem_of_getElem? h))
theorem tbl_in2 {w : Cond} (i : Nat) (h : tables_1_2[i]? = some w) : w ∈ lw_tbl := List.mem_append_right _ (List.mem_append_right _ (List.mem_append_left _ (List.mem_of_getElem? h)))
theorem tbl_in3 {w : Cond} (i : Nat) (h : tables_1_3[i]? = some w) : w ∈ lw_tbl := List.mem_append_right _ (List.mem_append_right _ (List.mem_append_right _ (List.mem_append_left _ (List.mem_of_getElem? h))))
theorem tbl_in4 {w : Cond} (i : Nat) (h : tables_1_4[i]? = some w) : w ∈ lw_tbl := List.mem_append_right _ (List.mem_append_right _ (List.mem_append_right _ (List.mem_append_right _ (List.mem_append_left _ (List.mem_of_getElem? h)))))
theorem tbl_in5 {w : Cond} (i : Nat) (h : tables_1_5[i]? = some w) : w ∈ lw_tbl := List.mem_append_right _ (List.mem_append_right _ (List.mem_append_right _ (List.mem_append_right _ (List.mem_append_right _ (List.mem_of_getElem? h)))))
theorem all_sel {w : Cond} (i : Nat) (h : (lw_privs[i]?).map (fun q => Cond.selects q.1.cls q.1 q.1) = some w) (hg : goodWord w = true) : w ∈ ALL := by
  refine List.mem_filter.mpr ⟨List.mem_append_left _ ?_, hg⟩
  unfold k2_sels
  rw [← List.getElem?_map] at h
  exact List.mem_of_getElem? h
/-- how the method's class reaches the field k of the objects of the kind ci -/
def FL (own : String) (idx ci k : Nat) : Prop := ∃ (C : String) (T : u_T) (N : Nat) (ty0 : Nat → FieldType), vwCl[ci]? = some (C, T, N) ∧ (∀ w ∈ u_ws C T N, w ∈ ALL) ∧ k < N ∧ Cond.fieldLink own idx C (T k).2.1 (T k).2.2.1 ∈ ALL ∧ (T k).1 = C ∧
  (∀ k, k < N → parseFieldDescriptor (T k).2.2.1 = some (ty0 k)) ∧ (∀ a, a < N → ∀ b, b < N → a ≠ b → (T a).2.1 ≠ (T b).2.1)
def FLp (own : String) (idx ci k : Nat) (ty : FieldType) : Prop := ∃ (C : String) (T : u_T) (N : Nat) (ty0 : Nat → FieldType), vwCl[ci]? = some (C, T, N) ∧ (∀ w ∈ u_ws C T N, w ∈ ALL) ∧ k < N ∧ Cond.fieldLink own idx C (T k).2.1 (T k).2.2.1 ∈ ALL ∧ (T k).1 = C ∧
  (∀ k, k < N → parseFieldDescriptor (T k).2.2.1 = some (ty0 k)) ∧ (∀ a, a < N → ∀ b, b < N → a ≠ b → (T a).2.1 ≠ (T b).2.1) ∧ (T k).2.2.2 = false ∧ parseFieldDescriptor (T k).2.2.1 = some ty
def KB (own : String) (idx : Nat) (y : MethodName) (bytes : ByteArray) (maxL : Nat) (ret : Option FieldType) (n : Nat) : Prop := Cond.code y bytes maxL ret ∈ ALL ∧ Cond.initialized y.cls ∈ ALL ∧ (y.cls ≠ "java/lang/invoke/MethodHandle" ∧ y.cls ≠ "java/lang/invoke/VarHandle") ∧ (parseMethodDescriptor y.desc).map (fun d => d.parameters.length) = some n ∧ Cond.methodLink own idx y ∈ ALL ∧ maxL ≤ 20
def KV (own : String) (idx : Nat) (y : MethodName) (bytes : ByteArray) (maxL : Nat) (ret : Option FieldType) (n : Nat) : Prop := KB own idx y bytes maxL ret n ∧ Cond.instanceMethod y ∈ ALL ∧ Cond.selects y.cls y y ∈ ALL
def KS (own : String) (idx : Nat) (y : MethodName) (bytes : ByteArray) (maxL : Nat) (ret : Option FieldType) (n : Nat) : Prop := KB own idx y bytes maxL ret n ∧ Cond.static y ∈ ALL
end
section
theorem inX0 : ∀ w ∈ wsX00, w ∈ ALL := by
  intro w hw
  obtain ⟨k, hk, rfl⟩ := List.mem_map.mp hw
  have hk := List.mem_range.mp hk
  match k, hk with
  | 0, _ => exact all_in1 112 (by decide +kernel) rfl
  | 1, _ => exact all_in1 114 (by decide +kernel) rfl
  | 2, _ => exact all_in1 116 (by decide +kernel) rfl
  | 3, _ => exact all_in1 118 (by decide +kernel) rfl
  | 4, _ => exact all_in1 120 (by decide +kernel) rfl
  | 5, _ => exact all_in1 122 (by decide +kernel) rfl
  | 6, _ => exact all_in1 124 (by decide +kernel) rfl
  | 7, _ => exact all_in1 126 (by decide +kernel) rfl
  | 8, _ => exact all_in1 128 (by decide +kernel) rfl
  | k + 9, h => exact absurd h (by omega)
theorem inX1 : ∀ w ∈ wsX10, w ∈ ALL := by
  intro w hw
  obtain ⟨k, hk, rfl⟩ := List.mem_map.mp hw
  have hk := List.mem_range.mp hk
  match k, hk with
  | 0, _ => exact all_in1 84 (by decide +kernel) rfl
  | 1, _ => exact all_in1 86 (by decide +kernel) rfl
  | k + 2, h => exact absurd h (by omega)
theorem inX2 : ∀ w ∈ wsX20, w ∈ ALL := by
  intro w hw
  obtain ⟨k, hk, rfl⟩ := List.mem_map.mp hw
  have hk := List.mem_range.mp hk
  match k, hk with
  | 0, _ => exact all_in1 56 (by decide +kernel) rfl
  | 1, _ => exact all_in1 58 (by decide +kernel) rfl
  | 2, _ => exact all_in1 60 (by decide +kernel) rfl
  | 3, _ => exact all_in1 62 (by decide +kernel) rfl
  | 4, _ => exact all_in1 64 (by decide +kernel) rfl
  | 5, _ => exact all_in1 66 (by decide +kernel) rfl
  | 6, _ => exact all_in1 68 (by decide +kernel) rfl
  | 7, _ => exact all_in1 70 (by decide +kernel) rfl
  | k + 8, h => exact absurd h (by omega)
theorem inX3 : ∀ w ∈ wsX30, w ∈ ALL := by
  intro w hw
  obtain ⟨k, hk, rfl⟩ := List.mem_map.mp hw
  have hk := List.mem_range.mp hk
  match k, hk with
  | 0, _ => exact all_in1 152 (by decide +kernel) rfl
  | 1, _ => exact all_in1 154 (by decide +kernel) rfl
  | 2, _ => exact all_in1 156 (by decide +kernel) rfl
  | 3, _ => exact all_in1 158 (by decide +kernel) rfl
  | 4, _ => exact all_in1 160 (by decide +kernel) rfl
  | 5, _ => exact all_in1 162 (by decide +kernel) rfl
  | 6, _ => exact all_in1 164 (by decide +kernel) rfl
  | 7, _ => exact all_in1 166 (by decide +kernel) rfl
  | k + 8, h => exact absurd h (by omega)
theorem inX4 : ∀ w ∈ wsX40, w ∈ ALL := by
  intro w hw
  obtain ⟨k, hk, rfl⟩ := List.mem_map.mp hw
  have hk := List.mem_range.mp hk
  match k, hk with
  | 0, _ => exact all_in1 182 (by decide +kernel) rfl
  | 1, _ => exact all_in1 184 (by decide +kernel) rfl
  | 2, _ => exact all_in1 186 (by decide +kernel) rfl
  | 3, _ => exact all_in1 188 (by decide +kernel) rfl
  | 4, _ => exact all_in1 190 (by decide +kernel) rfl
  | 5, _ => exact all_in1 192 (by decide +kernel) rfl
  | 6, _ => exact all_in1 194 (by decide +kernel) rfl
  | 7, _ => exact all_in1 196 (by decide +kernel) rfl
  | 8, _ => exact all_in1 198 (by decide +kernel) rfl
  | 9, _ => exact all_in1 200 (by decide +kernel) rfl
  | 10, _ => exact all_in1 202 (by decide +kernel) rfl
  | 11, _ => exact all_in1 204 (by decide +kernel) rfl
  | 12, _ => exact all_in1 206 (by decide +kernel) rfl
  | k + 13, h => exact absurd h (by omega)
theorem inX5 : ∀ w ∈ wsX50, w ∈ ALL := by
  intro w hw
  obtain ⟨k, hk, rfl⟩ := List.mem_map.mp hw
  have hk := List.mem_range.mp hk
  match k, hk with
  | 0, _ => exact all_in4 83 (by decide +kernel) rfl
  | 1, _ => exact all_in4 85 (by decide +kernel) rfl
  | 2, _ => exact all_in4 87 (by decide +kernel) rfl
  | 3, _ => exact all_in4 89 (by decide +kernel) rfl
  | 4, _ => exact all_in4 91 (by decide +kernel) rfl
  | 5, _ => exact all_in4 93 (by decide +kernel) rfl
  | 6, _ => exact all_in4 95 (by decide +kernel) rfl
  | 7, _ => exact all_in4 97 (by decide +kernel) rfl
  | 8, _ => exact all_in4 99 (by decide +kernel) rfl
  | 9, _ => exact all_in4 101 (by decide +kernel) rfl
  | 10, _ => exact all_in4 103 (by decide +kernel) rfl
  | 11, _ => exact all_in4 105 (by decide +kernel) rfl
  | 12, _ => exact all_in4 107 (by decide +kernel) rfl
  | 13, _ => exact all_in4 109 (by decide +kernel) rfl
  | 14, _ => exact all_in4 111 (by decide +kernel) rfl
  | 15, _ => exact all_in4 113 (by decide +kernel) rfl
  | 16, _ => exact all_in4 115 (by decide +kernel) rfl
  | 17, _ => exact all_in4 117 (by decide +kernel) rfl
  | 18, _ => exact all_in4 119 (by decide +kernel) rfl
  | 19, _ => exact all_in4 121 (by decide +kernel) rfl
  | 20, _ => exact all_in4 123 (by decide +kernel) rfl
  | 21, _ => exact all_in4 125 (by decide +kernel) rfl
  | 22, _ => exact all_in4 127 (by decide +kernel) rfl
  | 23, _ => exact all_in4 129 (by decide +kernel) rfl
  | 24, _ => exact all_in4 131 (by decide +kernel) rfl
  | 25, _ => exact all_in4 133 (by decide +kernel) rfl
  | 26, _ => exact all_in4 135 (by decide +kernel) rfl
  | 27, _ => exact all_in4 137 (by decide +kernel) rfl
  | 28, _ => exact all_in4 139 (by decide +kernel) rfl
  | 29, _ => exact all_in4 141 (by decide +kernel) rfl
  | 30, _ => exact all_in4 143 (by decide +kernel) rfl
  | 31, _ => exact all_in4 145 (by decide +kernel) rfl
  | 32, _ => exact all_in4 147 (by decide +kernel) rfl
  | 33, _ => exact all_in4 149 (by decide +kernel) rfl
  | 34, _ => exact all_in4 151 (by decide +kernel) rfl
  | k + 35, h => exact absurd h (by omega)
theorem flX2_9 : FL RX2 9 4 0 := ⟨RX2, TX2, 8, tyX2, rfl, inX2, by decide, all_in1 40 (by decide +kernel) rfl, rfl, tyX2_ok, nmX2⟩
theorem flX4_240 : FL RX4 240 4 0 := ⟨RX2, TX2, 8, tyX2, rfl, inX2, by decide, all_in1 41 (by decide +kernel) rfl, rfl, tyX2_ok, nmX2⟩
theorem flX2_15 : FL RX2 15 4 1 := ⟨RX2, TX2, 8, tyX2, rfl, inX2, by decide, all_in1 42 (by decide +kernel) rfl, rfl, tyX2_ok, nmX2⟩
theorem flX4_256 : FL RX4 256 4 1 := ⟨RX2, TX2, 8, tyX2, rfl, inX2, by decide, all_in1 43 (by decide +kernel) rfl, rfl, tyX2_ok, nmX2⟩
theorem flX2_18 : FL RX2 18 4 2 := ⟨RX2, TX2, 8, tyX2, rfl, inX2, by decide, all_in1 44 (by decide +kernel) rfl, rfl, tyX2_ok, nmX2⟩
theorem flX4_334 : FL RX4 334 4 2 := ⟨RX2, TX2, 8, tyX2, rfl, inX2, by decide, all_in1 45 (by decide +kernel) rfl, rfl, tyX2_ok, nmX2⟩
theorem flX2_21 : FL RX2 21 4 3 := ⟨RX2, TX2, 8, tyX2, rfl, inX2, by decide, all_in1 46 (by decide +kernel) rfl, rfl, tyX2_ok, nmX2⟩
theorem flX4_337 : FL RX4 337 4 3 := ⟨RX2, TX2, 8, tyX2, rfl, inX2, by decide, all_in1 47 (by decide +kernel) rfl, rfl, tyX2_ok, nmX2⟩
theorem flX2_24 : FL RX2 24 4 4 := ⟨RX2, TX2, 8, tyX2, rfl, inX2, by decide, all_in1 48 (by decide +kernel) rfl, rfl, tyX2_ok, nmX2⟩
theorem flX4_221 : FL RX4 221 4 4 := ⟨RX2, TX2, 8, tyX2, rfl, inX2, by decide, all_in1 49 (by decide +kernel) rfl, rfl, tyX2_ok, nmX2⟩
theorem flX2_27 : FL RX2 27 4 5 := ⟨RX2, TX2, 8, tyX2, rfl, inX2, by decide, all_in1 50 (by decide +kernel) rfl, rfl, tyX2_ok, nmX2⟩
theorem fpX2_27 : FLp RX2 27 4 5 .int := ⟨RX2, TX2, 8, tyX2, rfl, inX2, by decide, all_in1 50 (by decide +kernel) rfl, rfl, tyX2_ok, nmX2, rfl, by decide +kernel⟩
theorem flX4_200 : FL RX4 200 4 5 := ⟨RX2, TX2, 8, tyX2, rfl, inX2, by decide, all_in1 51 (by decide +kernel) rfl, rfl, tyX2_ok, nmX2⟩
theorem fpX4_200 : FLp RX4 200 4 5 .int := ⟨RX2, TX2, 8, tyX2, rfl, inX2, by decide, all_in1 51 (by decide +kernel) rfl, rfl, tyX2_ok, nmX2, rfl, by decide +kernel⟩
theorem flX2_31 : FL RX2 31 4 6 := ⟨RX2, TX2, 8, tyX2, rfl, inX2, by decide, all_in1 52 (by decide +kernel) rfl, rfl, tyX2_ok, nmX2⟩
theorem fpX2_31 : FLp RX2 31 4 6 .int := ⟨RX2, TX2, 8, tyX2, rfl, inX2, by decide, all_in1 52 (by decide +kernel) rfl, rfl, tyX2_ok, nmX2, rfl, by decide +kernel⟩
theorem flX4_307 : FL RX4 307 4 6 := ⟨RX2, TX2, 8, tyX2, rfl, inX2, by decide, all_in1 53 (by decide +kernel) rfl, rfl, tyX2_ok, nmX2⟩
theorem fpX4_307 : FLp RX4 307 4 6 .int := ⟨RX2, TX2, 8, tyX2, rfl, inX2, by decide, all_in1 53 (by decide +kernel) rfl, rfl, tyX2_ok, nmX2, rfl, by decide +kernel⟩
theorem flX2_34 : FL RX2 34 4 7 := ⟨RX2, TX2, 8, tyX2, rfl, inX2, by decide, all_in1 54 (by decide +kernel) rfl, rfl, tyX2_ok, nmX2⟩
theorem fpX2_34 : FLp RX2 34 4 7 .int := ⟨RX2, TX2, 8, tyX2, rfl, inX2, by decide, all_in1 54 (by decide +kernel) rfl, rfl, tyX2_ok, nmX2, rfl, by decide +kernel⟩
theorem flX4_273 : FL RX4 273 4 7 := ⟨RX2, TX2, 8, tyX2, rfl, inX2, by decide, all_in1 55 (by decide +kernel) rfl, rfl, tyX2_ok, nmX2⟩
theorem fpX4_273 : FLp RX4 273 4 7 .int := ⟨RX2, TX2, 8, tyX2, rfl, inX2, by decide, all_in1 55 (by decide +kernel) rfl, rfl, tyX2_ok, nmX2, rfl, by decide +kernel⟩
theorem flX1_7 : FL RX1 7 3 0 := ⟨RX1, TX1, 2, tyX1, rfl, inX1, by decide, all_in1 79 (by decide +kernel) rfl, rfl, tyX1_ok, nmX1⟩
theorem fpX1_7 : FLp RX1 7 3 0 .int := ⟨RX1, TX1, 2, tyX1, rfl, inX1, by decide, all_in1 79 (by decide +kernel) rfl, rfl, tyX1_ok, nmX1, rfl, by decide +kernel⟩
theorem flX4_85 : FL RX4 85 3 0 := ⟨RX1, TX1, 2, tyX1, rfl, inX1, by decide, all_in1 80 (by decide +kernel) rfl, rfl, tyX1_ok, nmX1⟩
theorem fpX4_85 : FLp RX4 85 3 0 .int := ⟨RX1, TX1, 2, tyX1, rfl, inX1, by decide, all_in1 80 (by decide +kernel) rfl, rfl, tyX1_ok, nmX1, rfl, by decide +kernel⟩
theorem flX1_13 : FL RX1 13 3 1 := ⟨RX1, TX1, 2, tyX1, rfl, inX1, by decide, all_in1 81 (by decide +kernel) rfl, rfl, tyX1_ok, nmX1⟩
theorem fpX1_13 : FLp RX1 13 3 1 .int := ⟨RX1, TX1, 2, tyX1, rfl, inX1, by decide, all_in1 81 (by decide +kernel) rfl, rfl, tyX1_ok, nmX1, rfl, by decide +kernel⟩
theorem flX3_34 : FL RX3 34 3 1 := ⟨RX1, TX1, 2, tyX1, rfl, inX1, by decide, all_in1 82 (by decide +kernel) rfl, rfl, tyX1_ok, nmX1⟩
theorem fpX3_34 : FLp RX3 34 3 1 .int := ⟨RX1, TX1, 2, tyX1, rfl, inX1, by decide, all_in1 82 (by decide +kernel) rfl, rfl, tyX1_ok, nmX1, rfl, by decide +kernel⟩
theorem flX4_88 : FL RX4 88 3 1 := ⟨RX1, TX1, 2, tyX1, rfl, inX1, by decide, all_in1 83 (by decide +kernel) rfl, rfl, tyX1_ok, nmX1⟩
theorem fpX4_88 : FLp RX4 88 3 1 .int := ⟨RX1, TX1, 2, tyX1, rfl, inX1, by decide, all_in1 83 (by decide +kernel) rfl, rfl, tyX1_ok, nmX1, rfl, by decide +kernel⟩
theorem flX0_9 : FL RX0 9 2 0 := ⟨RX0, TX0, 9, tyX0, rfl, inX0, by decide, all_in1 94 (by decide +kernel) rfl, rfl, tyX0_ok, nmX0⟩
theorem fpX0_9 : FLp RX0 9 2 0 .int := ⟨RX0, TX0, 9, tyX0, rfl, inX0, by decide, all_in1 94 (by decide +kernel) rfl, rfl, tyX0_ok, nmX0, rfl, by decide +kernel⟩
theorem flX4_95 : FL RX4 95 2 0 := ⟨RX0, TX0, 9, tyX0, rfl, inX0, by decide, all_in1 95 (by decide +kernel) rfl, rfl, tyX0_ok, nmX0⟩
theorem fpX4_95 : FLp RX4 95 2 0 .int := ⟨RX0, TX0, 9, tyX0, rfl, inX0, by decide, all_in1 95 (by decide +kernel) rfl, rfl, tyX0_ok, nmX0, rfl, by decide +kernel⟩
theorem flX0_15 : FL RX0 15 2 1 := ⟨RX0, TX0, 9, tyX0, rfl, inX0, by decide, all_in1 96 (by decide +kernel) rfl, rfl, tyX0_ok, nmX0⟩
theorem fpX0_15 : FLp RX0 15 2 1 .int := ⟨RX0, TX0, 9, tyX0, rfl, inX0, by decide, all_in1 96 (by decide +kernel) rfl, rfl, tyX0_ok, nmX0, rfl, by decide +kernel⟩
theorem flX4_98 : FL RX4 98 2 1 := ⟨RX0, TX0, 9, tyX0, rfl, inX0, by decide, all_in1 97 (by decide +kernel) rfl, rfl, tyX0_ok, nmX0⟩
theorem fpX4_98 : FLp RX4 98 2 1 .int := ⟨RX0, TX0, 9, tyX0, rfl, inX0, by decide, all_in1 97 (by decide +kernel) rfl, rfl, tyX0_ok, nmX0, rfl, by decide +kernel⟩
theorem flX0_18 : FL RX0 18 2 2 := ⟨RX0, TX0, 9, tyX0, rfl, inX0, by decide, all_in1 98 (by decide +kernel) rfl, rfl, tyX0_ok, nmX0⟩
theorem fpX0_18 : FLp RX0 18 2 2 .int := ⟨RX0, TX0, 9, tyX0, rfl, inX0, by decide, all_in1 98 (by decide +kernel) rfl, rfl, tyX0_ok, nmX0, rfl, by decide +kernel⟩
theorem flX4_101 : FL RX4 101 2 2 := ⟨RX0, TX0, 9, tyX0, rfl, inX0, by decide, all_in1 99 (by decide +kernel) rfl, rfl, tyX0_ok, nmX0⟩
theorem fpX4_101 : FLp RX4 101 2 2 .int := ⟨RX0, TX0, 9, tyX0, rfl, inX0, by decide, all_in1 99 (by decide +kernel) rfl, rfl, tyX0_ok, nmX0, rfl, by decide +kernel⟩
theorem flX0_21 : FL RX0 21 2 3 := ⟨RX0, TX0, 9, tyX0, rfl, inX0, by decide, all_in1 100 (by decide +kernel) rfl, rfl, tyX0_ok, nmX0⟩
theorem fpX0_21 : FLp RX0 21 2 3 .int := ⟨RX0, TX0, 9, tyX0, rfl, inX0, by decide, all_in1 100 (by decide +kernel) rfl, rfl, tyX0_ok, nmX0, rfl, by decide +kernel⟩
theorem flX4_104 : FL RX4 104 2 3 := ⟨RX0, TX0, 9, tyX0, rfl, inX0, by decide, all_in1 101 (by decide +kernel) rfl, rfl, tyX0_ok, nmX0⟩
theorem fpX4_104 : FLp RX4 104 2 3 .int := ⟨RX0, TX0, 9, tyX0, rfl, inX0, by decide, all_in1 101 (by decide +kernel) rfl, rfl, tyX0_ok, nmX0, rfl, by decide +kernel⟩
theorem flX0_24 : FL RX0 24 2 4 := ⟨RX0, TX0, 9, tyX0, rfl, inX0, by decide, all_in1 102 (by decide +kernel) rfl, rfl, tyX0_ok, nmX0⟩
theorem fpX0_24 : FLp RX0 24 2 4 .int := ⟨RX0, TX0, 9, tyX0, rfl, inX0, by decide, all_in1 102 (by decide +kernel) rfl, rfl, tyX0_ok, nmX0, rfl, by decide +kernel⟩
theorem flX4_118 : FL RX4 118 2 4 := ⟨RX0, TX0, 9, tyX0, rfl, inX0, by decide, all_in1 103 (by decide +kernel) rfl, rfl, tyX0_ok, nmX0⟩
theorem fpX4_118 : FLp RX4 118 2 4 .int := ⟨RX0, TX0, 9, tyX0, rfl, inX0, by decide, all_in1 103 (by decide +kernel) rfl, rfl, tyX0_ok, nmX0, rfl, by decide +kernel⟩
theorem flX0_27 : FL RX0 27 2 5 := ⟨RX0, TX0, 9, tyX0, rfl, inX0, by decide, all_in1 104 (by decide +kernel) rfl, rfl, tyX0_ok, nmX0⟩
theorem fpX0_27 : FLp RX0 27 2 5 .int := ⟨RX0, TX0, 9, tyX0, rfl, inX0, by decide, all_in1 104 (by decide +kernel) rfl, rfl, tyX0_ok, nmX0, rfl, by decide +kernel⟩
theorem flX4_121 : FL RX4 121 2 5 := ⟨RX0, TX0, 9, tyX0, rfl, inX0, by decide, all_in1 105 (by decide +kernel) rfl, rfl, tyX0_ok, nmX0⟩
theorem fpX4_121 : FLp RX4 121 2 5 .int := ⟨RX0, TX0, 9, tyX0, rfl, inX0, by decide, all_in1 105 (by decide +kernel) rfl, rfl, tyX0_ok, nmX0, rfl, by decide +kernel⟩
theorem flX0_30 : FL RX0 30 2 6 := ⟨RX0, TX0, 9, tyX0, rfl, inX0, by decide, all_in1 106 (by decide +kernel) rfl, rfl, tyX0_ok, nmX0⟩
theorem fpX0_30 : FLp RX0 30 2 6 .int := ⟨RX0, TX0, 9, tyX0, rfl, inX0, by decide, all_in1 106 (by decide +kernel) rfl, rfl, tyX0_ok, nmX0, rfl, by decide +kernel⟩
theorem flX4_128 : FL RX4 128 2 6 := ⟨RX0, TX0, 9, tyX0, rfl, inX0, by decide, all_in1 107 (by decide +kernel) rfl, rfl, tyX0_ok, nmX0⟩
theorem fpX4_128 : FLp RX4 128 2 6 .int := ⟨RX0, TX0, 9, tyX0, rfl, inX0, by decide, all_in1 107 (by decide +kernel) rfl, rfl, tyX0_ok, nmX0, rfl, by decide +kernel⟩
theorem flX0_33 : FL RX0 33 2 7 := ⟨RX0, TX0, 9, tyX0, rfl, inX0, by decide, all_in1 108 (by decide +kernel) rfl, rfl, tyX0_ok, nmX0⟩
theorem fpX0_33 : FLp RX0 33 2 7 .int := ⟨RX0, TX0, 9, tyX0, rfl, inX0, by decide, all_in1 108 (by decide +kernel) rfl, rfl, tyX0_ok, nmX0, rfl, by decide +kernel⟩
theorem flX4_131 : FL RX4 131 2 7 := ⟨RX0, TX0, 9, tyX0, rfl, inX0, by decide, all_in1 109 (by decide +kernel) rfl, rfl, tyX0_ok, nmX0⟩
theorem fpX4_131 : FLp RX4 131 2 7 .int := ⟨RX0, TX0, 9, tyX0, rfl, inX0, by decide, all_in1 109 (by decide +kernel) rfl, rfl, tyX0_ok, nmX0, rfl, by decide +kernel⟩
theorem flX0_36 : FL RX0 36 2 8 := ⟨RX0, TX0, 9, tyX0, rfl, inX0, by decide, all_in1 110 (by decide +kernel) rfl, rfl, tyX0_ok, nmX0⟩
theorem fpX0_36 : FLp RX0 36 2 8 .int := ⟨RX0, TX0, 9, tyX0, rfl, inX0, by decide, all_in1 110 (by decide +kernel) rfl, rfl, tyX0_ok, nmX0, rfl, by decide +kernel⟩
theorem flX4_149 : FL RX4 149 2 8 := ⟨RX0, TX0, 9, tyX0, rfl, inX0, by decide, all_in1 111 (by decide +kernel) rfl, rfl, tyX0_ok, nmX0⟩
theorem fpX4_149 : FLp RX4 149 2 8 .int := ⟨RX0, TX0, 9, tyX0, rfl, inX0, by decide, all_in1 111 (by decide +kernel) rfl, rfl, tyX0_ok, nmX0, rfl, by decide +kernel⟩
theorem flX3_31 : FL RX3 31 5 0 := ⟨RX3, TX3, 8, tyX3, rfl, inX3, by decide, all_in1 136 (by decide +kernel) rfl, rfl, tyX3_ok, nmX3⟩
theorem flX4_211 : FL RX4 211 5 0 := ⟨RX3, TX3, 8, tyX3, rfl, inX3, by decide, all_in1 137 (by decide +kernel) rfl, rfl, tyX3_ok, nmX3⟩
theorem flX3_7 : FL RX3 7 5 1 := ⟨RX3, TX3, 8, tyX3, rfl, inX3, by decide, all_in1 138 (by decide +kernel) rfl, rfl, tyX3_ok, nmX3⟩
theorem fpX3_7 : FLp RX3 7 5 1 .int := ⟨RX3, TX3, 8, tyX3, rfl, inX3, by decide, all_in1 138 (by decide +kernel) rfl, rfl, tyX3_ok, nmX3, rfl, by decide +kernel⟩
theorem flX4_174 : FL RX4 174 5 1 := ⟨RX3, TX3, 8, tyX3, rfl, inX3, by decide, all_in1 139 (by decide +kernel) rfl, rfl, tyX3_ok, nmX3⟩
theorem fpX4_174 : FLp RX4 174 5 1 .int := ⟨RX3, TX3, 8, tyX3, rfl, inX3, by decide, all_in1 139 (by decide +kernel) rfl, rfl, tyX3_ok, nmX3, rfl, by decide +kernel⟩
theorem flX3_13 : FL RX3 13 5 2 := ⟨RX3, TX3, 8, tyX3, rfl, inX3, by decide, all_in1 140 (by decide +kernel) rfl, rfl, tyX3_ok, nmX3⟩
theorem fpX3_13 : FLp RX3 13 5 2 .int := ⟨RX3, TX3, 8, tyX3, rfl, inX3, by decide, all_in1 140 (by decide +kernel) rfl, rfl, tyX3_ok, nmX3, rfl, by decide +kernel⟩
theorem flX4_177 : FL RX4 177 5 2 := ⟨RX3, TX3, 8, tyX3, rfl, inX3, by decide, all_in1 141 (by decide +kernel) rfl, rfl, tyX3_ok, nmX3⟩
theorem fpX4_177 : FLp RX4 177 5 2 .int := ⟨RX3, TX3, 8, tyX3, rfl, inX3, by decide, all_in1 141 (by decide +kernel) rfl, rfl, tyX3_ok, nmX3, rfl, by decide +kernel⟩
theorem flX3_16 : FL RX3 16 5 3 := ⟨RX3, TX3, 8, tyX3, rfl, inX3, by decide, all_in1 142 (by decide +kernel) rfl, rfl, tyX3_ok, nmX3⟩
theorem fpX3_16 : FLp RX3 16 5 3 .int := ⟨RX3, TX3, 8, tyX3, rfl, inX3, by decide, all_in1 142 (by decide +kernel) rfl, rfl, tyX3_ok, nmX3, rfl, by decide +kernel⟩
theorem flX4_180 : FL RX4 180 5 3 := ⟨RX3, TX3, 8, tyX3, rfl, inX3, by decide, all_in1 143 (by decide +kernel) rfl, rfl, tyX3_ok, nmX3⟩
theorem fpX4_180 : FLp RX4 180 5 3 .int := ⟨RX3, TX3, 8, tyX3, rfl, inX3, by decide, all_in1 143 (by decide +kernel) rfl, rfl, tyX3_ok, nmX3, rfl, by decide +kernel⟩
theorem flX3_19 : FL RX3 19 5 4 := ⟨RX3, TX3, 8, tyX3, rfl, inX3, by decide, all_in1 144 (by decide +kernel) rfl, rfl, tyX3_ok, nmX3⟩
theorem fpX3_19 : FLp RX3 19 5 4 .int := ⟨RX3, TX3, 8, tyX3, rfl, inX3, by decide, all_in1 144 (by decide +kernel) rfl, rfl, tyX3_ok, nmX3, rfl, by decide +kernel⟩
theorem flX4_183 : FL RX4 183 5 4 := ⟨RX3, TX3, 8, tyX3, rfl, inX3, by decide, all_in1 145 (by decide +kernel) rfl, rfl, tyX3_ok, nmX3⟩
theorem fpX4_183 : FLp RX4 183 5 4 .int := ⟨RX3, TX3, 8, tyX3, rfl, inX3, by decide, all_in1 145 (by decide +kernel) rfl, rfl, tyX3_ok, nmX3, rfl, by decide +kernel⟩
theorem flX3_22 : FL RX3 22 5 5 := ⟨RX3, TX3, 8, tyX3, rfl, inX3, by decide, all_in1 146 (by decide +kernel) rfl, rfl, tyX3_ok, nmX3⟩
theorem fpX3_22 : FLp RX3 22 5 5 .int := ⟨RX3, TX3, 8, tyX3, rfl, inX3, by decide, all_in1 146 (by decide +kernel) rfl, rfl, tyX3_ok, nmX3, rfl, by decide +kernel⟩
theorem flX4_191 : FL RX4 191 5 5 := ⟨RX3, TX3, 8, tyX3, rfl, inX3, by decide, all_in1 147 (by decide +kernel) rfl, rfl, tyX3_ok, nmX3⟩
theorem fpX4_191 : FLp RX4 191 5 5 .int := ⟨RX3, TX3, 8, tyX3, rfl, inX3, by decide, all_in1 147 (by decide +kernel) rfl, rfl, tyX3_ok, nmX3, rfl, by decide +kernel⟩
theorem flX3_25 : FL RX3 25 5 6 := ⟨RX3, TX3, 8, tyX3, rfl, inX3, by decide, all_in1 148 (by decide +kernel) rfl, rfl, tyX3_ok, nmX3⟩
theorem fpX3_25 : FLp RX3 25 5 6 .int := ⟨RX3, TX3, 8, tyX3, rfl, inX3, by decide, all_in1 148 (by decide +kernel) rfl, rfl, tyX3_ok, nmX3, rfl, by decide +kernel⟩
theorem flX4_194 : FL RX4 194 5 6 := ⟨RX3, TX3, 8, tyX3, rfl, inX3, by decide, all_in1 149 (by decide +kernel) rfl, rfl, tyX3_ok, nmX3⟩
theorem fpX4_194 : FLp RX4 194 5 6 .int := ⟨RX3, TX3, 8, tyX3, rfl, inX3, by decide, all_in1 149 (by decide +kernel) rfl, rfl, tyX3_ok, nmX3, rfl, by decide +kernel⟩
theorem flX3_28 : FL RX3 28 5 7 := ⟨RX3, TX3, 8, tyX3, rfl, inX3, by decide, all_in1 150 (by decide +kernel) rfl, rfl, tyX3_ok, nmX3⟩
theorem fpX3_28 : FLp RX3 28 5 7 .int := ⟨RX3, TX3, 8, tyX3, rfl, inX3, by decide, all_in1 150 (by decide +kernel) rfl, rfl, tyX3_ok, nmX3, rfl, by decide +kernel⟩
theorem flX4_197 : FL RX4 197 5 7 := ⟨RX3, TX3, 8, tyX3, rfl, inX3, by decide, all_in1 151 (by decide +kernel) rfl, rfl, tyX3_ok, nmX3⟩
theorem fpX4_197 : FLp RX4 197 5 7 .int := ⟨RX3, TX3, 8, tyX3, rfl, inX3, by decide, all_in1 151 (by decide +kernel) rfl, rfl, tyX3_ok, nmX3, rfl, by decide +kernel⟩
theorem flX4_11 : FL RX4 11 6 0 := ⟨RX4, TX4, 13, tyX4, rfl, inX4, by decide, all_in1 169 (by decide +kernel) rfl, rfl, tyX4_ok, nmX4⟩
theorem flX4_17 : FL RX4 17 6 1 := ⟨RX4, TX4, 13, tyX4, rfl, inX4, by decide, all_in1 170 (by decide +kernel) rfl, rfl, tyX4_ok, nmX4⟩
theorem flX4_23 : FL RX4 23 6 2 := ⟨RX4, TX4, 13, tyX4, rfl, inX4, by decide, all_in1 171 (by decide +kernel) rfl, rfl, tyX4_ok, nmX4⟩
theorem flX4_27 : FL RX4 27 6 3 := ⟨RX4, TX4, 13, tyX4, rfl, inX4, by decide, all_in1 172 (by decide +kernel) rfl, rfl, tyX4_ok, nmX4⟩
theorem flX4_34 : FL RX4 34 6 4 := ⟨RX4, TX4, 13, tyX4, rfl, inX4, by decide, all_in1 173 (by decide +kernel) rfl, rfl, tyX4_ok, nmX4⟩
theorem flX4_38 : FL RX4 38 6 5 := ⟨RX4, TX4, 13, tyX4, rfl, inX4, by decide, all_in1 174 (by decide +kernel) rfl, rfl, tyX4_ok, nmX4⟩
theorem flX4_41 : FL RX4 41 6 6 := ⟨RX4, TX4, 13, tyX4, rfl, inX4, by decide, all_in1 175 (by decide +kernel) rfl, rfl, tyX4_ok, nmX4⟩
theorem flX4_44 : FL RX4 44 6 7 := ⟨RX4, TX4, 13, tyX4, rfl, inX4, by decide, all_in1 176 (by decide +kernel) rfl, rfl, tyX4_ok, nmX4⟩
theorem fpX4_44 : FLp RX4 44 6 7 .int := ⟨RX4, TX4, 13, tyX4, rfl, inX4, by decide, all_in1 176 (by decide +kernel) rfl, rfl, tyX4_ok, nmX4, rfl, by decide +kernel⟩
theorem flX4_48 : FL RX4 48 6 8 := ⟨RX4, TX4, 13, tyX4, rfl, inX4, by decide, all_in1 177 (by decide +kernel) rfl, rfl, tyX4_ok, nmX4⟩
theorem fpX4_48 : FLp RX4 48 6 8 .int := ⟨RX4, TX4, 13, tyX4, rfl, inX4, by decide, all_in1 177 (by decide +kernel) rfl, rfl, tyX4_ok, nmX4, rfl, by decide +kernel⟩
theorem flX4_51 : FL RX4 51 6 9 := ⟨RX4, TX4, 13, tyX4, rfl, inX4, by decide, all_in1 178 (by decide +kernel) rfl, rfl, tyX4_ok, nmX4⟩
theorem fpX4_51 : FLp RX4 51 6 9 .int := ⟨RX4, TX4, 13, tyX4, rfl, inX4, by decide, all_in1 178 (by decide +kernel) rfl, rfl, tyX4_ok, nmX4, rfl, by decide +kernel⟩
theorem flX4_54 : FL RX4 54 6 10 := ⟨RX4, TX4, 13, tyX4, rfl, inX4, by decide, all_in1 179 (by decide +kernel) rfl, rfl, tyX4_ok, nmX4⟩
theorem fpX4_54 : FLp RX4 54 6 10 (.object "Stagecargo$Town") := ⟨RX4, TX4, 13, tyX4, rfl, inX4, by decide, all_in1 179 (by decide +kernel) rfl, rfl, tyX4_ok, nmX4, rfl, by decide +kernel⟩
theorem flX4_58 : FL RX4 58 6 11 := ⟨RX4, TX4, 13, tyX4, rfl, inX4, by decide, all_in1 180 (by decide +kernel) rfl, rfl, tyX4_ok, nmX4⟩
theorem fpX4_58 : FLp RX4 58 6 11 .int := ⟨RX4, TX4, 13, tyX4, rfl, inX4, by decide, all_in1 180 (by decide +kernel) rfl, rfl, tyX4_ok, nmX4, rfl, by decide +kernel⟩
theorem flX4_61 : FL RX4 61 6 12 := ⟨RX4, TX4, 13, tyX4, rfl, inX4, by decide, all_in1 181 (by decide +kernel) rfl, rfl, tyX4_ok, nmX4⟩
theorem fpX4_61 : FLp RX4 61 6 12 .int := ⟨RX4, TX4, 13, tyX4, rfl, inX4, by decide, all_in1 181 (by decide +kernel) rfl, rfl, tyX4_ok, nmX4, rfl, by decide +kernel⟩
theorem flX5_90 : FL RX5 90 7 0 := ⟨RX5, TX5, 35, tyX5, rfl, inX5, by decide, all_in4 48 (by decide +kernel) rfl, rfl, tyX5_ok, nmX5⟩
theorem fpX5_90 : FLp RX5 90 7 0 .int := ⟨RX5, TX5, 35, tyX5, rfl, inX5, by decide, all_in4 48 (by decide +kernel) rfl, rfl, tyX5_ok, nmX5, rfl, by decide +kernel⟩
theorem flX5_7 : FL RX5 7 7 1 := ⟨RX5, TX5, 35, tyX5, rfl, inX5, by decide, all_in4 49 (by decide +kernel) rfl, rfl, tyX5_ok, nmX5⟩
theorem flX5_13 : FL RX5 13 7 2 := ⟨RX5, TX5, 35, tyX5, rfl, inX5, by decide, all_in4 50 (by decide +kernel) rfl, rfl, tyX5_ok, nmX5⟩
theorem flX5_97 : FL RX5 97 7 3 := ⟨RX5, TX5, 35, tyX5, rfl, inX5, by decide, all_in4 51 (by decide +kernel) rfl, rfl, tyX5_ok, nmX5⟩
theorem fpX5_97 : FLp RX5 97 7 3 .int := ⟨RX5, TX5, 35, tyX5, rfl, inX5, by decide, all_in4 51 (by decide +kernel) rfl, rfl, tyX5_ok, nmX5, rfl, by decide +kernel⟩
theorem flX5_16 : FL RX5 16 7 4 := ⟨RX5, TX5, 35, tyX5, rfl, inX5, by decide, all_in4 52 (by decide +kernel) rfl, rfl, tyX5_ok, nmX5⟩
theorem flX5_19 : FL RX5 19 7 5 := ⟨RX5, TX5, 35, tyX5, rfl, inX5, by decide, all_in4 53 (by decide +kernel) rfl, rfl, tyX5_ok, nmX5⟩
theorem flX5_22 : FL RX5 22 7 6 := ⟨RX5, TX5, 35, tyX5, rfl, inX5, by decide, all_in4 54 (by decide +kernel) rfl, rfl, tyX5_ok, nmX5⟩
theorem flX5_25 : FL RX5 25 7 7 := ⟨RX5, TX5, 35, tyX5, rfl, inX5, by decide, all_in4 55 (by decide +kernel) rfl, rfl, tyX5_ok, nmX5⟩
theorem flX5_28 : FL RX5 28 7 8 := ⟨RX5, TX5, 35, tyX5, rfl, inX5, by decide, all_in4 56 (by decide +kernel) rfl, rfl, tyX5_ok, nmX5⟩
theorem flX5_32 : FL RX5 32 7 9 := ⟨RX5, TX5, 35, tyX5, rfl, inX5, by decide, all_in4 57 (by decide +kernel) rfl, rfl, tyX5_ok, nmX5⟩
theorem flX5_35 : FL RX5 35 7 10 := ⟨RX5, TX5, 35, tyX5, rfl, inX5, by decide, all_in4 58 (by decide +kernel) rfl, rfl, tyX5_ok, nmX5⟩
theorem flX5_38 : FL RX5 38 7 11 := ⟨RX5, TX5, 35, tyX5, rfl, inX5, by decide, all_in4 59 (by decide +kernel) rfl, rfl, tyX5_ok, nmX5⟩
theorem flX5_41 : FL RX5 41 7 12 := ⟨RX5, TX5, 35, tyX5, rfl, inX5, by decide, all_in4 60 (by decide +kernel) rfl, rfl, tyX5_ok, nmX5⟩
theorem flX5_44 : FL RX5 44 7 13 := ⟨RX5, TX5, 35, tyX5, rfl, inX5, by decide, all_in4 61 (by decide +kernel) rfl, rfl, tyX5_ok, nmX5⟩
theorem flX5_47 : FL RX5 47 7 14 := ⟨RX5, TX5, 35, tyX5, rfl, inX5, by decide, all_in4 62 (by decide +kernel) rfl, rfl, tyX5_ok, nmX5⟩
theorem flX5_131 : FL RX5 131 7 15 := ⟨RX5, TX5, 35, tyX5, rfl, inX5, by decide, all_in4 63 (by decide +kernel) rfl, rfl, tyX5_ok, nmX5⟩
theorem fpX5_131 : FLp RX5 131 7 15 .int := ⟨RX5, TX5, 35, tyX5, rfl, inX5, by decide, all_in4 63 (by decide +kernel) rfl, rfl, tyX5_ok, nmX5, rfl, by decide +kernel⟩
theorem flX5_50 : FL RX5 50 7 16 := ⟨RX5, TX5, 35, tyX5, rfl, inX5, by decide, all_in4 64 (by decide +kernel) rfl, rfl, tyX5_ok, nmX5⟩
theorem flX5_53 : FL RX5 53 7 17 := ⟨RX5, TX5, 35, tyX5, rfl, inX5, by decide, all_in4 65 (by decide +kernel) rfl, rfl, tyX5_ok, nmX5⟩
theorem flX5_56 : FL RX5 56 7 18 := ⟨RX5, TX5, 35, tyX5, rfl, inX5, by decide, all_in4 66 (by decide +kernel) rfl, rfl, tyX5_ok, nmX5⟩
theorem flX5_59 : FL RX5 59 7 19 := ⟨RX5, TX5, 35, tyX5, rfl, inX5, by decide, all_in4 67 (by decide +kernel) rfl, rfl, tyX5_ok, nmX5⟩
theorem flX5_62 : FL RX5 62 7 20 := ⟨RX5, TX5, 35, tyX5, rfl, inX5, by decide, all_in4 68 (by decide +kernel) rfl, rfl, tyX5_ok, nmX5⟩
theorem flX5_65 : FL RX5 65 7 21 := ⟨RX5, TX5, 35, tyX5, rfl, inX5, by decide, all_in4 69 (by decide +kernel) rfl, rfl, tyX5_ok, nmX5⟩
theorem flX5_68 : FL RX5 68 7 22 := ⟨RX5, TX5, 35, tyX5, rfl, inX5, by decide, all_in4 70 (by decide +kernel) rfl, rfl, tyX5_ok, nmX5⟩
theorem flX5_71 : FL RX5 71 7 23 := ⟨RX5, TX5, 35, tyX5, rfl, inX5, by decide, all_in4 71 (by decide +kernel) rfl, rfl, tyX5_ok, nmX5⟩
theorem fpX5_71 : FLp RX5 71 7 23 .int := ⟨RX5, TX5, 35, tyX5, rfl, inX5, by decide, all_in4 71 (by decide +kernel) rfl, rfl, tyX5_ok, nmX5, rfl, by decide +kernel⟩
theorem flX5_100 : FL RX5 100 7 24 := ⟨RX5, TX5, 35, tyX5, rfl, inX5, by decide, all_in4 72 (by decide +kernel) rfl, rfl, tyX5_ok, nmX5⟩
theorem fpX5_100 : FLp RX5 100 7 24 .int := ⟨RX5, TX5, 35, tyX5, rfl, inX5, by decide, all_in4 72 (by decide +kernel) rfl, rfl, tyX5_ok, nmX5, rfl, by decide +kernel⟩
theorem flX5_75 : FL RX5 75 7 25 := ⟨RX5, TX5, 35, tyX5, rfl, inX5, by decide, all_in4 73 (by decide +kernel) rfl, rfl, tyX5_ok, nmX5⟩
theorem flX5_78 : FL RX5 78 7 26 := ⟨RX5, TX5, 35, tyX5, rfl, inX5, by decide, all_in4 74 (by decide +kernel) rfl, rfl, tyX5_ok, nmX5⟩
theorem flX5_81 : FL RX5 81 7 27 := ⟨RX5, TX5, 35, tyX5, rfl, inX5, by decide, all_in4 75 (by decide +kernel) rfl, rfl, tyX5_ok, nmX5⟩
theorem flX5_187 : FL RX5 187 7 28 := ⟨RX5, TX5, 35, tyX5, rfl, inX5, by decide, all_in4 76 (by decide +kernel) rfl, rfl, tyX5_ok, nmX5⟩
theorem fpX5_187 : FLp RX5 187 7 28 .int := ⟨RX5, TX5, 35, tyX5, rfl, inX5, by decide, all_in4 76 (by decide +kernel) rfl, rfl, tyX5_ok, nmX5, rfl, by decide +kernel⟩
theorem flX5_193 : FL RX5 193 7 29 := ⟨RX5, TX5, 35, tyX5, rfl, inX5, by decide, all_in4 77 (by decide +kernel) rfl, rfl, tyX5_ok, nmX5⟩
theorem fpX5_193 : FLp RX5 193 7 29 .int := ⟨RX5, TX5, 35, tyX5, rfl, inX5, by decide, all_in4 77 (by decide +kernel) rfl, rfl, tyX5_ok, nmX5, rfl, by decide +kernel⟩
theorem flX5_196 : FL RX5 196 7 30 := ⟨RX5, TX5, 35, tyX5, rfl, inX5, by decide, all_in4 78 (by decide +kernel) rfl, rfl, tyX5_ok, nmX5⟩
theorem fpX5_196 : FLp RX5 196 7 30 .int := ⟨RX5, TX5, 35, tyX5, rfl, inX5, by decide, all_in4 78 (by decide +kernel) rfl, rfl, tyX5_ok, nmX5, rfl, by decide +kernel⟩
theorem flX5_199 : FL RX5 199 7 31 := ⟨RX5, TX5, 35, tyX5, rfl, inX5, by decide, all_in4 79 (by decide +kernel) rfl, rfl, tyX5_ok, nmX5⟩
theorem fpX5_199 : FLp RX5 199 7 31 .int := ⟨RX5, TX5, 35, tyX5, rfl, inX5, by decide, all_in4 79 (by decide +kernel) rfl, rfl, tyX5_ok, nmX5, rfl, by decide +kernel⟩
theorem flX5_206 : FL RX5 206 7 32 := ⟨RX5, TX5, 35, tyX5, rfl, inX5, by decide, all_in4 80 (by decide +kernel) rfl, rfl, tyX5_ok, nmX5⟩
theorem fpX5_206 : FLp RX5 206 7 32 .int := ⟨RX5, TX5, 35, tyX5, rfl, inX5, by decide, all_in4 80 (by decide +kernel) rfl, rfl, tyX5_ok, nmX5, rfl, by decide +kernel⟩
theorem flX5_84 : FL RX5 84 7 33 := ⟨RX5, TX5, 35, tyX5, rfl, inX5, by decide, all_in4 81 (by decide +kernel) rfl, rfl, tyX5_ok, nmX5⟩
theorem flX5_87 : FL RX5 87 7 34 := ⟨RX5, TX5, 35, tyX5, rfl, inX5, by decide, all_in4 82 (by decide +kernel) rfl, rfl, tyX5_ok, nmX5⟩
theorem fpX5_87 : FLp RX5 87 7 34 .int := ⟨RX5, TX5, 35, tyX5, rfl, inX5, by decide, all_in4 82 (by decide +kernel) rfl, rfl, tyX5_ok, nmX5, rfl, by decide +kernel⟩
theorem kvL_151 : KV RL 151 yX4_hung cX4_hung 1 (some .int) 0 := ⟨⟨all_in1 212 (by decide +kernel) rfl, all_in1 1 (by decide +kernel) rfl, ⟨by decide, by decide⟩, by decide +kernel, all_in1 209 (by decide +kernel) rfl, by decide⟩, all_in1 210 (by decide +kernel) rfl, all_in1 211 (by decide +kernel) rfl⟩
theorem kvL_161 : KV RL 161 yX4_end cX4_end 1 (some .int) 0 := ⟨⟨all_in1 216 (by decide +kernel) rfl, all_in1 1 (by decide +kernel) rfl, ⟨by decide, by decide⟩, by decide +kernel, all_in1 213 (by decide +kernel) rfl, by decide⟩, all_in1 214 (by decide +kernel) rfl, all_in1 215 (by decide +kernel) rfl⟩
theorem kvX4_234 : KV RX4 234 yX2_lastMinute cX2_lastMinute 1 (some .int) 0 := ⟨⟨all_in1 220 (by decide +kernel) rfl, all_in1 2 (by decide +kernel) rfl, ⟨by decide, by decide⟩, by decide +kernel, all_in1 217 (by decide +kernel) rfl, by decide⟩, all_in1 218 (by decide +kernel) rfl, all_in1 219 (by decide +kernel) rfl⟩
theorem kvL_165 : KV RL 165 yX4_work cX4_work 1 (some .int) 0 := ⟨⟨all_in1 224 (by decide +kernel) rfl, all_in1 1 (by decide +kernel) rfl, ⟨by decide, by decide⟩, by decide +kernel, all_in1 221 (by decide +kernel) rfl, by decide⟩, all_in1 222 (by decide +kernel) rfl, all_in1 223 (by decide +kernel) rfl⟩
theorem kvX4_259 : KV RX4 259 yX2_workAtEnd cX2_workAtEnd 1 (some .int) 0 := ⟨⟨all_in1 228 (by decide +kernel) rfl, all_in1 2 (by decide +kernel) rfl, ⟨by decide, by decide⟩, by decide +kernel, all_in1 225 (by decide +kernel) rfl, by decide⟩, all_in1 226 (by decide +kernel) rfl, all_in1 227 (by decide +kernel) rfl⟩
theorem kvL_169 : KV RL 169 yX4_cost cX4_cost 1 (some .long) 0 := ⟨⟨all_in1 232 (by decide +kernel) rfl, all_in1 1 (by decide +kernel) rfl, ⟨by decide, by decide⟩, by decide +kernel, all_in1 229 (by decide +kernel) rfl, by decide⟩, all_in1 230 (by decide +kernel) rfl, all_in1 231 (by decide +kernel) rfl⟩
theorem kvX4_262 : KV RX4 262 yX4_costByPieces cX4_costByPieces 7 (some .int) 1 := ⟨⟨all_in1 236 (by decide +kernel) rfl, all_in1 1 (by decide +kernel) rfl, ⟨by decide, by decide⟩, by decide +kernel, all_in1 233 (by decide +kernel) rfl, by decide⟩, all_in1 235 (by decide +kernel) rfl, all_sel 0 (by decide +kernel) rfl⟩
theorem ksX4_340 : KS RX4 340 yJ9_min_7cf53 cJ9_min_7cf53 2 (some .int) 2 := ⟨⟨all_in1 239 (by decide +kernel) rfl, all_in1 18 (by decide +kernel) rfl, ⟨by decide, by decide⟩, by decide +kernel, all_in1 237 (by decide +kernel) rfl, by decide⟩, all_in1 238 (by decide +kernel) rfl⟩
theorem ksX4_323 : KS RX4 323 yJ9_max_7cf53 cJ9_max_7cf53 2 (some .int) 2 := ⟨⟨all_in2 2 (by decide +kernel) rfl, all_in1 18 (by decide +kernel) rfl, ⟨by decide, by decide⟩, by decide +kernel, all_in2 0 (by decide +kernel) rfl, by decide⟩, all_in2 1 (by decide +kernel) rfl⟩
theorem kvL_174 : KV RL 174 yX4_costByMinutes cX4_costByMinutes 1 (some .long) 0 := ⟨⟨all_in2 6 (by decide +kernel) rfl, all_in1 1 (by decide +kernel) rfl, ⟨by decide, by decide⟩, by decide +kernel, all_in2 3 (by decide +kernel) rfl, by decide⟩, all_in2 4 (by decide +kernel) rfl, all_in2 5 (by decide +kernel) rfl⟩
theorem kvX4_266 : KV RX4 266 yX4_costMinuteByMinute cX4_costMinuteByMinute 6 (some .long) 0 := ⟨⟨all_in2 10 (by decide +kernel) rfl, all_in1 1 (by decide +kernel) rfl, ⟨by decide, by decide⟩, by decide +kernel, all_in2 7 (by decide +kernel) rfl, by decide⟩, all_in2 9 (by decide +kernel) rfl, all_sel 1 (by decide +kernel) rfl⟩
theorem kvX4_343 : KV RX4 343 yX2_isWorkedOn cX2_isWorkedOn 3 (some .boolean) 1 := ⟨⟨all_in2 14 (by decide +kernel) rfl, all_in1 2 (by decide +kernel) rfl, ⟨by decide, by decide⟩, by decide +kernel, all_in2 11 (by decide +kernel) rfl, by decide⟩, all_in2 12 (by decide +kernel) rfl, all_in2 13 (by decide +kernel) rfl⟩
theorem kvL_178 : KV RL 178 yX4_bestWorth cX4_bestWorth 1 (some .int) 0 := ⟨⟨all_in2 18 (by decide +kernel) rfl, all_in1 1 (by decide +kernel) rfl, ⟨by decide, by decide⟩, by decide +kernel, all_in2 15 (by decide +kernel) rfl, by decide⟩, all_in2 16 (by decide +kernel) rfl, all_in2 17 (by decide +kernel) rfl⟩
theorem kvX4_270 : KV RX4 270 yX4_findBest cX4_findBest 2 none 0 := ⟨⟨all_in2 22 (by decide +kernel) rfl, all_in1 1 (by decide +kernel) rfl, ⟨by decide, by decide⟩, by decide +kernel, all_in2 19 (by decide +kernel) rfl, by decide⟩, all_in2 21 (by decide +kernel) rfl, all_sel 2 (by decide +kernel) rfl⟩
theorem kvX4_277 : KV RX4 277 yX2_copyFrom cX2_copyFrom 3 none 1 := ⟨⟨all_in2 26 (by decide +kernel) rfl, all_in1 2 (by decide +kernel) rfl, ⟨by decide, by decide⟩, by decide +kernel, all_in2 23 (by decide +kernel) rfl, by decide⟩, all_in2 24 (by decide +kernel) rfl, all_in2 25 (by decide +kernel) rfl⟩
theorem ksX4_346 : KS RX4 346 yX4_seekBest cX4_seekBest 4 none 3 := ⟨⟨all_in2 29 (by decide +kernel) rfl, all_in1 1 (by decide +kernel) rfl, ⟨by decide, by decide⟩, by decide +kernel, all_in2 27 (by decide +kernel) rfl, by decide⟩, all_in2 28 (by decide +kernel) rfl⟩
theorem kvX4_350 : KV RX4 350 yX4_isBetter cX4_isBetter 3 (some .boolean) 2 := ⟨⟨all_in2 33 (by decide +kernel) rfl, all_in1 1 (by decide +kernel) rfl, ⟨by decide, by decide⟩, by decide +kernel, all_in2 30 (by decide +kernel) rfl, by decide⟩, all_in2 32 (by decide +kernel) rfl, all_sel 3 (by decide +kernel) rfl⟩
theorem kvX4_354 : KV RX4 354 yX4_mayLeadToBetter cX4_mayLeadToBetter 5 (some .boolean) 1 := ⟨⟨all_in2 37 (by decide +kernel) rfl, all_in1 1 (by decide +kernel) rfl, ⟨by decide, by decide⟩, by decide +kernel, all_in2 34 (by decide +kernel) rfl, by decide⟩, all_in2 36 (by decide +kernel) rfl, all_sel 4 (by decide +kernel) rfl⟩
theorem ksX4_140 : KS RX4 140 yX4_isIn cX4_isIn 2 (some .boolean) 2 := ⟨⟨all_in2 40 (by decide +kernel) rfl, all_in1 1 (by decide +kernel) rfl, ⟨by decide, by decide⟩, by decide +kernel, all_in2 38 (by decide +kernel) rfl, by decide⟩, all_in2 39 (by decide +kernel) rfl⟩
theorem kvX4_357 : KV RX4 357 yX4_mayComeLater cX4_mayComeLater 4 (some .boolean) 2 := ⟨⟨all_in2 44 (by decide +kernel) rfl, all_in1 1 (by decide +kernel) rfl, ⟨by decide, by decide⟩, by decide +kernel, all_in2 41 (by decide +kernel) rfl, by decide⟩, all_in2 43 (by decide +kernel) rfl, all_sel 5 (by decide +kernel) rfl⟩
theorem kvX4_312 : KV RX4 312 yX0_isFixed cX0_isFixed 1 (some .boolean) 0 := ⟨⟨all_in2 48 (by decide +kernel) rfl, all_in1 4 (by decide +kernel) rfl, ⟨by decide, by decide⟩, by decide +kernel, all_in2 45 (by decide +kernel) rfl, by decide⟩, all_in2 46 (by decide +kernel) rfl, all_in2 47 (by decide +kernel) rfl⟩
theorem kvX4_315 : KV RX4 315 yX4_overloads cX4_overloads 6 (some .boolean) 3 := ⟨⟨all_in2 52 (by decide +kernel) rfl, all_in1 1 (by decide +kernel) rfl, ⟨by decide, by decide⟩, by decide +kernel, all_in2 49 (by decide +kernel) rfl, by decide⟩, all_in2 51 (by decide +kernel) rfl, all_sel 6 (by decide +kernel) rfl⟩
theorem kvX4_217 : KV RX4 217 yX3_allows cX3_allows 2 (some .int) 1 := ⟨⟨all_in2 56 (by decide +kernel) rfl, all_in1 5 (by decide +kernel) rfl, ⟨by decide, by decide⟩, by decide +kernel, all_in2 53 (by decide +kernel) rfl, by decide⟩, all_in2 54 (by decide +kernel) rfl, all_in2 55 (by decide +kernel) rfl⟩
theorem kvX4_224 : KV RX4 224 yX4_reasonAgainst cX4_reasonAgainst 5 (some .char) 2 := ⟨⟨all_in2 60 (by decide +kernel) rfl, all_in1 1 (by decide +kernel) rfl, ⟨by decide, by decide⟩, by decide +kernel, all_in2 57 (by decide +kernel) rfl, by decide⟩, all_in2 59 (by decide +kernel) rfl, all_sel 7 (by decide +kernel) rfl⟩
theorem kvX4_319 : KV RX4 319 yX4_beginNext cX4_beginNext 6 (some .int) 3 := ⟨⟨all_in2 64 (by decide +kernel) rfl, all_in1 1 (by decide +kernel) rfl, ⟨by decide, by decide⟩, by decide +kernel, all_in2 61 (by decide +kernel) rfl, by decide⟩, all_in2 63 (by decide +kernel) rfl, all_sel 8 (by decide +kernel) rfl⟩
theorem kvX4_328 : KV RX4 328 yX4_workCarried cX4_workCarried 5 (some .int) 3 := ⟨⟨all_in2 68 (by decide +kernel) rfl, all_in1 1 (by decide +kernel) rfl, ⟨by decide, by decide⟩, by decide +kernel, all_in2 65 (by decide +kernel) rfl, by decide⟩, all_in2 67 (by decide +kernel) rfl, all_sel 9 (by decide +kernel) rfl⟩
theorem kvX4_230 : KV RX4 230 yX4_putOn cX4_putOn 8 none 3 := ⟨⟨all_in2 72 (by decide +kernel) rfl, all_in1 1 (by decide +kernel) rfl, ⟨by decide, by decide⟩, by decide +kernel, all_in2 69 (by decide +kernel) rfl, by decide⟩, all_in2 71 (by decide +kernel) rfl, all_sel 10 (by decide +kernel) rfl⟩
theorem kvX4_331 : KV RX4 331 yX4_workNext cX4_workNext 5 (some .int) 3 := ⟨⟨all_in2 76 (by decide +kernel) rfl, all_in1 1 (by decide +kernel) rfl, ⟨by decide, by decide⟩, by decide +kernel, all_in2 73 (by decide +kernel) rfl, by decide⟩, all_in2 75 (by decide +kernel) rfl, all_sel 11 (by decide +kernel) rfl⟩
theorem kvX4_243 : KV RX4 243 yX4_takeLastOff cX4_takeLastOff 5 none 1 := ⟨⟨all_in2 80 (by decide +kernel) rfl, all_in1 1 (by decide +kernel) rfl, ⟨by decide, by decide⟩, by decide +kernel, all_in2 77 (by decide +kernel) rfl, by decide⟩, all_in2 79 (by decide +kernel) rfl, all_sel 12 (by decide +kernel) rfl⟩
theorem kvL_182 : KV RL 182 yX4_bestByAll cX4_bestByAll 1 (some .int) 0 := ⟨⟨all_in2 84 (by decide +kernel) rfl, all_in1 1 (by decide +kernel) rfl, ⟨by decide, by decide⟩, by decide +kernel, all_in2 81 (by decide +kernel) rfl, by decide⟩, all_in2 82 (by decide +kernel) rfl, all_in2 83 (by decide +kernel) rfl⟩
theorem kvX4_274 : KV RX4 274 yX4_tryAllCompletions cX4_tryAllCompletions 1 none 0 := ⟨⟨all_in2 88 (by decide +kernel) rfl, all_in1 1 (by decide +kernel) rfl, ⟨by decide, by decide⟩, by decide +kernel, all_in2 85 (by decide +kernel) rfl, by decide⟩, all_in2 87 (by decide +kernel) rfl, all_sel 13 (by decide +kernel) rfl⟩
theorem ksX4_361 : KS RX4 361 yX4_tryAllFrom cX4_tryAllFrom 4 none 2 := ⟨⟨all_in2 91 (by decide +kernel) rfl, all_in1 1 (by decide +kernel) rfl, ⟨by decide, by decide⟩, by decide +kernel, all_in2 89 (by decide +kernel) rfl, by decide⟩, all_in2 90 (by decide +kernel) rfl⟩
theorem kvL_186 : KV RL 186 yX4_bestEnd cX4_bestEnd 1 (some .int) 0 := ⟨⟨all_in2 95 (by decide +kernel) rfl, all_in1 1 (by decide +kernel) rfl, ⟨by decide, by decide⟩, by decide +kernel, all_in2 92 (by decide +kernel) rfl, by decide⟩, all_in2 93 (by decide +kernel) rfl, all_in2 94 (by decide +kernel) rfl⟩
theorem kvL_190 : KV RL 190 yX4_bestCost cX4_bestCost 1 (some .int) 0 := ⟨⟨all_in2 99 (by decide +kernel) rfl, all_in1 1 (by decide +kernel) rfl, ⟨by decide, by decide⟩, by decide +kernel, all_in2 96 (by decide +kernel) rfl, by decide⟩, all_in2 97 (by decide +kernel) rfl, all_in2 98 (by decide +kernel) rfl⟩
theorem kvL_194 : KV RL 194 yX4_bestSize cX4_bestSize 1 (some .int) 0 := ⟨⟨all_in2 103 (by decide +kernel) rfl, all_in1 1 (by decide +kernel) rfl, ⟨by decide, by decide⟩, by decide +kernel, all_in2 100 (by decide +kernel) rfl, by decide⟩, all_in2 101 (by decide +kernel) rfl, all_in2 102 (by decide +kernel) rfl⟩
theorem kvL_201 : KV RL 201 yX4_complete cX4_complete 2 (some .int) 0 := ⟨⟨all_in2 107 (by decide +kernel) rfl, all_in1 1 (by decide +kernel) rfl, ⟨by decide, by decide⟩, by decide +kernel, all_in2 104 (by decide +kernel) rfl, by decide⟩, all_in2 105 (by decide +kernel) rfl, all_in2 106 (by decide +kernel) rfl⟩
theorem kvL_205 : KV RL 205 yX4_completions cX4_completions 1 (some .int) 0 := ⟨⟨all_in2 111 (by decide +kernel) rfl, all_in1 1 (by decide +kernel) rfl, ⟨by decide, by decide⟩, by decide +kernel, all_in2 108 (by decide +kernel) rfl, by decide⟩, all_in2 109 (by decide +kernel) rfl, all_in2 110 (by decide +kernel) rfl⟩
theorem kvL_219 : KV RL 219 yX4_isSound cX4_isSound 2 (some .boolean) 0 := ⟨⟨all_in2 115 (by decide +kernel) rfl, all_in1 1 (by decide +kernel) rfl, ⟨by decide, by decide⟩, by decide +kernel, all_in2 112 (by decide +kernel) rfl, by decide⟩, all_in2 113 (by decide +kernel) rfl, all_in2 114 (by decide +kernel) rfl⟩
theorem kvX4_293 : KV RX4 293 yX4_noPointOverloaded cX4_noPointOverloaded 3 (some .boolean) 1 := ⟨⟨all_in2 119 (by decide +kernel) rfl, all_in1 1 (by decide +kernel) rfl, ⟨by decide, by decide⟩, by decide +kernel, all_in2 116 (by decide +kernel) rfl, by decide⟩, all_in2 118 (by decide +kernel) rfl, all_sel 14 (by decide +kernel) rfl⟩
theorem kvX4_282 : KV RX4 282 yX4_leftAt cX4_leftAt 3 (some .int) 2 := ⟨⟨all_in2 123 (by decide +kernel) rfl, all_in1 1 (by decide +kernel) rfl, ⟨by decide, by decide⟩, by decide +kernel, all_in2 120 (by decide +kernel) rfl, by decide⟩, all_in2 122 (by decide +kernel) rfl, all_sel 15 (by decide +kernel) rfl⟩
theorem kvX4_297 : KV RX4 297 yX4_needsHungBefore cX4_needsHungBefore 4 (some .boolean) 0 := ⟨⟨all_in2 127 (by decide +kernel) rfl, all_in1 1 (by decide +kernel) rfl, ⟨by decide, by decide⟩, by decide +kernel, all_in2 124 (by decide +kernel) rfl, by decide⟩, all_in2 126 (by decide +kernel) rfl, all_sel 16 (by decide +kernel) rfl⟩
theorem kvL_7 : KV RL 7 yX4_addPoint cX4_addPoint 4 (some .int) 2 := ⟨⟨all_in2 136 (by decide +kernel) rfl, all_in1 1 (by decide +kernel) rfl, ⟨by decide, by decide⟩, by decide +kernel, all_in2 133 (by decide +kernel) rfl, by decide⟩, all_in2 134 (by decide +kernel) rfl, all_in2 135 (by decide +kernel) rfl⟩
theorem ksX4_69 : KS RX4 69 yX4_isOutside cX4_isOutside 3 (some .boolean) 3 := ⟨⟨all_in2 139 (by decide +kernel) rfl, all_in1 1 (by decide +kernel) rfl, ⟨by decide, by decide⟩, by decide +kernel, all_in2 137 (by decide +kernel) rfl, by decide⟩, all_in2 138 (by decide +kernel) rfl⟩
theorem kvL_17 : KV RL 17 yX4_addPiece cX4_addPiece 7 (some .int) 4 := ⟨⟨all_in2 234 (by decide +kernel) rfl, all_in1 1 (by decide +kernel) rfl, ⟨by decide, by decide⟩, by decide +kernel, all_in2 231 (by decide +kernel) rfl, by decide⟩, all_in2 232 (by decide +kernel) rfl, all_in2 233 (by decide +kernel) rfl⟩
theorem kvL_21 : KV RL 21 yX4_fix cX4_fix 11 (some .int) 5 := ⟨⟨all_in3 28 (by decide +kernel) rfl, all_in1 1 (by decide +kernel) rfl, ⟨by decide, by decide⟩, by decide +kernel, all_in3 25 (by decide +kernel) rfl, by decide⟩, all_in3 26 (by decide +kernel) rfl, all_in3 27 (by decide +kernel) rfl⟩
theorem kvX4_107 : KV RX4 107 yX4_checkPiece cX4_checkPiece 2 none 1 := ⟨⟨all_in3 32 (by decide +kernel) rfl, all_in1 1 (by decide +kernel) rfl, ⟨by decide, by decide⟩, by decide +kernel, all_in3 29 (by decide +kernel) rfl, by decide⟩, all_in3 31 (by decide +kernel) rfl, all_sel 18 (by decide +kernel) rfl⟩
theorem kvX4_110 : KV RX4 110 yX4_checkPoint cX4_checkPoint 2 none 1 := ⟨⟨all_in3 52 (by decide +kernel) rfl, all_in1 1 (by decide +kernel) rfl, ⟨by decide, by decide⟩, by decide +kernel, all_in3 49 (by decide +kernel) rfl, by decide⟩, all_in3 51 (by decide +kernel) rfl, all_sel 19 (by decide +kernel) rfl⟩
theorem kvX4_115 : KV RX4 115 yX4_checkNotHung cX4_checkNotHung 2 none 1 := ⟨⟨all_in3 70 (by decide +kernel) rfl, all_in1 1 (by decide +kernel) rfl, ⟨by decide, by decide⟩, by decide +kernel, all_in3 67 (by decide +kernel) rfl, by decide⟩, all_in3 69 (by decide +kernel) rfl, all_sel 20 (by decide +kernel) rfl⟩
theorem ksX4_124 : KS RX4 124 yX4_loadOfPart cX4_loadOfPart 2 (some .int) 2 := ⟨⟨all_in3 74 (by decide +kernel) rfl, all_in1 1 (by decide +kernel) rfl, ⟨by decide, by decide⟩, by decide +kernel, all_in3 72 (by decide +kernel) rfl, by decide⟩, all_in3 73 (by decide +kernel) rfl⟩
theorem kvL_29 : KV RL 29 yX4_need cX4_need 3 (some .int) 2 := ⟨⟨all_in3 82 (by decide +kernel) rfl, all_in1 1 (by decide +kernel) rfl, ⟨by decide, by decide⟩, by decide +kernel, all_in3 79 (by decide +kernel) rfl, by decide⟩, all_in3 80 (by decide +kernel) rfl, all_in3 81 (by decide +kernel) rfl⟩
theorem kvX4_136 : KV RX4 136 yX4_allNeedsOf cX4_allNeedsOf 5 (some .int) 1 := ⟨⟨all_in3 87 (by decide +kernel) rfl, all_in1 1 (by decide +kernel) rfl, ⟨by decide, by decide⟩, by decide +kernel, all_in3 84 (by decide +kernel) rfl, by decide⟩, all_in3 86 (by decide +kernel) rfl, all_sel 21 (by decide +kernel) rfl⟩
theorem ksX4_152 : KS RX4 152 yJ6_bitCount_0f7a4 cJ6_bitCount_0f7a4 1 (some .int) 1 := ⟨⟨all_in3 106 (by decide +kernel) rfl, all_in1 17 (by decide +kernel) rfl, ⟨by decide, by decide⟩, by decide +kernel, all_in3 104 (by decide +kernel) rfl, by decide⟩, all_in3 105 (by decide +kernel) rfl⟩
theorem kvL_34 : KV RL 34 yX4_setArrival cX4_setArrival 4 (some .int) 2 := ⟨⟨all_in3 116 (by decide +kernel) rfl, all_in1 1 (by decide +kernel) rfl, ⟨by decide, by decide⟩, by decide +kernel, all_in3 113 (by decide +kernel) rfl, by decide⟩, all_in3 114 (by decide +kernel) rfl, all_in3 115 (by decide +kernel) rfl⟩
theorem kvX4_164 : KV RX4 164 yX4_isInUse cX4_isInUse 3 (some .boolean) 1 := ⟨⟨all_in3 122 (by decide +kernel) rfl, all_in1 1 (by decide +kernel) rfl, ⟨by decide, by decide⟩, by decide +kernel, all_in3 119 (by decide +kernel) rfl, by decide⟩, all_in3 121 (by decide +kernel) rfl, all_sel 22 (by decide +kernel) rfl⟩
theorem kvL_37 : KV RL 37 yX4_addTown cX4_addTown 7 (some .int) 4 := ⟨⟨all_in3 130 (by decide +kernel) rfl, all_in1 1 (by decide +kernel) rfl, ⟨by decide, by decide⟩, by decide +kernel, all_in3 127 (by decide +kernel) rfl, by decide⟩, all_in3 128 (by decide +kernel) rfl, all_in3 129 (by decide +kernel) rfl⟩
theorem kvL_40 : KV RL 40 yX4_setRates cX4_setRates 7 (some .int) 4 := ⟨⟨all_in3 139 (by decide +kernel) rfl, all_in1 1 (by decide +kernel) rfl, ⟨by decide, by decide⟩, by decide +kernel, all_in3 136 (by decide +kernel) rfl, by decide⟩, all_in3 137 (by decide +kernel) rfl, all_in3 138 (by decide +kernel) rfl⟩
theorem kvX4_186 : KV RX4 186 yX4_checkTown cX4_checkTown 2 none 1 := ⟨⟨all_in3 143 (by decide +kernel) rfl, all_in1 1 (by decide +kernel) rfl, ⟨by decide, by decide⟩, by decide +kernel, all_in3 140 (by decide +kernel) rfl, by decide⟩, all_in3 142 (by decide +kernel) rfl, all_sel 23 (by decide +kernel) rfl⟩
theorem kvL_43 : KV RL 43 yX4_come cX4_come 3 (some .int) 1 := ⟨⟨all_in3 152 (by decide +kernel) rfl, all_in1 1 (by decide +kernel) rfl, ⟨by decide, by decide⟩, by decide +kernel, all_in3 149 (by decide +kernel) rfl, by decide⟩, all_in3 150 (by decide +kernel) rfl, all_in3 151 (by decide +kernel) rfl⟩
theorem kvX4_203 : KV RX4 203 yX2_empty cX2_empty 2 none 0 := ⟨⟨all_in3 156 (by decide +kernel) rfl, all_in1 2 (by decide +kernel) rfl, ⟨by decide, by decide⟩, by decide +kernel, all_in3 153 (by decide +kernel) rfl, by decide⟩, all_in3 154 (by decide +kernel) rfl, all_in3 155 (by decide +kernel) rfl⟩
theorem kvL_47 : KV RL 47 yX4_town cX4_town 2 (some .int) 0 := ⟨⟨all_in3 163 (by decide +kernel) rfl, all_in1 1 (by decide +kernel) rfl, ⟨by decide, by decide⟩, by decide +kernel, all_in3 160 (by decide +kernel) rfl, by decide⟩, all_in3 161 (by decide +kernel) rfl, all_in3 162 (by decide +kernel) rfl⟩
theorem kvL_51 : KV RL 51 yX4_loadOn cX4_loadOn 3 (some .int) 2 := ⟨⟨all_in3 171 (by decide +kernel) rfl, all_in1 1 (by decide +kernel) rfl, ⟨by decide, by decide⟩, by decide +kernel, all_in3 168 (by decide +kernel) rfl, by decide⟩, all_in3 169 (by decide +kernel) rfl, all_in3 170 (by decide +kernel) rfl⟩
theorem kvX4_214 : KV RX4 214 yX0_loadAt cX0_loadAt 2 (some .int) 1 := ⟨⟨all_in3 175 (by decide +kernel) rfl, all_in1 4 (by decide +kernel) rfl, ⟨by decide, by decide⟩, by decide +kernel, all_in3 172 (by decide +kernel) rfl, by decide⟩, all_in3 173 (by decide +kernel) rfl, all_in3 174 (by decide +kernel) rfl⟩
theorem kvL_54 : KV RL 54 yX4_mayBear cX4_mayBear 3 (some .int) 1 := ⟨⟨all_in3 182 (by decide +kernel) rfl, all_in1 1 (by decide +kernel) rfl, ⟨by decide, by decide⟩, by decide +kernel, all_in3 179 (by decide +kernel) rfl, by decide⟩, all_in3 180 (by decide +kernel) rfl, all_in3 181 (by decide +kernel) rfl⟩
theorem kvL_57 : KV RL 57 yX4_bears cX4_bears 2 (some .int) 1 := ⟨⟨all_in3 189 (by decide +kernel) rfl, all_in1 1 (by decide +kernel) rfl, ⟨by decide, by decide⟩, by decide +kernel, all_in3 186 (by decide +kernel) rfl, by decide⟩, all_in3 187 (by decide +kernel) rfl, all_in3 188 (by decide +kernel) rfl⟩
theorem kvL_60 : KV RL 60 yX4_reason cX4_reason 2 (some .char) 1 := ⟨⟨all_in3 196 (by decide +kernel) rfl, all_in1 1 (by decide +kernel) rfl, ⟨by decide, by decide⟩, by decide +kernel, all_in3 193 (by decide +kernel) rfl, by decide⟩, all_in3 194 (by decide +kernel) rfl, all_in3 195 (by decide +kernel) rfl⟩
theorem kvL_64 : KV RL 64 yX4_hang cX4_hang 3 (some .int) 1 := ⟨⟨all_in3 203 (by decide +kernel) rfl, all_in1 1 (by decide +kernel) rfl, ⟨by decide, by decide⟩, by decide +kernel, all_in3 200 (by decide +kernel) rfl, by decide⟩, all_in3 201 (by decide +kernel) rfl, all_in3 202 (by decide +kernel) rfl⟩
theorem kvL_67 : KV RL 67 yX4_takeDown cX4_takeDown 2 (some .int) 0 := ⟨⟨all_in3 211 (by decide +kernel) rfl, all_in1 1 (by decide +kernel) rfl, ⟨by decide, by decide⟩, by decide +kernel, all_in3 208 (by decide +kernel) rfl, by decide⟩, all_in3 209 (by decide +kernel) rfl, all_in3 210 (by decide +kernel) rfl⟩
theorem kvL_70 : KV RL 70 yX4_hungAt cX4_hungAt 2 (some .int) 1 := ⟨⟨all_in3 219 (by decide +kernel) rfl, all_in1 1 (by decide +kernel) rfl, ⟨by decide, by decide⟩, by decide +kernel, all_in3 216 (by decide +kernel) rfl, by decide⟩, all_in3 217 (by decide +kernel) rfl, all_in3 218 (by decide +kernel) rfl⟩
theorem ksX4_247 : KS RX4 247 yX4_pieceAt cX4_pieceAt 2 (some .int) 2 := ⟨⟨all_in3 222 (by decide +kernel) rfl, all_in1 1 (by decide +kernel) rfl, ⟨by decide, by decide⟩, by decide +kernel, all_in3 220 (by decide +kernel) rfl, by decide⟩, all_in3 221 (by decide +kernel) rfl⟩
theorem kvL_73 : KV RL 73 yX4_beginOf cX4_beginOf 3 (some .int) 1 := ⟨⟨all_in3 229 (by decide +kernel) rfl, all_in1 1 (by decide +kernel) rfl, ⟨by decide, by decide⟩, by decide +kernel, all_in3 226 (by decide +kernel) rfl, by decide⟩, all_in3 227 (by decide +kernel) rfl, all_in3 228 (by decide +kernel) rfl⟩
theorem kvX4_251 : KV RX4 251 yX2_indexOf cX2_indexOf 3 (some .int) 1 := ⟨⟨all_in3 233 (by decide +kernel) rfl, all_in1 2 (by decide +kernel) rfl, ⟨by decide, by decide⟩, by decide +kernel, all_in3 230 (by decide +kernel) rfl, by decide⟩, all_in3 231 (by decide +kernel) rfl, all_in3 232 (by decide +kernel) rfl⟩
theorem kvL_76 : KV RL 76 yX4_bestAt cX4_bestAt 2 (some .int) 1 := ⟨⟨all_in4 1 (by decide +kernel) rfl, all_in1 1 (by decide +kernel) rfl, ⟨by decide, by decide⟩, by decide +kernel, all_in3 238 (by decide +kernel) rfl, by decide⟩, all_in3 239 (by decide +kernel) rfl, all_in4 0 (by decide +kernel) rfl⟩
theorem kvL_79 : KV RL 79 yX4_tightest cX4_tightest 4 (some .int) 0 := ⟨⟨all_in4 8 (by decide +kernel) rfl, all_in1 1 (by decide +kernel) rfl, ⟨by decide, by decide⟩, by decide +kernel, all_in4 5 (by decide +kernel) rfl, by decide⟩, all_in4 6 (by decide +kernel) rfl, all_in4 7 (by decide +kernel) rfl⟩
theorem kvL_82 : KV RL 82 yX4_hungShare cX4_hungShare 1 (some .float) 0 := ⟨⟨all_in4 30 (by decide +kernel) rfl, all_in1 1 (by decide +kernel) rfl, ⟨by decide, by decide⟩, by decide +kernel, all_in4 27 (by decide +kernel) rfl, by decide⟩, all_in4 28 (by decide +kernel) rfl, all_in4 29 (by decide +kernel) rfl⟩
theorem kvL_88 : KV RL 88 yX4_meanLoad cX4_meanLoad 3 (some .double) 0 := ⟨⟨all_in4 40 (by decide +kernel) rfl, all_in1 1 (by decide +kernel) rfl, ⟨by decide, by decide⟩, by decide +kernel, all_in4 37 (by decide +kernel) rfl, by decide⟩, all_in4 38 (by decide +kernel) rfl, all_in4 39 (by decide +kernel) rfl⟩
theorem kvL_102 : KV RL 102 yX5_thrown cX5_thrown 1 (some .int) 0 := ⟨⟨all_in4 158 (by decide +kernel) rfl, all_in1 6 (by decide +kernel) rfl, ⟨by decide, by decide⟩, by decide +kernel, all_in4 155 (by decide +kernel) rfl, by decide⟩, all_in4 156 (by decide +kernel) rfl, all_in4 157 (by decide +kernel) rfl⟩
theorem kvL_101 : KV RL 101 yX5_addPoint cX5_addPoint 3 (some .int) 2 := ⟨⟨all_in4 162 (by decide +kernel) rfl, all_in1 6 (by decide +kernel) rfl, ⟨by decide, by decide⟩, by decide +kernel, all_in4 159 (by decide +kernel) rfl, by decide⟩, all_in4 160 (by decide +kernel) rfl, all_in4 161 (by decide +kernel) rfl⟩
theorem ksX5_93 : KS RX5 93 yX5_in cX5_in 3 (some .boolean) 3 := ⟨⟨all_in4 165 (by decide +kernel) rfl, all_in1 6 (by decide +kernel) rfl, ⟨by decide, by decide⟩, by decide +kernel, all_in4 163 (by decide +kernel) rfl, by decide⟩, all_in4 164 (by decide +kernel) rfl⟩
theorem kvX5_103 : KV RX5 103 yX5_fails cX5_fails 2 (some .boolean) 1 := ⟨⟨all_in4 169 (by decide +kernel) rfl, all_in1 6 (by decide +kernel) rfl, ⟨by decide, by decide⟩, by decide +kernel, all_in4 166 (by decide +kernel) rfl, by decide⟩, all_in4 168 (by decide +kernel) rfl, all_sel 24 (by decide +kernel) rfl⟩
theorem kvL_108 : KV RL 108 yX5_addPiece cX5_addPiece 6 (some .int) 4 := ⟨⟨all_in4 173 (by decide +kernel) rfl, all_in1 6 (by decide +kernel) rfl, ⟨by decide, by decide⟩, by decide +kernel, all_in4 170 (by decide +kernel) rfl, by decide⟩, all_in4 171 (by decide +kernel) rfl, all_in4 172 (by decide +kernel) rfl⟩
theorem kvL_112 : KV RL 112 yX5_fix cX5_fix 6 (some .int) 5 := ⟨⟨all_in4 177 (by decide +kernel) rfl, all_in1 6 (by decide +kernel) rfl, ⟨by decide, by decide⟩, by decide +kernel, all_in4 174 (by decide +kernel) rfl, by decide⟩, all_in4 175 (by decide +kernel) rfl, all_in4 176 (by decide +kernel) rfl⟩
theorem kvX5_107 : KV RX5 107 yX5_isNoPiece cX5_isNoPiece 2 (some .boolean) 1 := ⟨⟨all_in4 181 (by decide +kernel) rfl, all_in1 6 (by decide +kernel) rfl, ⟨by decide, by decide⟩, by decide +kernel, all_in4 178 (by decide +kernel) rfl, by decide⟩, all_in4 180 (by decide +kernel) rfl, all_sel 25 (by decide +kernel) rfl⟩
theorem kvX5_110 : KV RX5 110 yX5_isNoPoint cX5_isNoPoint 2 (some .boolean) 1 := ⟨⟨all_in4 185 (by decide +kernel) rfl, all_in1 6 (by decide +kernel) rfl, ⟨by decide, by decide⟩, by decide +kernel, all_in4 182 (by decide +kernel) rfl, by decide⟩, all_in4 184 (by decide +kernel) rfl, all_sel 26 (by decide +kernel) rfl⟩
theorem kvX5_113 : KV RX5 113 yX5_isFixing cX5_isFixing 5 (some .boolean) 4 := ⟨⟨all_in4 189 (by decide +kernel) rfl, all_in1 6 (by decide +kernel) rfl, ⟨by decide, by decide⟩, by decide +kernel, all_in4 186 (by decide +kernel) rfl, by decide⟩, all_in4 188 (by decide +kernel) rfl, all_sel 27 (by decide +kernel) rfl⟩
theorem kvX5_117 : KV RX5 117 yX5_inRig cX5_inRig 3 (some .int) 1 := ⟨⟨all_in4 193 (by decide +kernel) rfl, all_in1 6 (by decide +kernel) rfl, ⟨by decide, by decide⟩, by decide +kernel, all_in4 190 (by decide +kernel) rfl, by decide⟩, all_in4 192 (by decide +kernel) rfl, all_sel 28 (by decide +kernel) rfl⟩
theorem kvX5_121 : KV RX5 121 yX5_partOfRight cX5_partOfRight 2 (some .int) 1 := ⟨⟨all_in4 197 (by decide +kernel) rfl, all_in1 6 (by decide +kernel) rfl, ⟨by decide, by decide⟩, by decide +kernel, all_in4 194 (by decide +kernel) rfl, by decide⟩, all_in4 196 (by decide +kernel) rfl, all_sel 29 (by decide +kernel) rfl⟩
theorem kvL_115 : KV RL 115 yX5_need cX5_need 5 (some .int) 2 := ⟨⟨all_in4 201 (by decide +kernel) rfl, all_in1 6 (by decide +kernel) rfl, ⟨by decide, by decide⟩, by decide +kernel, all_in4 198 (by decide +kernel) rfl, by decide⟩, all_in4 199 (by decide +kernel) rfl, all_in4 200 (by decide +kernel) rfl⟩
theorem kvX5_124 : KV RX5 124 yX5_needsAtLast cX5_needsAtLast 4 (some .boolean) 2 := ⟨⟨all_in4 205 (by decide +kernel) rfl, all_in1 6 (by decide +kernel) rfl, ⟨by decide, by decide⟩, by decide +kernel, all_in4 202 (by decide +kernel) rfl, by decide⟩, all_in4 204 (by decide +kernel) rfl, all_sel 30 (by decide +kernel) rfl⟩
theorem kvL_118 : KV RL 118 yX5_setArrival cX5_setArrival 4 (some .int) 2 := ⟨⟨all_in4 209 (by decide +kernel) rfl, all_in1 6 (by decide +kernel) rfl, ⟨by decide, by decide⟩, by decide +kernel, all_in4 206 (by decide +kernel) rfl, by decide⟩, all_in4 207 (by decide +kernel) rfl, all_in4 208 (by decide +kernel) rfl⟩
theorem kvX5_128 : KV RX5 128 yX5_isBusy cX5_isBusy 3 (some .boolean) 1 := ⟨⟨all_in4 213 (by decide +kernel) rfl, all_in1 6 (by decide +kernel) rfl, ⟨by decide, by decide⟩, by decide +kernel, all_in4 210 (by decide +kernel) rfl, by decide⟩, all_in4 212 (by decide +kernel) rfl, all_sel 31 (by decide +kernel) rfl⟩
theorem kvL_121 : KV RL 121 yX5_addTown cX5_addTown 6 (some .int) 4 := ⟨⟨all_in4 217 (by decide +kernel) rfl, all_in1 6 (by decide +kernel) rfl, ⟨by decide, by decide⟩, by decide +kernel, all_in4 214 (by decide +kernel) rfl, by decide⟩, all_in4 215 (by decide +kernel) rfl, all_in4 216 (by decide +kernel) rfl⟩
theorem kvL_124 : KV RL 124 yX5_setRates cX5_setRates 6 (some .int) 4 := ⟨⟨all_in4 221 (by decide +kernel) rfl, all_in1 6 (by decide +kernel) rfl, ⟨by decide, by decide⟩, by decide +kernel, all_in4 218 (by decide +kernel) rfl, by decide⟩, all_in4 219 (by decide +kernel) rfl, all_in4 220 (by decide +kernel) rfl⟩
theorem kvX5_134 : KV RX5 134 yX5_isNoTown cX5_isNoTown 2 (some .boolean) 1 := ⟨⟨all_in4 225 (by decide +kernel) rfl, all_in1 6 (by decide +kernel) rfl, ⟨by decide, by decide⟩, by decide +kernel, all_in4 222 (by decide +kernel) rfl, by decide⟩, all_in4 224 (by decide +kernel) rfl, all_sel 32 (by decide +kernel) rfl⟩
theorem kvL_128 : KV RL 128 yX5_come cX5_come 3 (some .int) 1 := ⟨⟨all_in4 229 (by decide +kernel) rfl, all_in1 6 (by decide +kernel) rfl, ⟨by decide, by decide⟩, by decide +kernel, all_in4 226 (by decide +kernel) rfl, by decide⟩, all_in4 227 (by decide +kernel) rfl, all_in4 228 (by decide +kernel) rfl⟩
theorem kvL_132 : KV RL 132 yX5_town cX5_town 1 (some .int) 0 := ⟨⟨all_in4 233 (by decide +kernel) rfl, all_in1 6 (by decide +kernel) rfl, ⟨by decide, by decide⟩, by decide +kernel, all_in4 230 (by decide +kernel) rfl, by decide⟩, all_in4 231 (by decide +kernel) rfl, all_in4 232 (by decide +kernel) rfl⟩
theorem kvL_135 : KV RL 135 yX5_loadOn cX5_loadOn 3 (some .int) 2 := ⟨⟨all_in4 237 (by decide +kernel) rfl, all_in1 6 (by decide +kernel) rfl, ⟨by decide, by decide⟩, by decide +kernel, all_in4 234 (by decide +kernel) rfl, by decide⟩, all_in4 235 (by decide +kernel) rfl, all_in4 236 (by decide +kernel) rfl⟩
theorem kvX5_137 : KV RX5 137 yX5_load cX5_load 4 (some .int) 2 := ⟨⟨all_in5 1 (by decide +kernel) rfl, all_in1 6 (by decide +kernel) rfl, ⟨by decide, by decide⟩, by decide +kernel, all_in4 238 (by decide +kernel) rfl, by decide⟩, all_in5 0 (by decide +kernel) rfl, all_sel 33 (by decide +kernel) rfl⟩
theorem kvL_138 : KV RL 138 yX5_mayBear cX5_mayBear 2 (some .int) 1 := ⟨⟨all_in5 5 (by decide +kernel) rfl, all_in1 6 (by decide +kernel) rfl, ⟨by decide, by decide⟩, by decide +kernel, all_in5 2 (by decide +kernel) rfl, by decide⟩, all_in5 3 (by decide +kernel) rfl, all_in5 4 (by decide +kernel) rfl⟩
theorem kvX5_141 : KV RX5 141 yX5_may cX5_may 2 (some .int) 1 := ⟨⟨all_in5 9 (by decide +kernel) rfl, all_in1 6 (by decide +kernel) rfl, ⟨by decide, by decide⟩, by decide +kernel, all_in5 6 (by decide +kernel) rfl, by decide⟩, all_in5 8 (by decide +kernel) rfl, all_sel 34 (by decide +kernel) rfl⟩
theorem kvL_141 : KV RL 141 yX5_bears cX5_bears 2 (some .int) 1 := ⟨⟨all_in5 13 (by decide +kernel) rfl, all_in1 6 (by decide +kernel) rfl, ⟨by decide, by decide⟩, by decide +kernel, all_in5 10 (by decide +kernel) rfl, by decide⟩, all_in5 11 (by decide +kernel) rfl, all_in5 12 (by decide +kernel) rfl⟩
theorem kvX5_144 : KV RX5 144 yX5_borne cX5_borne 4 (some .int) 1 := ⟨⟨all_in5 17 (by decide +kernel) rfl, all_in1 6 (by decide +kernel) rfl, ⟨by decide, by decide⟩, by decide +kernel, all_in5 14 (by decide +kernel) rfl, by decide⟩, all_in5 16 (by decide +kernel) rfl, all_sel 35 (by decide +kernel) rfl⟩
theorem kvL_144 : KV RL 144 yX5_reason cX5_reason 2 (some .char) 1 := ⟨⟨all_in5 21 (by decide +kernel) rfl, all_in1 6 (by decide +kernel) rfl, ⟨by decide, by decide⟩, by decide +kernel, all_in5 18 (by decide +kernel) rfl, by decide⟩, all_in5 19 (by decide +kernel) rfl, all_in5 20 (by decide +kernel) rfl⟩
theorem kvX5_169 : KV RX5 169 yX5_why cX5_why 2 (some .char) 1 := ⟨⟨all_in5 25 (by decide +kernel) rfl, all_in1 6 (by decide +kernel) rfl, ⟨by decide, by decide⟩, by decide +kernel, all_in5 22 (by decide +kernel) rfl, by decide⟩, all_in5 24 (by decide +kernel) rfl, all_sel 36 (by decide +kernel) rfl⟩
theorem kvX5_160 : KV RX5 160 yX5_lacks cX5_lacks 3 (some .boolean) 1 := ⟨⟨all_in5 29 (by decide +kernel) rfl, all_in1 6 (by decide +kernel) rfl, ⟨by decide, by decide⟩, by decide +kernel, all_in5 26 (by decide +kernel) rfl, by decide⟩, all_in5 28 (by decide +kernel) rfl, all_sel 37 (by decide +kernel) rfl⟩
theorem kvX5_163 : KV RX5 163 yX5_isTooMuch cX5_isTooMuch 2 (some .boolean) 1 := ⟨⟨all_in5 33 (by decide +kernel) rfl, all_in1 6 (by decide +kernel) rfl, ⟨by decide, by decide⟩, by decide +kernel, all_in5 30 (by decide +kernel) rfl, by decide⟩, all_in5 32 (by decide +kernel) rfl, all_sel 38 (by decide +kernel) rfl⟩
theorem kvX5_166 : KV RX5 166 yX5_beginNext cX5_beginNext 4 (some .int) 1 := ⟨⟨all_in5 37 (by decide +kernel) rfl, all_in1 6 (by decide +kernel) rfl, ⟨by decide, by decide⟩, by decide +kernel, all_in5 34 (by decide +kernel) rfl, by decide⟩, all_in5 36 (by decide +kernel) rfl, all_sel 39 (by decide +kernel) rfl⟩
theorem kvX5_150 : KV RX5 150 yX5_lastEnd cX5_lastEnd 1 (some .int) 0 := ⟨⟨all_in5 41 (by decide +kernel) rfl, all_in1 6 (by decide +kernel) rfl, ⟨by decide, by decide⟩, by decide +kernel, all_in5 38 (by decide +kernel) rfl, by decide⟩, all_in5 40 (by decide +kernel) rfl, all_sel 40 (by decide +kernel) rfl⟩
theorem kvX5_147 : KV RX5 147 yX5_endOf cX5_endOf 2 (some .int) 1 := ⟨⟨all_in5 45 (by decide +kernel) rfl, all_in1 6 (by decide +kernel) rfl, ⟨by decide, by decide⟩, by decide +kernel, all_in5 42 (by decide +kernel) rfl, by decide⟩, all_in5 44 (by decide +kernel) rfl, all_sel 41 (by decide +kernel) rfl⟩
theorem kvX5_157 : KV RX5 157 yX5_isAnew cX5_isAnew 2 (some .boolean) 1 := ⟨⟨all_in5 49 (by decide +kernel) rfl, all_in1 6 (by decide +kernel) rfl, ⟨by decide, by decide⟩, by decide +kernel, all_in5 46 (by decide +kernel) rfl, by decide⟩, all_in5 48 (by decide +kernel) rfl, all_sel 42 (by decide +kernel) rfl⟩
theorem kvX5_154 : KV RX5 154 yX5_lastWork cX5_lastWork 1 (some .int) 0 := ⟨⟨all_in5 53 (by decide +kernel) rfl, all_in1 6 (by decide +kernel) rfl, ⟨by decide, by decide⟩, by decide +kernel, all_in5 50 (by decide +kernel) rfl, by decide⟩, all_in5 52 (by decide +kernel) rfl, all_sel 43 (by decide +kernel) rfl⟩
theorem kvL_147 : KV RL 147 yX5_hang cX5_hang 2 (some .int) 1 := ⟨⟨all_in5 57 (by decide +kernel) rfl, all_in1 6 (by decide +kernel) rfl, ⟨by decide, by decide⟩, by decide +kernel, all_in5 54 (by decide +kernel) rfl, by decide⟩, all_in5 55 (by decide +kernel) rfl, all_in5 56 (by decide +kernel) rfl⟩
theorem kvX5_173 : KV RX5 173 yX5_hangs cX5_hangs 3 none 1 := ⟨⟨all_in5 61 (by decide +kernel) rfl, all_in1 6 (by decide +kernel) rfl, ⟨by decide, by decide⟩, by decide +kernel, all_in5 58 (by decide +kernel) rfl, by decide⟩, all_in5 60 (by decide +kernel) rfl, all_sel 44 (by decide +kernel) rfl⟩
theorem kvL_150 : KV RL 150 yX5_takeDown cX5_takeDown 1 (some .int) 0 := ⟨⟨all_in5 65 (by decide +kernel) rfl, all_in1 6 (by decide +kernel) rfl, ⟨by decide, by decide⟩, by decide +kernel, all_in5 62 (by decide +kernel) rfl, by decide⟩, all_in5 63 (by decide +kernel) rfl, all_in5 64 (by decide +kernel) rfl⟩
theorem kvL_154 : KV RL 154 yX5_hung cX5_hung 1 (some .int) 0 := ⟨⟨all_in5 69 (by decide +kernel) rfl, all_in1 6 (by decide +kernel) rfl, ⟨by decide, by decide⟩, by decide +kernel, all_in5 66 (by decide +kernel) rfl, by decide⟩, all_in5 67 (by decide +kernel) rfl, all_in5 68 (by decide +kernel) rfl⟩
theorem kvX5_177 : KV RX5 177 yX5_tells cX5_tells 2 (some .int) 1 := ⟨⟨all_in5 73 (by decide +kernel) rfl, all_in1 6 (by decide +kernel) rfl, ⟨by decide, by decide⟩, by decide +kernel, all_in5 70 (by decide +kernel) rfl, by decide⟩, all_in5 72 (by decide +kernel) rfl, all_sel 45 (by decide +kernel) rfl⟩
theorem kvL_157 : KV RL 157 yX5_hungAt cX5_hungAt 2 (some .int) 1 := ⟨⟨all_in5 77 (by decide +kernel) rfl, all_in1 6 (by decide +kernel) rfl, ⟨by decide, by decide⟩, by decide +kernel, all_in5 74 (by decide +kernel) rfl, by decide⟩, all_in5 75 (by decide +kernel) rfl, all_in5 76 (by decide +kernel) rfl⟩
theorem kvL_160 : KV RL 160 yX5_beginOf cX5_beginOf 2 (some .int) 1 := ⟨⟨all_in5 81 (by decide +kernel) rfl, all_in1 6 (by decide +kernel) rfl, ⟨by decide, by decide⟩, by decide +kernel, all_in5 78 (by decide +kernel) rfl, by decide⟩, all_in5 79 (by decide +kernel) rfl, all_in5 80 (by decide +kernel) rfl⟩
theorem kvL_164 : KV RL 164 yX5_end cX5_end 1 (some .int) 0 := ⟨⟨all_in5 85 (by decide +kernel) rfl, all_in1 6 (by decide +kernel) rfl, ⟨by decide, by decide⟩, by decide +kernel, all_in5 82 (by decide +kernel) rfl, by decide⟩, all_in5 83 (by decide +kernel) rfl, all_in5 84 (by decide +kernel) rfl⟩
theorem kvL_168 : KV RL 168 yX5_work cX5_work 1 (some .int) 0 := ⟨⟨all_in5 89 (by decide +kernel) rfl, all_in1 6 (by decide +kernel) rfl, ⟨by decide, by decide⟩, by decide +kernel, all_in5 86 (by decide +kernel) rfl, by decide⟩, all_in5 87 (by decide +kernel) rfl, all_in5 88 (by decide +kernel) rfl⟩
theorem kvL_173 : KV RL 173 yX5_cost cX5_cost 1 (some .long) 0 := ⟨⟨all_in5 93 (by decide +kernel) rfl, all_in1 6 (by decide +kernel) rfl, ⟨by decide, by decide⟩, by decide +kernel, all_in5 90 (by decide +kernel) rfl, by decide⟩, all_in5 91 (by decide +kernel) rfl, all_in5 92 (by decide +kernel) rfl⟩
theorem kvX5_183 : KV RX5 183 yX5_told cX5_told 1 (some .long) 0 := ⟨⟨all_in5 97 (by decide +kernel) rfl, all_in1 6 (by decide +kernel) rfl, ⟨by decide, by decide⟩, by decide +kernel, all_in5 94 (by decide +kernel) rfl, by decide⟩, all_in5 96 (by decide +kernel) rfl, all_sel 46 (by decide +kernel) rfl⟩
theorem kvX5_180 : KV RX5 180 yX5_costs cX5_costs 5 (some .int) 0 := ⟨⟨all_in5 101 (by decide +kernel) rfl, all_in1 6 (by decide +kernel) rfl, ⟨by decide, by decide⟩, by decide +kernel, all_in5 98 (by decide +kernel) rfl, by decide⟩, all_in5 100 (by decide +kernel) rfl, all_sel 47 (by decide +kernel) rfl⟩
theorem kvL_177 : KV RL 177 yX5_costByMinutes cX5_costByMinutes 1 (some .long) 0 := ⟨⟨all_in5 105 (by decide +kernel) rfl, all_in1 6 (by decide +kernel) rfl, ⟨by decide, by decide⟩, by decide +kernel, all_in5 102 (by decide +kernel) rfl, by decide⟩, all_in5 103 (by decide +kernel) rfl, all_in5 104 (by decide +kernel) rfl⟩
theorem kvL_181 : KV RL 181 yX5_bestWorth cX5_bestWorth 1 (some .int) 0 := ⟨⟨all_in5 109 (by decide +kernel) rfl, all_in1 6 (by decide +kernel) rfl, ⟨by decide, by decide⟩, by decide +kernel, all_in5 106 (by decide +kernel) rfl, by decide⟩, all_in5 107 (by decide +kernel) rfl, all_in5 108 (by decide +kernel) rfl⟩
theorem kvX5_215 : KV RX5 215 yX5_bestOf cX5_bestOf 2 (some .int) 1 := ⟨⟨all_in5 113 (by decide +kernel) rfl, all_in1 6 (by decide +kernel) rfl, ⟨by decide, by decide⟩, by decide +kernel, all_in5 110 (by decide +kernel) rfl, by decide⟩, all_in5 112 (by decide +kernel) rfl, all_sel 48 (by decide +kernel) rfl⟩
theorem kvX5_212 : KV RX5 212 yX5_searches cX5_searches 1 none 0 := ⟨⟨all_in5 117 (by decide +kernel) rfl, all_in1 6 (by decide +kernel) rfl, ⟨by decide, by decide⟩, by decide +kernel, all_in5 114 (by decide +kernel) rfl, by decide⟩, all_in5 116 (by decide +kernel) rfl, all_sel 49 (by decide +kernel) rfl⟩
theorem kvX5_209 : KV RX5 209 yX5_tries cX5_tries 2 none 0 := ⟨⟨all_in5 121 (by decide +kernel) rfl, all_in1 6 (by decide +kernel) rfl, ⟨by decide, by decide⟩, by decide +kernel, all_in5 118 (by decide +kernel) rfl, by decide⟩, all_in5 120 (by decide +kernel) rfl, all_sel 50 (by decide +kernel) rfl⟩
theorem kvX5_202 : KV RX5 202 yX5_isBetter cX5_isBetter 1 (some .boolean) 0 := ⟨⟨all_in5 125 (by decide +kernel) rfl, all_in1 6 (by decide +kernel) rfl, ⟨by decide, by decide⟩, by decide +kernel, all_in5 122 (by decide +kernel) rfl, by decide⟩, all_in5 124 (by decide +kernel) rfl, all_sel 51 (by decide +kernel) rfl⟩
theorem kvX5_190 : KV RX5 190 yX5_worth cX5_worth 3 (some .int) 0 := ⟨⟨all_in5 129 (by decide +kernel) rfl, all_in1 6 (by decide +kernel) rfl, ⟨by decide, by decide⟩, by decide +kernel, all_in5 126 (by decide +kernel) rfl, by decide⟩, all_in5 128 (by decide +kernel) rfl, all_sel 52 (by decide +kernel) rfl⟩
theorem kvL_185 : KV RL 185 yX5_bestByAll cX5_bestByAll 1 (some .int) 0 := ⟨⟨all_in5 133 (by decide +kernel) rfl, all_in1 6 (by decide +kernel) rfl, ⟨by decide, by decide⟩, by decide +kernel, all_in5 130 (by decide +kernel) rfl, by decide⟩, all_in5 131 (by decide +kernel) rfl, all_in5 132 (by decide +kernel) rfl⟩
theorem kvL_189 : KV RL 189 yX5_bestEnd cX5_bestEnd 1 (some .int) 0 := ⟨⟨all_in5 137 (by decide +kernel) rfl, all_in1 6 (by decide +kernel) rfl, ⟨by decide, by decide⟩, by decide +kernel, all_in5 134 (by decide +kernel) rfl, by decide⟩, all_in5 135 (by decide +kernel) rfl, all_in5 136 (by decide +kernel) rfl⟩
theorem kvL_193 : KV RL 193 yX5_bestCost cX5_bestCost 1 (some .int) 0 := ⟨⟨all_in5 141 (by decide +kernel) rfl, all_in1 6 (by decide +kernel) rfl, ⟨by decide, by decide⟩, by decide +kernel, all_in5 138 (by decide +kernel) rfl, by decide⟩, all_in5 139 (by decide +kernel) rfl, all_in5 140 (by decide +kernel) rfl⟩
theorem kvL_197 : KV RL 197 yX5_bestSize cX5_bestSize 1 (some .int) 0 := ⟨⟨all_in5 145 (by decide +kernel) rfl, all_in1 6 (by decide +kernel) rfl, ⟨by decide, by decide⟩, by decide +kernel, all_in5 142 (by decide +kernel) rfl, by decide⟩, all_in5 143 (by decide +kernel) rfl, all_in5 144 (by decide +kernel) rfl⟩
theorem kvL_200 : KV RL 200 yX5_bestAt cX5_bestAt 2 (some .int) 1 := ⟨⟨all_in5 149 (by decide +kernel) rfl, all_in1 6 (by decide +kernel) rfl, ⟨by decide, by decide⟩, by decide +kernel, all_in5 146 (by decide +kernel) rfl, by decide⟩, all_in5 147 (by decide +kernel) rfl, all_in5 148 (by decide +kernel) rfl⟩
theorem kvL_204 : KV RL 204 yX5_complete cX5_complete 2 (some .int) 0 := ⟨⟨all_in5 153 (by decide +kernel) rfl, all_in1 6 (by decide +kernel) rfl, ⟨by decide, by decide⟩, by decide +kernel, all_in5 150 (by decide +kernel) rfl, by decide⟩, all_in5 151 (by decide +kernel) rfl, all_in5 152 (by decide +kernel) rfl⟩
theorem kvL_208 : KV RL 208 yX5_completions cX5_completions 1 (some .int) 0 := ⟨⟨all_in5 157 (by decide +kernel) rfl, all_in1 6 (by decide +kernel) rfl, ⟨by decide, by decide⟩, by decide +kernel, all_in5 154 (by decide +kernel) rfl, by decide⟩, all_in5 155 (by decide +kernel) rfl, all_in5 156 (by decide +kernel) rfl⟩
theorem kvL_211 : KV RL 211 yX5_tightest cX5_tightest 3 (some .int) 0 := ⟨⟨all_in5 161 (by decide +kernel) rfl, all_in1 6 (by decide +kernel) rfl, ⟨by decide, by decide⟩, by decide +kernel, all_in5 158 (by decide +kernel) rfl, by decide⟩, all_in5 159 (by decide +kernel) rfl, all_in5 160 (by decide +kernel) rfl⟩
theorem kvL_215 : KV RL 215 yX5_hungShare cX5_hungShare 1 (some .float) 0 := ⟨⟨all_in5 165 (by decide +kernel) rfl, all_in1 6 (by decide +kernel) rfl, ⟨by decide, by decide⟩, by decide +kernel, all_in5 162 (by decide +kernel) rfl, by decide⟩, all_in5 163 (by decide +kernel) rfl, all_in5 164 (by decide +kernel) rfl⟩
theorem kvL_218 : KV RL 218 yX5_meanLoad cX5_meanLoad 3 (some .double) 0 := ⟨⟨all_in5 169 (by decide +kernel) rfl, all_in1 6 (by decide +kernel) rfl, ⟨by decide, by decide⟩, by decide +kernel, all_in5 166 (by decide +kernel) rfl, by decide⟩, all_in5 167 (by decide +kernel) rfl, all_in5 168 (by decide +kernel) rfl⟩
theorem kvL_223 : KV RL 223 yX5_isSound cX5_isSound 2 (some .boolean) 0 := ⟨⟨all_in5 173 (by decide +kernel) rfl, all_in1 6 (by decide +kernel) rfl, ⟨by decide, by decide⟩, by decide +kernel, all_in5 170 (by decide +kernel) rfl, by decide⟩, all_in5 171 (by decide +kernel) rfl, all_in5 172 (by decide +kernel) rfl⟩
end
section
/-! THE WORLD OF THIS CLAIM: sixty-eight cells that never move: the desk (0 to 40), the reference (41 to 65), the law's two rows (66, 67). What they hold: sg, a number for each cell and place; the two rows of the law: ot. -/
abbrev Sg : Type := Nat → Nat → Int32
abbrev Ot : Type := Int64 × UInt64
abbrev Lk : Type := (Nat × List Nat) ⊕ (Nat × Nat × Nat)
abbrev ix (x : Int32) : Nat := x.toNatClampNeg
def up (sg : Sg) (c k : Nat) (v : Int32) : Sg := fun c1 k1 => if c1 = c ∧ k1 = k then v else sg c1 k1
/-- the layout: an object: its class's place in vwCl, for each field 0: a number, 1: a town or null, d + 2: the cell d; a row: its kind, its length, the first cell that it names -/
def lay (c : Nat) : Lk :=
  if c < 23 then
    (match c with
    | 0 => .inl (6, [3, 4, 5, 6, 7, 13, 19, 0, 0, 0, 1, 0, 0])
    | 1 => .inr (2, 8, 23)
    | 2 => .inr (3, 6, 31)
    | 3 => .inr (4, 4, 37)
    | 4 => .inr (0, 3, 0)
    | 5 => .inl (4, [8, 9, 10, 11, 12, 0, 0, 0])
    | 10 => .inr (0, 8, 0)
    | 11 => .inl (4, [14, 15, 16, 17, 18, 0, 0, 0])
    | 16 => .inr (0, 8, 0)
    | 17 => .inl (4, [20, 21, 22, 23, 24, 0, 0, 0])
    | 22 => .inr (0, 8, 0)
    | _ => .inr (0, 6, 0))
  else if c < 31 then .inl (3, [0, 0])
  else if c < 37 then .inl (2, [0, 0, 0, 0, 0, 0, 0, 0, 0])
  else if c < 41 then .inl (5, [0, 0, 0, 0, 0, 0, 0, 0])
  else
    (match c with
    | 41 => .inl (7, [0, 44, 45, 0, 46, 47, 48, 49, 50, 51, 52, 53, 54, 55, 56, 0, 57, 58, 59, 60, 61, 62, 63, 0, 0, 64, 65, 66, 0, 0, 0, 0, 0, 67, 0])
    | 42 => .inr (0, 8, 0)
    | 43 => .inr (0, 8, 0)
    | 48 => .inr (1, 6, 0)
    | 54 => .inr (0, 3, 0)
    | 55 => .inr (0, 4, 0)
    | 56 => .inr (0, 4, 0)
    | 57 => .inr (0, 4, 0)
    | 58 => .inr (0, 4, 0)
    | 59 => .inr (0, 4, 0)
    | 60 => .inr (0, 4, 0)
    | 61 => .inr (0, 4, 0)
    | 66 => .inr (5, 1, 0)
    | 67 => .inr (6, 1, 0)
    | _ => .inr (0, 6, 0))
def pres (g : Nat → Nat) (x : Int32) : Value := if x < 0 then .null else .ref (g (37 + ix x))
def slv (g : Nat → Nat) (x : Int32) (code : Nat) : Value := match code with
  | 0 => .int x
  | 1 => pres g x
  | d + 2 => .ref (g d)
/-- the fields of an object, from the place k on -/
def sls (g : Nat → Nat) (f : Nat → Int32) : Nat → List Nat → List Value
  | _, [] => []
  | k, code :: r => slv g (f k) code :: sls g f (k + 1) r
def arc (g : Nat → Nat) (f : Nat → Int32) (o : Ot) (ty b : Nat) : (Nat → Int32) ⊕ (Nat → Int64) ⊕ (Nat → UInt32) ⊕ (Nat → UInt64) ⊕ (Nat → Option Nat) :=
  if ty < 2 then .inl f else if ty < 5 then .inr (.inr (.inr (.inr (fun j => some (g (b + j)))))) else if ty = 5 then .inr (.inl (fun _ => o.1)) else .inr (.inr (.inr (.inl (fun _ => o.2))))
def ent (g : Nat → Nat) (K : Nat → ClassId) (sg : Sg) (o : Ot) (c : Nat) : va_E := match lay c with
  | .inl (ci, sl) => .inr (ci, sls g (sg c) 0 sl)
  | .inr (ty, n, b) => .inl (K ty, n, arc g (sg c) o ty b)
def wls (g : Nat → Nat) (K : Nat → ClassId) (sg : Sg) (o : Ot) : va_W := (List.range 68).map (fun c => (g c, ent g K sg o c))
def tyl (K : Nat → ClassId) : List (ClassId × FieldType) := [(K 0, .int), (K 1, .boolean), (K 2, .object RX1), (K 3, .object RX0), (K 4, .object RX3), (K 5, .long), (K 6, .double)]
def inG (g : Nat → Nat) (q : Nat) : Prop := ∃ c, c < 68 ∧ q = g c
def apG (g : Nat → Nat) : Prop := ∀ i j, i < 68 → j < 68 → g i = g j → i = j
theorem wls_at {g : Nat → Nat} {K : Nat → ClassId} {sg : Sg} {o : Ot} {c : Nat} (h : c < 68) : (wls g K sg o)[c]? = some (g c, ent g K sg o c) := by
  unfold wls
  rw [List.getElem?_map, List.getElem?_range h]
  rfl
theorem wls_len {g : Nat → Nat} {K : Nat → ClassId} {sg : Sg} {o : Ot} : (wls g K sg o).length = 68 := by
  unfold wls
  rw [List.length_map, List.length_range]
theorem wls_set {g : Nat → Nat} {K : Nat → ClassId} {sg sg1 : Sg} {o o1 : Ot} {c : Nat} (h : c < 68) (hne : ∀ c1, c1 < 68 → c1 ≠ c → ent g K sg1 o1 c1 = ent g K sg o c1) : (wls g K sg o).set c (g c, ent g K sg1 o1 c) = wls g K sg1 o1 := by
  refine List.ext_getElem? fun i => ?_
  by_cases hi : i < 68
  · by_cases hc : i = c
    · subst hc
      rw [List.getElem?_set_self (by rw [wls_len]; exact h), wls_at h]
    · rw [List.getElem?_set_ne (Ne.symm hc), wls_at hi, wls_at hi, hne i hi hc]
  · rw [List.getElem?_eq_none (by rw [List.length_set, wls_len]; omega), List.getElem?_eq_none (by rw [wls_len]; omega)]
theorem wls_D {g : Nat → Nat} {K : Nat → ClassId} {sg : Sg} {o : Ot} {A : Nat → Prop} (hg : apG g) (hA : ∀ q, inG g q → A q) : va_D A (wls g K sg o) := by
  have hlt : ∀ (i : Nat) (p : Nat × va_E), (wls g K sg o)[i]? = some p → i < 68 ∧ p.1 = g i := by
    intro i p hp
    have hi : i < 68 := by
      have := (List.getElem?_eq_some_iff.mp hp).1
      rwa [wls_len] at this
    rw [wls_at hi] at hp
    cases hp
    exact ⟨hi, rfl⟩
  refine ⟨fun i j p q hi hj h => ?_, fun k q hk => ?_⟩
  · obtain ⟨h1, e1⟩ := hlt i p hi
    obtain ⟨h2, e2⟩ := hlt j q hj
    exact hg i j h1 h2 (by rw [← e1, ← e2]; exact h)
  · obtain ⟨h1, e1⟩ := hlt k q hk
    exact hA _ ⟨k, h1, e1⟩
theorem sls_at {g : Nat → Nat} {f : Nat → Int32} : ∀ (sl : List Nat) (k0 k code : Nat), sl[k]? = some code → (sls g f k0 sl)[k]? = some (slv g (f (k0 + k)) code)
  | [], _, k, _, h => by simp at h
  | c :: r, k0, 0, code, h => by
    rw [List.getElem?_cons_zero] at h
    cases h
    rfl
  | c :: r, k0, k + 1, code, h => by
    rw [List.getElem?_cons_succ] at h
    have := sls_at (g := g) (f := f) r (k0 + 1) k code h
    rw [show k0 + (k + 1) = k0 + 1 + k by omega]
    exact this
theorem sls_len {g : Nat → Nat} {f : Nat → Int32} : ∀ (sl : List Nat) (k0 : Nat), (sls g f k0 sl).length = sl.length
  | [], _ => rfl
  | _ :: r, k0 => congrArg (· + 1) (sls_len r (k0 + 1))
theorem sls_set {g : Nat → Nat} {f f1 : Nat → Int32} : ∀ (sl : List Nat) (k0 k code : Nat), sl[k]? = some code → (∀ j, j ≠ k0 + k → f1 j = f j) → (sls g f k0 sl).set k (slv g (f1 (k0 + k)) code) = sls g f1 k0 sl
  | [], _, k, _, h, _ => by simp at h
  | c :: r, k0, 0, code, h, hf => by
    rw [List.getElem?_cons_zero] at h
    cases h
    have e : ∀ (r : List Nat) (q : Nat), k0 < q → sls g f q r = sls g f1 q r := by
      intro r
      induction r with
      | nil => intro q _; rfl
      | cons a r ih => intro q hq; show slv g (f q) a :: _ = slv g (f1 q) a :: _; rw [hf q (by omega), ih (q + 1) (by omega)]
    show slv g (f1 (k0 + 0)) c :: sls g f (k0 + 1) r = slv g (f1 k0) c :: sls g f1 (k0 + 1) r
    rw [e r (k0 + 1) (by omega), Nat.add_zero]
  | c :: r, k0, k + 1, code, h, hf => by
    rw [List.getElem?_cons_succ] at h
    show slv g (f k0) c :: (sls g f (k0 + 1) r).set k (slv g (f1 (k0 + (k + 1))) code) = slv g (f1 k0) c :: sls g f1 (k0 + 1) r
    rw [show k0 + (k + 1) = k0 + 1 + k by omega] at hf ⊢
    rw [sls_set r (k0 + 1) k code h hf, hf k0 (by omega)]
theorem ent_ne {g : Nat → Nat} {K : Nat → ClassId} {sg : Sg} {o : Ot} {c k : Nat} {v : Int32} (c1 : Nat) (h : c1 ≠ c) : ent g K (up sg c k v) o c1 = ent g K sg o c1 := by
  have e : up sg c k v c1 = sg c1 := by
    funext j
    simp [up, h]
  unfold ent
  rw [e]
theorem up_row {sg : Sg} {c k : Nat} {v : Int32} : up sg c k v c = upd (sg c) k v := by
  funext j
  simp [up, upd]
theorem up_at {sg : Sg} {c k : Nat} {v : Int32} : up sg c k v c k = v := by simp [up]
theorem up_ne {sg : Sg} {c k : Nat} {v : Int32} (c1 k1 : Nat) (h : c1 ≠ c ∨ k1 ≠ k) : up sg c k v c1 k1 = sg c1 k1 := by
  simp only [up]
  rw [if_neg]
  rintro ⟨h1, h2⟩
  rcases h with h | h
  · exact h h1
  · exact h h2
/-! the frame of a walk, as one thing -/
abbrev Cx : Type := Program × Launch × Env × Room × State × MethodId × Array Value × List Frame × Method × Code × va_G × (Nat → ClassId) × (Nat → Nat) × (Nat → Prop) × (State → Prop)
abbrev xp (X : Cx) : Program := X.1
abbrev xl (X : Cx) : Launch := X.2.1
abbrev xe (X : Cx) : Env := X.2.2.1
abbrev xR (X : Cx) : Room := X.2.2.2.1
abbrev xs_ (X : Cx) : State := X.2.2.2.2.1
abbrev xm (X : Cx) : MethodId := X.2.2.2.2.2.1
abbrev xa (X : Cx) : Array Value := X.2.2.2.2.2.2.1
abbrev xb (X : Cx) : List Frame := X.2.2.2.2.2.2.2.1
abbrev xh (X : Cx) : Method := X.2.2.2.2.2.2.2.2.1
abbrev xc (X : Cx) : Code := X.2.2.2.2.2.2.2.2.2.1
abbrev xD (X : Cx) : va_G := X.2.2.2.2.2.2.2.2.2.2.1
abbrev xK (X : Cx) : Nat → ClassId := X.2.2.2.2.2.2.2.2.2.2.2.1
abbrev xg (X : Cx) : Nat → Nat := X.2.2.2.2.2.2.2.2.2.2.2.2.1
abbrev xA (X : Cx) : Nat → Prop := X.2.2.2.2.2.2.2.2.2.2.2.2.2.1
abbrev xQ (X : Cx) : State → Prop := X.2.2.2.2.2.2.2.2.2.2.2.2.2.2
abbrev WW (X : Cx) (H : Heap) (locs : List Loc) (a b : Nat) (g : JFrame) : Prop := W (xp X) (xl X) (xe X) (xR X) (xs_ X) (xm X) (xa X) (xb X) (xh X) (xc X) H locs a b (xQ X) g
abbrev Wd (D : va_G) (K : Nat → ClassId) (g : Nat → Nat) (sg : Sg) (o : Ot) (H : Heap) : Prop := va_P D vwCl (wls g K sg o) H
/-- FROM HERE ON IT ENDS WELL: at pc, with these locals and this stack, in every heap that holds sg -/
def V (X : Cx) (a b nL : Nat) (sg : Sg) (o : Ot) (lo : List (Nat × Value)) (pc : Nat) (st : List Value) : Prop :=
  ∀ (H : Heap) (locs : List Loc) (ls : Array Slot), Wd (xD X) (xK X) (xg X) sg o H → va_S (xA X) (xs_ X).heap H locs → lv_has ls nL lo → WW X H locs a b (F0 (xm X) pc ls st)
/-- what holds all along a walk -/
def CF (X : Cx) (cc : ByteArray) (own : String) (nL rk mc ms : Nat) : Prop :=
  (xp X).tables.exec = Jvm.exec ∧ (xc X).code = cc ∧ (xc X).maxLocals = nL ∧ (xs_ X).vm.findClass own = some (xm X).cls ∧ (∀ w ∈ ALL, w.before (xa X) (xs_ X) = true) ∧ va_K (xD X) vwCl (tyl (xK X)) (xs_ X) ∧ apG (xg X) ∧ (∀ q, inG (xg X) q → xA X q) ∧
  (rk ≤ (xR X).frames ∧ 40 * rk ≤ (xR X).locals ∧ mc ≤ (xR X).cells ∧ ms ≤ (xR X).slots) ∧ (xh X).locks = false
section VR
variable {X : Cx} {cc : ByteArray} {own : String} {a b nL rk mc ms : Nat} {sg : Sg} {o : Ot} {lo : List (Nat × Value)} {pc pc1 : Nat} {st : List Value}
theorem v_sub {lo1 : List (Nat × Value)} (ks : List Nat) (h : lv_pick lo ks = lo1) (k : V X a b nL sg o lo1 pc st) : V X a b nL sg o lo pc st := fun H locs ls hP hS hl => k H locs ls hP hS (lv_sub hl ks h)
theorem v_eq {sg1 : Sg} {lo1 : List (Nat × Value)} {st1 : List Value} (h1 : sg = sg1) (h2 : lo = lo1) (h3 : st = st1) (k : V X a b nL sg1 o lo1 pc st1) : V X a b nL sg o lo pc st := by
  subst h1; subst h2; subst h3; exact k
theorem v_topi {x : Int32} (k : ∀ y : Int32, y = x → V X a b nL sg o lo pc (.int y :: st)) : V X a b nL sg o lo pc (.int x :: st) := k x rfl
theorem v_iconst (C : CF X cc own nL rk mc ms) {n : Int} {v : Int32} (d : decode cc pc = .ok (.iconst n, 1)) (hv : Int32.ofInt n = v) (hp : pc + 1 = pc1) (k : V X a b nL sg o lo pc1 (.int v :: st)) : V X a b nL sg o lo pc st := by
  subst hp; exact fun H locs ls hP hS hl => lv_iconst C.1 C.2.1 d hv (k H locs ls hP hS hl)
theorem v_bipush (C : CF X cc own nL rk mc ms) {n : Int} {v : Int32} (d : decode cc pc = .ok (.bipush n, 2)) (hv : (Int8.ofInt n).toInt32 = v) (hp : pc + 2 = pc1) (k : V X a b nL sg o lo pc1 (.int v :: st)) : V X a b nL sg o lo pc st := by
  subst hp; exact fun H locs ls hP hS hl => lv_bipush C.1 C.2.1 d hv (k H locs ls hP hS hl)
theorem v_sipush (C : CF X cc own nL rk mc ms) {n : Int} {v : Int32} (d : decode cc pc = .ok (.sipush n, 3)) (hv : (Int16.ofInt n).toInt32 = v) (hp : pc + 3 = pc1) (k : V X a b nL sg o lo pc1 (.int v :: st)) : V X a b nL sg o lo pc st := by
  subst hp; exact fun H locs ls hP hS hl => lv_sipush C.1 C.2.1 d hv (k H locs ls hP hS hl)
theorem v_lconst (C : CF X cc own nL rk mc ms) {n : Fin 2} {v : Int64} (d : decode cc pc = .ok (.lconst n, 1)) (hv : Int64.ofNat (n : Nat) = v) (hp : pc + 1 = pc1) (k : V X a b nL sg o lo pc1 (.long v :: st)) : V X a b nL sg o lo pc st := by
  subst hp; exact fun H locs ls hP hS hl => lv_lconst C.1 C.2.1 d hv (k H locs ls hP hS hl)
theorem v_iload_n (C : CF X cc own nL rk mc ms) {n : Fin 4} {i j : Nat} {x : Int32} (d : decode cc pc = .ok (.iload_n n, 1)) (hi : (n : Nat) = i) (hj : lo[j]? = some (i, .int x)) (hp : pc + 1 = pc1) (k : V X a b nL sg o lo pc1 (.int x :: st)) : V X a b nL sg o lo pc st := by
  subst hp; exact fun H locs ls hP hS hl => lv_iload_n C.1 C.2.1 d hi (lv_at hl j hj) (k H locs ls hP hS hl)
theorem v_iload (C : CF X cc own nL rk mc ms) {i j : Nat} {x : Int32} (d : decode cc pc = .ok (.iload i, 2)) (hj : lo[j]? = some (i, .int x)) (hp : pc + 2 = pc1) (k : V X a b nL sg o lo pc1 (.int x :: st)) : V X a b nL sg o lo pc st := by
  subst hp; exact fun H locs ls hP hS hl => lv_iload C.1 C.2.1 d (lv_at hl j hj) (k H locs ls hP hS hl)
theorem v_aload_n (C : CF X cc own nL rk mc ms) {n : Fin 4} {i j : Nat} {x : Nat} (d : decode cc pc = .ok (.aload_n n, 1)) (hi : (n : Nat) = i) (hj : lo[j]? = some (i, .ref x)) (hp : pc + 1 = pc1) (k : V X a b nL sg o lo pc1 (.ref x :: st)) : V X a b nL sg o lo pc st := by
  subst hp; exact fun H locs ls hP hS hl => lv_aload_n C.1 C.2.1 d hi (lv_at hl j hj) (k H locs ls hP hS hl)
theorem v_aload (C : CF X cc own nL rk mc ms) {i j : Nat} {x : Nat} (d : decode cc pc = .ok (.aload i, 2)) (hj : lo[j]? = some (i, .ref x)) (hp : pc + 2 = pc1) (k : V X a b nL sg o lo pc1 (.ref x :: st)) : V X a b nL sg o lo pc st := by
  subst hp; exact fun H locs ls hP hS hl => lv_aload C.1 C.2.1 d (lv_at hl j hj) (k H locs ls hP hS hl)
theorem v_aload_nN (C : CF X cc own nL rk mc ms) {n : Fin 4} {i j : Nat} (d : decode cc pc = .ok (.aload_n n, 1)) (hi : (n : Nat) = i) (hj : lo[j]? = some (i, .null)) (hp : pc + 1 = pc1) (k : V X a b nL sg o lo pc1 (.null :: st)) : V X a b nL sg o lo pc st := by
  subst hp; exact fun H locs ls hP hS hl => lv_aload_nN C.1 C.2.1 d hi (lv_at hl j hj) (k H locs ls hP hS hl)
theorem v_lload_n (C : CF X cc own nL rk mc ms) {n : Fin 4} {i j : Nat} {x : Int64} (d : decode cc pc = .ok (.lload_n n, 1)) (hi : (n : Nat) = i) (hj : lo[j]? = some (i, .long x)) (hp : pc + 1 = pc1) (k : V X a b nL sg o lo pc1 (.long x :: st)) : V X a b nL sg o lo pc st := by
  subst hp; exact fun H locs ls hP hS hl => lv_lload_n C.1 C.2.1 d hi (lv_at hl j hj) (k H locs ls hP hS hl)
theorem v_fload (C : CF X cc own nL rk mc ms) {i j : Nat} {x : UInt32} (d : decode cc pc = .ok (.fload i, 2)) (hj : lo[j]? = some (i, .float x)) (hp : pc + 2 = pc1) (k : V X a b nL sg o lo pc1 (.float x :: st)) : V X a b nL sg o lo pc st := by
  subst hp; exact fun H locs ls hP hS hl => lv_fload C.1 C.2.1 d (lv_at hl j hj) (k H locs ls hP hS hl)
theorem v_dload (C : CF X cc own nL rk mc ms) {i j : Nat} {x : UInt64} (d : decode cc pc = .ok (.dload i, 2)) (hj : lo[j]? = some (i, .double x)) (hp : pc + 2 = pc1) (k : V X a b nL sg o lo pc1 (.double x :: st)) : V X a b nL sg o lo pc st := by
  subst hp; exact fun H locs ls hP hS hl => lv_dload C.1 C.2.1 d (lv_at hl j hj) (k H locs ls hP hS hl)
theorem v_istore_n (C : CF X cc own nL rk mc ms) {n : Fin 4} {i : Nat} {x : Int32} (lo1 : List (Nat × Value)) (d : decode cc pc = .ok (.istore_n n, 1)) (hi : (n : Nat) = i) (hn : i < nL) (hl1 : (i, Value.int x) :: lo.filter (fun q => !(q.1 == i) && !(q.1 + 1 == i && q.2.category == 2)) = lo1) (hp : pc + 1 = pc1) (k : V X a b nL sg o lo1 pc1 st) : V X a b nL sg o lo pc (.int x :: st) := by
  subst hp; exact fun H locs ls hP hS hl => lv_istore_n C.1 C.2.1 d hi hl hn hl1 (fun ls hl => k H locs ls hP hS hl)
theorem v_istore (C : CF X cc own nL rk mc ms) {i : Nat} {x : Int32} (lo1 : List (Nat × Value)) (d : decode cc pc = .ok (.istore i, 2)) (hn : i < nL) (hl1 : (i, Value.int x) :: lo.filter (fun q => !(q.1 == i) && !(q.1 + 1 == i && q.2.category == 2)) = lo1) (hp : pc + 2 = pc1) (k : V X a b nL sg o lo1 pc1 st) : V X a b nL sg o lo pc (.int x :: st) := by
  subst hp; exact fun H locs ls hP hS hl => lv_istore C.1 C.2.1 d hl hn hl1 (fun ls hl => k H locs ls hP hS hl)
theorem v_astore_n (C : CF X cc own nL rk mc ms) {n : Fin 4} {i : Nat} {x : Nat} (lo1 : List (Nat × Value)) (d : decode cc pc = .ok (.astore_n n, 1)) (hi : (n : Nat) = i) (hn : i < nL) (hl1 : (i, Value.ref x) :: lo.filter (fun q => !(q.1 == i) && !(q.1 + 1 == i && q.2.category == 2)) = lo1) (hp : pc + 1 = pc1) (k : V X a b nL sg o lo1 pc1 st) : V X a b nL sg o lo pc (.ref x :: st) := by
  subst hp; exact fun H locs ls hP hS hl => lv_astore_n C.1 C.2.1 d hi hl hn hl1 (fun ls hl => k H locs ls hP hS hl)
theorem v_astore_nN (C : CF X cc own nL rk mc ms) {n : Fin 4} {i : Nat} (lo1 : List (Nat × Value)) (d : decode cc pc = .ok (.astore_n n, 1)) (hi : (n : Nat) = i) (hn : i < nL) (hl1 : (i, Value.null) :: lo.filter (fun q => !(q.1 == i) && !(q.1 + 1 == i && q.2.category == 2)) = lo1) (hp : pc + 1 = pc1) (k : V X a b nL sg o lo1 pc1 st) : V X a b nL sg o lo pc (.null :: st) := by
  subst hp; exact fun H locs ls hP hS hl => lv_astore_nN C.1 C.2.1 d hi hl hn hl1 (fun ls hl => k H locs ls hP hS hl)
theorem v_astore (C : CF X cc own nL rk mc ms) {i : Nat} {x : Nat} (lo1 : List (Nat × Value)) (d : decode cc pc = .ok (.astore i, 2)) (hn : i < nL) (hl1 : (i, Value.ref x) :: lo.filter (fun q => !(q.1 == i) && !(q.1 + 1 == i && q.2.category == 2)) = lo1) (hp : pc + 2 = pc1) (k : V X a b nL sg o lo1 pc1 st) : V X a b nL sg o lo pc (.ref x :: st) := by
  subst hp; exact fun H locs ls hP hS hl => lv_astore C.1 C.2.1 d hl hn hl1 (fun ls hl => k H locs ls hP hS hl)
theorem v_lstore_n (C : CF X cc own nL rk mc ms) {n : Fin 4} {i : Nat} {x : Int64} (lo1 : List (Nat × Value)) (d : decode cc pc = .ok (.lstore_n n, 1)) (hi : (n : Nat) = i) (hn : i + 1 < nL) (hl1 : (i, Value.long x) :: lo.filter (fun q => !(q.1 == i) && (!(q.1 == i + 1) && !(q.1 + 1 == i && q.2.category == 2))) = lo1) (hp : pc + 1 = pc1) (k : V X a b nL sg o lo1 pc1 st) : V X a b nL sg o lo pc (.long x :: st) := by
  subst hp; exact fun H locs ls hP hS hl => lv_lstore_n C.1 C.2.1 d hi hl hn hl1 (fun ls hl => k H locs ls hP hS hl)
theorem v_dstore (C : CF X cc own nL rk mc ms) {i : Nat} {x : UInt64} (lo1 : List (Nat × Value)) (d : decode cc pc = .ok (.dstore i, 2)) (hn : i + 1 < nL) (hl1 : (i, Value.double x) :: lo.filter (fun q => !(q.1 == i) && (!(q.1 == i + 1) && !(q.1 + 1 == i && q.2.category == 2))) = lo1) (hp : pc + 2 = pc1) (k : V X a b nL sg o lo1 pc1 st) : V X a b nL sg o lo pc (.double x :: st) := by
  subst hp; exact fun H locs ls hP hS hl => lv_dstore C.1 C.2.1 d hl hn hl1 (fun ls hl => k H locs ls hP hS hl)
theorem v_fstore (C : CF X cc own nL rk mc ms) {i : Nat} {x : UInt32} (lo1 : List (Nat × Value)) (d : decode cc pc = .ok (.fstore i, 2)) (hn : i < nL) (hl1 : (i, Value.float x) :: lo.filter (fun q => !(q.1 == i) && !(q.1 + 1 == i && q.2.category == 2)) = lo1) (hp : pc + 2 = pc1) (k : V X a b nL sg o lo1 pc1 st) : V X a b nL sg o lo pc (.float x :: st) := by
  subst hp; exact fun H locs ls hP hS hl => lv_fstore C.1 C.2.1 d hl hn hl1 (fun ls hl => k H locs ls hP hS hl)
theorem v_iinc (C : CF X cc own nL rk mc ms) {i j : Nat} {n : Int} {x v : Int32} (lo1 : List (Nat × Value)) (d : decode cc pc = .ok (.iinc i n, 3)) (hj : lo[j]? = some (i, .int x)) (hv : x + Int32.ofInt n = v) (hn : i < nL) (hl1 : (i, Value.int v) :: lo.filter (fun q => !(q.1 == i) && !(q.1 + 1 == i && q.2.category == 2)) = lo1) (hp : pc + 3 = pc1) (k : V X a b nL sg o lo1 pc1 st) : V X a b nL sg o lo pc st := by
  subst hp; exact fun H locs ls hP hS hl => lv_iinc C.1 C.2.1 d hl hj hv hn hl1 (fun ls hl => k H locs ls hP hS hl)
theorem v_iadd (C : CF X cc own nL rk mc ms) {x y : Int32} (d : decode cc pc = .ok (.iadd, 1)) (hp : pc + 1 = pc1) (k : V X a b nL sg o lo pc1 (.int (x + y) :: st)) : V X a b nL sg o lo pc (.int y :: .int x :: st) := by
  subst hp; exact fun H locs ls hP hS hl => lv_iadd C.1 C.2.1 d (k H locs ls hP hS hl)
theorem v_isub (C : CF X cc own nL rk mc ms) {x y : Int32} (d : decode cc pc = .ok (.isub, 1)) (hp : pc + 1 = pc1) (k : V X a b nL sg o lo pc1 (.int (x - y) :: st)) : V X a b nL sg o lo pc (.int y :: .int x :: st) := by
  subst hp; exact fun H locs ls hP hS hl => lv_isub C.1 C.2.1 d (k H locs ls hP hS hl)
theorem v_imul (C : CF X cc own nL rk mc ms) {x y : Int32} (d : decode cc pc = .ok (.imul, 1)) (hp : pc + 1 = pc1) (k : V X a b nL sg o lo pc1 (.int (x * y) :: st)) : V X a b nL sg o lo pc (.int y :: .int x :: st) := by
  subst hp; exact fun H locs ls hP hS hl => lv_imul C.1 C.2.1 d (k H locs ls hP hS hl)
theorem v_idiv (C : CF X cc own nL rk mc ms) {x y : Int32} (d : decode cc pc = .ok (.idiv, 1)) (hne : ¬ y = 0) (hp : pc + 1 = pc1) (k : V X a b nL sg o lo pc1 (.int (x / y) :: st)) : V X a b nL sg o lo pc (.int y :: .int x :: st) := by
  subst hp; exact fun H locs ls hP hS hl => lv_idiv C.1 C.2.1 d hne (k H locs ls hP hS hl)
theorem v_iand (C : CF X cc own nL rk mc ms) {x y : Int32} (d : decode cc pc = .ok (.iand, 1)) (hp : pc + 1 = pc1) (k : V X a b nL sg o lo pc1 (.int (x &&& y) :: st)) : V X a b nL sg o lo pc (.int y :: .int x :: st) := by
  subst hp; exact fun H locs ls hP hS hl => lv_iand C.1 C.2.1 d (k H locs ls hP hS hl)
theorem v_ior (C : CF X cc own nL rk mc ms) {x y : Int32} (d : decode cc pc = .ok (.ior, 1)) (hp : pc + 1 = pc1) (k : V X a b nL sg o lo pc1 (.int (x ||| y) :: st)) : V X a b nL sg o lo pc (.int y :: .int x :: st) := by
  subst hp; exact fun H locs ls hP hS hl => lv_ior C.1 C.2.1 d (k H locs ls hP hS hl)
theorem v_ixor (C : CF X cc own nL rk mc ms) {x y : Int32} (d : decode cc pc = .ok (.ixor, 1)) (hp : pc + 1 = pc1) (k : V X a b nL sg o lo pc1 (.int (x ^^^ y) :: st)) : V X a b nL sg o lo pc (.int y :: .int x :: st) := by
  subst hp; exact fun H locs ls hP hS hl => lv_ixor C.1 C.2.1 d (k H locs ls hP hS hl)
theorem v_ishl (C : CF X cc own nL rk mc ms) {x y : Int32} (d : decode cc pc = .ok (.ishl, 1)) (hp : pc + 1 = pc1) (k : V X a b nL sg o lo pc1 (.int (x <<< (y &&& 31)) :: st)) : V X a b nL sg o lo pc (.int y :: .int x :: st) := by
  subst hp; exact fun H locs ls hP hS hl => lv_ishl C.1 C.2.1 d (k H locs ls hP hS hl)
theorem v_ishr (C : CF X cc own nL rk mc ms) {x y : Int32} (d : decode cc pc = .ok (.ishr, 1)) (hp : pc + 1 = pc1) (k : V X a b nL sg o lo pc1 (.int (x >>> (y &&& 31)) :: st)) : V X a b nL sg o lo pc (.int y :: .int x :: st) := by
  subst hp; exact fun H locs ls hP hS hl => lv_ishr C.1 C.2.1 d (k H locs ls hP hS hl)
theorem v_iushr (C : CF X cc own nL rk mc ms) {x y v : Int32} (d : decode cc pc = .ok (.iushr, 1)) (hv : (x.toUInt32 >>> (y.toUInt32 &&& Int32.toUInt32 31)).toInt32 = v) (hp : pc + 1 = pc1) (k : V X a b nL sg o lo pc1 (.int v :: st)) : V X a b nL sg o lo pc (.int y :: .int x :: st) := by
  subst hp; exact fun H locs ls hP hS hl => lv_iushr C.1 C.2.1 d hv (k H locs ls hP hS hl)
theorem v_i2l (C : CF X cc own nL rk mc ms) {x : Int32} (d : decode cc pc = .ok (.i2l, 1)) (hp : pc + 1 = pc1) (k : V X a b nL sg o lo pc1 (.long x.toInt64 :: st)) : V X a b nL sg o lo pc (.int x :: st) := by
  subst hp; exact fun H locs ls hP hS hl => lv_i2l C.1 C.2.1 d rfl (k H locs ls hP hS hl)
theorem v_ladd (C : CF X cc own nL rk mc ms) {x y : Int64} (d : decode cc pc = .ok (.ladd, 1)) (hp : pc + 1 = pc1) (k : V X a b nL sg o lo pc1 (.long (x + y) :: st)) : V X a b nL sg o lo pc (.long y :: .long x :: st) := by
  subst hp; exact fun H locs ls hP hS hl => lv_ladd C.1 C.2.1 d (k H locs ls hP hS hl)
theorem v_i2f (C : CF X cc own nL rk mc ms) {x : Int32} (d : decode cc pc = .ok (.i2f, 1)) (hp : pc + 1 = pc1) (k : V X a b nL sg o lo pc1 (.float (FP.i2f x) :: st)) : V X a b nL sg o lo pc (.int x :: st) := by
  subst hp; exact fun H locs ls hP hS hl => lv_i2f C.1 C.2.1 d (k H locs ls hP hS hl)
theorem v_i2d (C : CF X cc own nL rk mc ms) {x : Int32} (d : decode cc pc = .ok (.i2d, 1)) (hp : pc + 1 = pc1) (k : V X a b nL sg o lo pc1 (.double (FP.i2d x) :: st)) : V X a b nL sg o lo pc (.int x :: st) := by
  subst hp; exact fun H locs ls hP hS hl => lv_i2d C.1 C.2.1 d (k H locs ls hP hS hl)
theorem v_fdiv (C : CF X cc own nL rk mc ms) {x y : UInt32} (d : decode cc pc = .ok (.fdiv, 1)) (hne : vf_n32 (FP.fdiv x y)) (hp : pc + 1 = pc1) (k : V X a b nL sg o lo pc1 (.float (FP.fdiv x y) :: st)) : V X a b nL sg o lo pc (.float y :: .float x :: st) := by
  subst hp; exact fun H locs ls hP hS hl => lv_fdiv C.1 C.2.1 d hne (k H locs ls hP hS hl)
theorem v_ddiv (C : CF X cc own nL rk mc ms) {x y : UInt64} (d : decode cc pc = .ok (.ddiv, 1)) (hne : vf_n64 (FP.ddiv x y)) (hp : pc + 1 = pc1) (k : V X a b nL sg o lo pc1 (.double (FP.ddiv x y) :: st)) : V X a b nL sg o lo pc (.double y :: .double x :: st) := by
  subst hp; exact fun H locs ls hP hS hl => lv_ddiv C.1 C.2.1 d hne (k H locs ls hP hS hl)
theorem v_f2d (C : CF X cc own nL rk mc ms) {x : UInt32} (d : decode cc pc = .ok (.f2d, 1)) (hne : vf_n64 (FP.f2d x)) (hp : pc + 1 = pc1) (k : V X a b nL sg o lo pc1 (.double (FP.f2d x) :: st)) : V X a b nL sg o lo pc (.float x :: st) := by
  subst hp; exact fun H locs ls hP hS hl => lv_f2d C.1 C.2.1 d hne (k H locs ls hP hS hl)
theorem v_fconst0 (C : CF X cc own nL rk mc ms) (d : decode cc pc = .ok (.fconst 0, 1)) (hp : pc + 1 = pc1) (k : V X a b nL sg o lo pc1 (.float 0 :: st)) : V X a b nL sg o lo pc st := by
  subst hp; exact fun H locs ls hP hS hl => lv_fconst0 C.1 C.2.1 d (k H locs ls hP hS hl)
theorem v_dconst0 (C : CF X cc own nL rk mc ms) (d : decode cc pc = .ok (.dconst 0, 1)) (hp : pc + 1 = pc1) (k : V X a b nL sg o lo pc1 (.double 0 :: st)) : V X a b nL sg o lo pc st := by
  subst hp; exact fun H locs ls hP hS hl => lv_dconst0 C.1 C.2.1 d (k H locs ls hP hS hl)
theorem v_dup (C : CF X cc own nL rk mc ms) {v : Value} (d : decode cc pc = .ok (.dup, 1)) (hv : v.category = 1) (hp : pc + 1 = pc1) (k : V X a b nL sg o lo pc1 (v :: v :: st)) : V X a b nL sg o lo pc (v :: st) := by
  subst hp; exact fun H locs ls hP hS hl => lv_dup C.1 C.2.1 d hv (k H locs ls hP hS hl)
theorem v_dup2 (C : CF X cc own nL rk mc ms) {v w : Value} (d : decode cc pc = .ok (.dup2, 1)) (hv : v.category = 1) (hw : w.category = 1) (hp : pc + 1 = pc1) (k : V X a b nL sg o lo pc1 (v :: w :: v :: w :: st)) : V X a b nL sg o lo pc (v :: w :: st) := by
  subst hp; exact fun H locs ls hP hS hl => lv_dup2_11 C.1 C.2.1 d hv hw (k H locs ls hP hS hl)
theorem v_goto (C : CF X cc own nL rk mc ms) {off : Int} (d : decode cc pc = .ok (.goto off, 3)) (ht : (pc : Int) + off = (pc1 : Int)) (k : V X a b nL sg o lo pc1 st) : V X a b nL sg o lo pc st :=
  fun H locs ls hP hS hl => lv_goto C.1 C.2.1 d ht (k H locs ls hP hS hl)
end VR
end
section
section VS
variable {X : Cx} {cc : ByteArray} {own : String} {a b nL rk mc ms : Nat} {sg : Sg} {o : Ot} {lo : List (Nat × Value)} {pc pc1 tgt : Nat} {st : List Value} {off : Int}
theorem v_icmp_eq (C : CF X cc own nL rk mc ms) {x y : Int32} (d : decode cc pc = .ok (.if_icmp .eq off, 3)) (ht : (pc : Int) + off = (tgt : Int)) (hp : pc + 3 = pc1) (kt : x = y → V X a b nL sg o lo tgt st) (kf : ¬ x = y → V X a b nL sg o lo pc1 st) : V X a b nL sg o lo pc (.int y :: .int x :: st) := by
  subst hp; exact fun H locs ls hP hS hl => lv_icmp_eq C.1 C.2.1 d ht (fun h => kt h H locs ls hP hS hl) (fun h => kf h H locs ls hP hS hl)
theorem v_icmp_ne (C : CF X cc own nL rk mc ms) {x y : Int32} (d : decode cc pc = .ok (.if_icmp .ne off, 3)) (ht : (pc : Int) + off = (tgt : Int)) (hp : pc + 3 = pc1) (kt : ¬ x = y → V X a b nL sg o lo tgt st) (kf : x = y → V X a b nL sg o lo pc1 st) : V X a b nL sg o lo pc (.int y :: .int x :: st) := by
  subst hp; exact fun H locs ls hP hS hl => lv_icmp_ne C.1 C.2.1 d ht (fun h => kt h H locs ls hP hS hl) (fun h => kf h H locs ls hP hS hl)
theorem v_icmp_lt (C : CF X cc own nL rk mc ms) {x y : Int32} (d : decode cc pc = .ok (.if_icmp .lt off, 3)) (ht : (pc : Int) + off = (tgt : Int)) (hp : pc + 3 = pc1) (kt : x < y → V X a b nL sg o lo tgt st) (kf : ¬ x < y → V X a b nL sg o lo pc1 st) : V X a b nL sg o lo pc (.int y :: .int x :: st) := by
  subst hp; exact fun H locs ls hP hS hl => lv_icmp_lt C.1 C.2.1 d ht (fun h => kt h H locs ls hP hS hl) (fun h => kf h H locs ls hP hS hl)
theorem v_icmp_ge (C : CF X cc own nL rk mc ms) {x y : Int32} (d : decode cc pc = .ok (.if_icmp .ge off, 3)) (ht : (pc : Int) + off = (tgt : Int)) (hp : pc + 3 = pc1) (kt : ¬ x < y → V X a b nL sg o lo tgt st) (kf : x < y → V X a b nL sg o lo pc1 st) : V X a b nL sg o lo pc (.int y :: .int x :: st) := by
  subst hp; exact fun H locs ls hP hS hl => lv_icmp_ge C.1 C.2.1 d ht (fun h => kt (Int32.not_lt.mpr h) H locs ls hP hS hl) (fun h => kf (Int32.not_le.mp h) H locs ls hP hS hl)
theorem v_icmp_gt (C : CF X cc own nL rk mc ms) {x y : Int32} (d : decode cc pc = .ok (.if_icmp .gt off, 3)) (ht : (pc : Int) + off = (tgt : Int)) (hp : pc + 3 = pc1) (kt : y < x → V X a b nL sg o lo tgt st) (kf : ¬ y < x → V X a b nL sg o lo pc1 st) : V X a b nL sg o lo pc (.int y :: .int x :: st) := by
  subst hp; exact fun H locs ls hP hS hl => lv_icmp_gt C.1 C.2.1 d ht (fun h => kt h H locs ls hP hS hl) (fun h => kf h H locs ls hP hS hl)
theorem v_icmp_le (C : CF X cc own nL rk mc ms) {x y : Int32} (d : decode cc pc = .ok (.if_icmp .le off, 3)) (ht : (pc : Int) + off = (tgt : Int)) (hp : pc + 3 = pc1) (kt : ¬ y < x → V X a b nL sg o lo tgt st) (kf : y < x → V X a b nL sg o lo pc1 st) : V X a b nL sg o lo pc (.int y :: .int x :: st) := by
  subst hp; exact fun H locs ls hP hS hl => lv_icmp_le C.1 C.2.1 d ht (fun h => kt (Int32.not_lt.mpr h) H locs ls hP hS hl) (fun h => kf (Int32.not_le.mp h) H locs ls hP hS hl)
theorem v_if_eq (C : CF X cc own nL rk mc ms) {x : Int32} (d : decode cc pc = .ok (.ifCond .eq off, 3)) (ht : (pc : Int) + off = (tgt : Int)) (hp : pc + 3 = pc1) (kt : x = 0 → V X a b nL sg o lo tgt st) (kf : ¬ x = 0 → V X a b nL sg o lo pc1 st) : V X a b nL sg o lo pc (.int x :: st) := by
  subst hp; exact fun H locs ls hP hS hl => lv_if_eq C.1 C.2.1 d ht (fun h => kt h H locs ls hP hS hl) (fun h => kf h H locs ls hP hS hl)
theorem v_if_ne (C : CF X cc own nL rk mc ms) {x : Int32} (d : decode cc pc = .ok (.ifCond .ne off, 3)) (ht : (pc : Int) + off = (tgt : Int)) (hp : pc + 3 = pc1) (kt : ¬ x = 0 → V X a b nL sg o lo tgt st) (kf : x = 0 → V X a b nL sg o lo pc1 st) : V X a b nL sg o lo pc (.int x :: st) := by
  subst hp; exact fun H locs ls hP hS hl => lv_if_ne C.1 C.2.1 d ht (fun h => kt h H locs ls hP hS hl) (fun h => kf h H locs ls hP hS hl)
theorem v_if_lt (C : CF X cc own nL rk mc ms) {x : Int32} (d : decode cc pc = .ok (.ifCond .lt off, 3)) (ht : (pc : Int) + off = (tgt : Int)) (hp : pc + 3 = pc1) (kt : x < 0 → V X a b nL sg o lo tgt st) (kf : ¬ x < 0 → V X a b nL sg o lo pc1 st) : V X a b nL sg o lo pc (.int x :: st) := by
  subst hp; exact fun H locs ls hP hS hl => lv_if_lt C.1 C.2.1 d ht (fun h => kt h H locs ls hP hS hl) (fun h => kf h H locs ls hP hS hl)
theorem v_if_ge (C : CF X cc own nL rk mc ms) {x : Int32} (d : decode cc pc = .ok (.ifCond .ge off, 3)) (ht : (pc : Int) + off = (tgt : Int)) (hp : pc + 3 = pc1) (kt : ¬ x < 0 → V X a b nL sg o lo tgt st) (kf : x < 0 → V X a b nL sg o lo pc1 st) : V X a b nL sg o lo pc (.int x :: st) := by
  subst hp; exact fun H locs ls hP hS hl => lv_if_ge C.1 C.2.1 d ht (fun h => kt (Int32.not_lt.mpr h) H locs ls hP hS hl) (fun h => kf (Int32.not_le.mp h) H locs ls hP hS hl)
theorem v_if_gt (C : CF X cc own nL rk mc ms) {x : Int32} (d : decode cc pc = .ok (.ifCond .gt off, 3)) (ht : (pc : Int) + off = (tgt : Int)) (hp : pc + 3 = pc1) (kt : 0 < x → V X a b nL sg o lo tgt st) (kf : ¬ 0 < x → V X a b nL sg o lo pc1 st) : V X a b nL sg o lo pc (.int x :: st) := by
  subst hp; exact fun H locs ls hP hS hl => lv_if_gt C.1 C.2.1 d ht (fun h => kt h H locs ls hP hS hl) (fun h => kf h H locs ls hP hS hl)
theorem v_if_le (C : CF X cc own nL rk mc ms) {x : Int32} (d : decode cc pc = .ok (.ifCond .le off, 3)) (ht : (pc : Int) + off = (tgt : Int)) (hp : pc + 3 = pc1) (kt : ¬ 0 < x → V X a b nL sg o lo tgt st) (kf : 0 < x → V X a b nL sg o lo pc1 st) : V X a b nL sg o lo pc (.int x :: st) := by
  subst hp; exact fun H locs ls hP hS hl => lv_if_le C.1 C.2.1 d ht (fun h => kt (Int32.not_lt.mpr h) H locs ls hP hS hl) (fun h => kf (Int32.not_le.mp h) H locs ls hP hS hl)
theorem v_ifnonnull (C : CF X cc own nL rk mc ms) {x : Nat} (d : decode cc pc = .ok (.ifnonnull off, 3)) (ht : (pc : Int) + off = (tgt : Int)) (k : V X a b nL sg o lo tgt st) : V X a b nL sg o lo pc (.ref x :: st) :=
  fun H locs ls hP hS hl => lv_ifnonnull C.1 C.2.1 d ht (k H locs ls hP hS hl)
theorem v_ifnonnullN (C : CF X cc own nL rk mc ms) (d : decode cc pc = .ok (.ifnonnull off, 3)) (hp : pc + 3 = pc1) (k : V X a b nL sg o lo pc1 st) : V X a b nL sg o lo pc (.null :: st) := by
  subst hp; exact fun H locs ls hP hS hl => lv_ifnonnullN C.1 C.2.1 d (k H locs ls hP hS hl)
theorem v_ifnull (C : CF X cc own nL rk mc ms) {x : Nat} (d : decode cc pc = .ok (.ifnull off, 3)) (hp : pc + 3 = pc1) (k : V X a b nL sg o lo pc1 st) : V X a b nL sg o lo pc (.ref x :: st) := by
  subst hp; exact fun H locs ls hP hS hl => lv_ifnull C.1 C.2.1 d (k H locs ls hP hS hl)
theorem v_ifnullN (C : CF X cc own nL rk mc ms) (d : decode cc pc = .ok (.ifnull off, 3)) (ht : (pc : Int) + off = (tgt : Int)) (k : V X a b nL sg o lo tgt st) : V X a b nL sg o lo pc (.null :: st) :=
  fun H locs ls hP hS hl => lv_ifnullN C.1 C.2.1 d ht (k H locs ls hP hS hl)
theorem v_aconst_null (C : CF X cc own nL rk mc ms) (d : decode cc pc = .ok (.aconst_null, 1)) (hp : pc + 1 = pc1) (k : V X a b nL sg o lo pc1 (.null :: st)) : V X a b nL sg o lo pc st := by
  subst hp; exact fun H locs ls hP hS hl => lv_null C.1 C.2.1 d (k H locs ls hP hS hl)
/-- a truth as the machine has it -/
def b2i (P : Prop) [Decidable P] : Int32 := if P then 1 else 0
theorem v_if_eqB (C : CF X cc own nL rk mc ms) {P : Prop} [Decidable P] (d : decode cc pc = .ok (.ifCond .eq off, 3)) (ht : (pc : Int) + off = (tgt : Int)) (hp : pc + 3 = pc1) (kt : ¬ P → V X a b nL sg o lo tgt st) (kf : P → V X a b nL sg o lo pc1 st) : V X a b nL sg o lo pc (.int (b2i P) :: st) := by
  refine v_if_eq C d ht hp (fun h => ?_) (fun h => ?_)
  · by_cases hP : P
    · rw [b2i, if_pos hP] at h; exact absurd h (by decide)
    · exact kt hP
  · by_cases hP : P
    · exact kf hP
    · rw [b2i, if_neg hP] at h; exact absurd rfl h
theorem v_if_neB (C : CF X cc own nL rk mc ms) {P : Prop} [Decidable P] (d : decode cc pc = .ok (.ifCond .ne off, 3)) (ht : (pc : Int) + off = (tgt : Int)) (hp : pc + 3 = pc1) (kt : P → V X a b nL sg o lo tgt st) (kf : ¬ P → V X a b nL sg o lo pc1 st) : V X a b nL sg o lo pc (.int (b2i P) :: st) := by
  refine v_if_ne C d ht hp (fun h => ?_) (fun h => ?_)
  · by_cases hP : P
    · exact kt hP
    · rw [b2i, if_neg hP] at h; exact absurd rfl h
  · by_cases hP : P
    · rw [b2i, if_pos hP] at h; exact absurd h (by decide)
    · exact kf hP
/-! fields -/
theorem ent_o {g : Nat → Nat} {K : Nat → ClassId} {sg : Sg} {o : Ot} {c ci : Nat} {sl : List Nat} (h : lay c = .inl (ci, sl)) : ent g K sg o c = .inr (ci, sls g (sg c) 0 sl) := by
  unfold ent; rw [h]
theorem ent_a {g : Nat → Nat} {K : Nat → ClassId} {sg : Sg} {o : Ot} {c ty n bs : Nat} (h : lay c = .inr (ty, n, bs)) : ent g K sg o c = .inl (K ty, n, arc g (sg c) o ty bs) := by
  unfold ent; rw [h]
theorem lay_lt {c ci : Nat} {sl : List Nat} (h : lay c = .inl (ci, sl)) (hc : c < 68) : c < 68 := hc
theorem v_get (C : CF X cc own nL rk mc ms) {idx ci k c code : Nat} {sl : List Nat} (F : FL own idx ci k) (hc : c < 68) (hy : lay c = .inl (ci, sl)) (hs : sl[k]? = some code) (d : decode cc pc = .ok (.getfield idx, 3)) (hp : pc + 3 = pc1) (kk : V X a b nL sg o lo pc1 (slv (xg X) (sg c k) code :: st)) : V X a b nL sg o lo pc (.ref (xg X c) :: st) := by
  subst hp
  intro H locs ls hP hS hl
  obtain ⟨Cn, T, N, ty0, h1, h2, h3, h4, h5, -, -⟩ := F
  have he : (wls (xg X) (xK X) sg o)[c]? = some (xg X c, .inr (ci, sls (xg X) (sg c) 0 sl)) := by rw [wls_at hc, ent_o hy]
  have hv := sls_at (g := xg X) (f := sg c) sl 0 k code hs
  rw [Nat.zero_add] at hv
  exact va_get C.1 C.2.1 C.2.2.2.2.1 h2 C.2.2.2.1 C.2.2.2.2.2.1 hP c he h1 k h3 (C.2.2.2.2.1 _ h4) (fun x hx => by rw [h5] at hx; exact hx) hv d (kk H locs ls hP hS hl)
theorem v_geti (C : CF X cc own nL rk mc ms) {idx ci k c : Nat} {sl : List Nat} (F : FL own idx ci k) (hc : c < 68) (hy : lay c = .inl (ci, sl)) (hs : sl[k]? = some 0) (d : decode cc pc = .ok (.getfield idx, 3)) (hp : pc + 3 = pc1) (kk : V X a b nL sg o lo pc1 (.int (sg c k) :: st)) : V X a b nL sg o lo pc (.ref (xg X c) :: st) := v_get C F hc hy hs d hp kk
theorem v_getr (C : CF X cc own nL rk mc ms) {idx ci k c : Nat} {sl : List Nat} (e : Nat) (F : FL own idx ci k) (hc : c < 68) (hy : lay c = .inl (ci, sl)) (hs : sl[k]? = some (e + 2)) (d : decode cc pc = .ok (.getfield idx, 3)) (hp : pc + 3 = pc1) (kk : V X a b nL sg o lo pc1 (.ref (xg X e) :: st)) : V X a b nL sg o lo pc (.ref (xg X c) :: st) := v_get C F hc hy hs d hp kk
theorem v_getp (C : CF X cc own nL rk mc ms) {idx ci k c : Nat} {sl : List Nat} (F : FL own idx ci k) (hc : c < 68) (hy : lay c = .inl (ci, sl)) (hs : sl[k]? = some 1) (d : decode cc pc = .ok (.getfield idx, 3)) (hp : pc + 3 = pc1) (kn : sg c k < 0 → V X a b nL sg o lo pc1 (.null :: st)) (kr : ¬ sg c k < 0 → V X a b nL sg o lo pc1 (.ref (xg X (37 + ix (sg c k))) :: st)) : V X a b nL sg o lo pc (.ref (xg X c) :: st) := by
  refine v_get C F hc hy hs d hp ?_
  by_cases h : sg c k < 0
  · have : slv (xg X) (sg c k) 1 = .null := by show pres _ _ = _; rw [pres, if_pos h]
    rw [this]; exact kn h
  · have : slv (xg X) (sg c k) 1 = .ref (xg X (37 + ix (sg c k))) := by show pres _ _ = _; rw [pres, if_neg h]
    rw [this]; exact kr h
theorem v_put (C : CF X cc own nL rk mc ms) {idx ci k c code : Nat} {sl : List Nat} {ty : FieldType} {x : Int32} {v : Value} (hv : v = slv (xg X) x code) (F : FLp own idx ci k ty) (hn : narrow ty v = v) (hf : fits ty v = true) (hc : c < 68) (hy : lay c = .inl (ci, sl)) (hs : sl[k]? = some code) (d : decode cc pc = .ok (.putfield idx, 3)) (hp : pc + 3 = pc1) (kk : V X a b nL (up sg c k x) o lo pc1 st) : V X a b nL sg o lo pc (v :: .ref (xg X c) :: st) := by
  subst hp
  intro H locs ls hP hS hl
  obtain ⟨Cn, T, N, ty0, h1, h2, h3, h4, h5, h6, h7, h8, h9⟩ := F
  have he : (wls (xg X) (xK X) sg o)[c]? = some (xg X c, .inr (ci, sls (xg X) (sg c) 0 sl)) := by rw [wls_at hc, ent_o hy]
  have hset : (wls (xg X) (xK X) sg o).set c (xg X c, .inr (ci, (sls (xg X) (sg c) 0 sl).set k v)) = wls (xg X) (xK X) (up sg c k x) o := by
    have e1 : (Sum.inr (ci, (sls (xg X) (sg c) 0 sl).set k v) : va_E) = ent (xg X) (xK X) (up sg c k x) o c := by
      rw [ent_o hy]
      have := sls_set (g := xg X) (f := sg c) (f1 := up sg c k x c) sl 0 k code hs (fun j hj => by simp only [up]; rw [if_neg]; rintro ⟨-, h⟩; omega)
      rw [Nat.zero_add, up_at, ← hv] at this
      rw [this]
    rw [e1]
    exact wls_set hc (fun c1 _ h => ent_ne c1 h)
  refine va_put C.1 C.2.1 C.2.2.2.2.1 h2 ty0 h6 h7 C.2.2.2.1 C.2.2.2.2.2.1 hP (wls_D C.2.2.2.2.2.2.1 C.2.2.2.2.2.2.2.1) hS c he h1 k h3 (C.2.2.2.2.1 _ h4) (fun x hx => by rw [h5] at hx; exact hx) h8 h9 hn hf (by rw [sls_len]; exact (List.getElem?_eq_some_iff.mp hs).1) d (fun H1 locs1 hP1 _ hS1 => ?_)
  rw [hset] at hP1
  exact kk H1 locs1 ls hP1 hS1 hl
theorem v_puti (C : CF X cc own nL rk mc ms) {idx ci k c : Nat} {sl : List Nat} {x : Int32} (F : FLp own idx ci k .int) (hc : c < 68) (hy : lay c = .inl (ci, sl)) (hs : sl[k]? = some 0) (d : decode cc pc = .ok (.putfield idx, 3)) (hp : pc + 3 = pc1) (kk : V X a b nL (up sg c k x) o lo pc1 st) : V X a b nL sg o lo pc (.int x :: .ref (xg X c) :: st) := v_put C (x := x) rfl F rfl rfl hc hy hs d hp kk
/-! rows -/
theorem v_len (ty : Nat) : ∀ K : Nat → ClassId, ty < 7 → ∃ t, (tyl K)[ty]? = some (K ty, t) := by
  intro K h
  match ty, h with
  | 0, _ => exact ⟨_, rfl⟩
  | 1, _ => exact ⟨_, rfl⟩
  | 2, _ => exact ⟨_, rfl⟩
  | 3, _ => exact ⟨_, rfl⟩
  | 4, _ => exact ⟨_, rfl⟩
  | 5, _ => exact ⟨_, rfl⟩
  | 6, _ => exact ⟨_, rfl⟩
  | n + 7, h => exact absurd h (by omega)
theorem v_iald (C : CF X cc own nL rk mc ms) {c n bs : Nat} {i : Int32} (hi : vp_in i n) (hc : c < 68) (hy : lay c = .inr (0, n, bs)) (d : decode cc pc = .ok (.iaload, 1)) (hp : pc + 1 = pc1) (kk : V X a b nL sg o lo pc1 (.int (sg c (ix i)) :: st)) : V X a b nL sg o lo pc (.int i :: .ref (xg X c) :: st) := by
  subst hp
  intro H locs ls hP hS hl
  have he : (wls (xg X) (xK X) sg o)[c]? = some (xg X c, .inl (xK X 0, n, .inl (sg c))) := by rw [wls_at hc, ent_a hy]; rfl
  exact va_iald C.1 C.2.1 C.2.2.2.2.2.1 hP c 0 he rfl hi d (kk H locs ls hP hS hl)
theorem nI_ix {j : Nat} (h : j < 2 ^ 31) : ix (nI j) = j := by
  unfold ix nI Int32.toNatClampNeg
  rw [Int32.toInt_ofNat_of_lt h]
  rfl
theorem v_ialdN (C : CF X cc own nL rk mc ms) {c n bs j : Nat} (hj : j < n) (hn : n < 1000) (hc : c < 68) (hy : lay c = .inr (0, n, bs)) (d : decode cc pc = .ok (.iaload, 1)) (hp : pc + 1 = pc1) (kk : V X a b nL sg o lo pc1 (.int (sg c j) :: st)) : V X a b nL sg o lo pc (.int (nI j) :: .ref (xg X c) :: st) := by
  refine v_iald C (vp_in_nI hj (by omega)) hc hy d hp ?_
  rw [nI_ix (by omega)]
  exact kk
theorem v_zald (C : CF X cc own nL rk mc ms) {c n bs : Nat} {i : Int32} (hi : vp_in i n) (hc : c < 68) (hy : lay c = .inr (1, n, bs)) (d : decode cc pc = .ok (.baload, 1)) (hp : pc + 1 = pc1) (kk : V X a b nL sg o lo pc1 (.int (sg c (ix i)) :: st)) : V X a b nL sg o lo pc (.int i :: .ref (xg X c) :: st) := by
  subst hp
  intro H locs ls hP hS hl
  have he : (wls (xg X) (xK X) sg o)[c]? = some (xg X c, .inl (xK X 1, n, .inl (sg c))) := by rw [wls_at hc, ent_a hy]; rfl
  exact va_zald C.1 C.2.1 C.2.2.2.2.2.1 hP c 1 he rfl hi d (kk H locs ls hP hS hl)
theorem v_aald (C : CF X cc own nL rk mc ms) {c ty n bs : Nat} {i : Int32} (h2 : ty = 2 ∨ ty = 3 ∨ ty = 4) (hi : vp_in i n) (hc : c < 68) (hy : lay c = .inr (ty, n, bs)) (d : decode cc pc = .ok (.aaload, 1)) (hp : pc + 1 = pc1) (kk : V X a b nL sg o lo pc1 (.ref (xg X (bs + ix i)) :: st)) : V X a b nL sg o lo pc (.int i :: .ref (xg X c) :: st) := by
  subst hp
  intro H locs ls hP hS hl
  have he : (wls (xg X) (xK X) sg o)[c]? = some (xg X c, .inl (xK X ty, n, .inr (.inr (.inr (.inr (fun j => some (xg X (bs + j)))))))) := by rw [wls_at hc, ent_a hy]; rcases h2 with rfl | rfl | rfl <;> rfl
  rcases h2 with rfl | rfl | rfl
  · exact va_aldq C.1 C.2.1 C.2.2.2.2.2.1 hP c 2 he rfl hi d (kk H locs ls hP hS hl)
  · exact va_aldq C.1 C.2.1 C.2.2.2.2.2.1 hP c 3 he rfl hi d (kk H locs ls hP hS hl)
  · exact va_aldq C.1 C.2.1 C.2.2.2.2.2.1 hP c 4 he rfl hi d (kk H locs ls hP hS hl)
theorem v_aaldN (C : CF X cc own nL rk mc ms) {c ty n bs j : Nat} (h2 : ty = 2 ∨ ty = 3 ∨ ty = 4) (hj : j < n) (hn : n < 1000) (hc : c < 68) (hy : lay c = .inr (ty, n, bs)) (d : decode cc pc = .ok (.aaload, 1)) (hp : pc + 1 = pc1) (kk : V X a b nL sg o lo pc1 (.ref (xg X (bs + j)) :: st)) : V X a b nL sg o lo pc (.int (nI j) :: .ref (xg X c) :: st) := by
  refine v_aald C h2 (vp_in_nI hj (by omega)) hc hy d hp ?_
  rw [nI_ix (by omega)]
  exact kk
theorem up_wls {g : Nat → Nat} {K : Nat → ClassId} {c ty n bs j : Nat} {x : Int32} (hc : c < 68) (ht : ty < 2) (hy : lay c = .inr (ty, n, bs)) : (wls g K sg o).set c (g c, .inl (K ty, n, .inl (upd (sg c) j x))) = wls g K (up sg c j x) o := by
  have e1 : (Sum.inl (K ty, n, Sum.inl (upd (sg c) j x)) : va_E) = ent g K (up sg c j x) o c := by
    rw [ent_a hy, up_row, arc, if_pos ht]
  rw [e1]
  exact wls_set hc (fun c1 _ h => ent_ne c1 h)
theorem v_iast (C : CF X cc own nL rk mc ms) {c n bs : Nat} {i x : Int32} (hi : vp_in i n) (hc : c < 68) (hy : lay c = .inr (0, n, bs)) (d : decode cc pc = .ok (.iastore, 1)) (hp : pc + 1 = pc1) (kk : V X a b nL (up sg c (ix i) x) o lo pc1 st) : V X a b nL sg o lo pc (.int x :: .int i :: .ref (xg X c) :: st) := by
  subst hp
  intro H locs ls hP hS hl
  have he : (wls (xg X) (xK X) sg o)[c]? = some (xg X c, .inl (xK X 0, n, .inl (sg c))) := by rw [wls_at hc, ent_a hy]; rfl
  refine va_iast C.1 C.2.1 C.2.2.2.2.2.1 hP (wls_D C.2.2.2.2.2.2.1 C.2.2.2.2.2.2.2.1) hS c 0 he rfl hi d (fun H1 locs1 hP1 _ hS1 => ?_)
  rw [up_wls hc (by decide) hy] at hP1
  exact kk H1 locs1 ls hP1 hS1 hl
theorem v_iastN (C : CF X cc own nL rk mc ms) {c n bs j : Nat} {x : Int32} (hj : j < n) (hn : n < 1000) (hc : c < 68) (hy : lay c = .inr (0, n, bs)) (d : decode cc pc = .ok (.iastore, 1)) (hp : pc + 1 = pc1) (kk : V X a b nL (up sg c j x) o lo pc1 st) : V X a b nL sg o lo pc (.int x :: .int (nI j) :: .ref (xg X c) :: st) := by
  refine v_iast C (vp_in_nI hj (by omega)) hc hy d hp ?_
  rw [nI_ix (by omega)]
  exact kk
theorem v_zast1 (C : CF X cc own nL rk mc ms) {c n bs : Nat} {i : Int32} (hi : vp_in i n) (hc : c < 68) (hy : lay c = .inr (1, n, bs)) (d : decode cc pc = .ok (.bastore, 1)) (hp : pc + 1 = pc1) (kk : V X a b nL (up sg c (ix i) 1) o lo pc1 st) : V X a b nL sg o lo pc (.int 1 :: .int i :: .ref (xg X c) :: st) := by
  subst hp
  intro H locs ls hP hS hl
  have he : (wls (xg X) (xK X) sg o)[c]? = some (xg X c, .inl (xK X 1, n, .inl (sg c))) := by rw [wls_at hc, ent_a hy]; rfl
  refine va_zast C.1 C.2.1 C.2.2.2.2.2.1 hP (wls_D C.2.2.2.2.2.2.1 C.2.2.2.2.2.2.2.1) hS c 1 he rfl hi d (fun H1 locs1 hP1 _ hS1 => ?_)
  rw [show vp_nar .boolean 1 = 1 by decide, up_wls hc (by decide) hy] at hP1
  exact kk H1 locs1 ls hP1 hS1 hl
end VS
end
section
/-! contracts: from the world that holds sg and o, with these arguments, the method answers rv and leaves sg1 and o1; or it throws ex, and leaves all as it was -/
def rmR (rk mc ms : Nat) : Room := { frames := rk, cells := mc, slots := ms, locals := 40 * rk }
def wsM (y : MethodName) (bytes : ByteArray) (maxL : Nat) (ret : Option FieldType) : List Cond := Cond.code y bytes maxL ret :: ALL
theorem wsM_good {y : MethodName} {bytes : ByteArray} {maxL : Nat} {ret : Option FieldType} (hc : Cond.code y bytes maxL ret ∈ ALL) : GoodIn ALL (wsM y bytes maxL ret) := fun w hw => (List.mem_cons.mp hw).elim (fun e => by rw [e]; exact ⟨hc, good_of_word (all_good _ hc)⟩) (fun h => ⟨h, good_of_word (all_good _ h)⟩)
def Pw (D : va_G) (K : Nat → ClassId) (g : Nat → Nat) (sg : Sg) (o : Ot) (U : State) : Prop := Wd D K g sg o U.heap ∧ va_K D vwCl (tyl K) U ∧ apG g
def Rt (D : va_G) (K : Nat → ClassId) (g : Nat → Nat) (rv : Option Value) (sg : Sg) (o : Ot) : Array Value → State → Outcome → State → Prop := fun _ st oc t => (oc = .returned rv ∧ Wd D K g sg o t.heap) ∧ va_F (inG g) st t
/-- a method that only returns -/
def CN (l : Launch) (y : MethodName) (bytes : ByteArray) (maxL : Nat) (ret : Option FieldType) (rk : Nat) (D : va_G) (K : Nat → ClassId) (g : Nat → Nat) (av : List Value) (sg : Sg) (o : Ot) (rv : Option Value) (sg1 : Sg) (o1 : Ot) : Prop :=
  Met l y (wsM y bytes maxL ret) (rmR rk 0 0) (va_Pc av (Pw D K g sg o)) (Rt D K g rv sg1 o1) 0 0 (inG g)
abbrev eIAE : String := "java/lang/IllegalArgumentException"
abbrev eISE : String := "java/lang/IllegalStateException"
abbrev eIOB : String := "java/lang/IndexOutOfBoundsException"
abbrev eNSE : String := "java/util/NoSuchElementException"
abbrev eUOE : String := "java/lang/UnsupportedOperationException"
abbrev eAE : String := "java/lang/ArithmeticException"
def exL : List String := [eIAE, eISE, eIOB, eNSE, eUOE, eAE]
def strL : List (Nat × String) := [(75, "the place or the limit is out of range"), (82, "there are 8 points"), (91, "a number of the piece is out of range"), (93, "there are 6 pieces"), (303, "there is no such piece"), (301, "there is no such point"), (113, "the places, the centre or the angle do not fit"), (310, "the piece is hung"), (134, "a piece cannot need itself"), (146, "the other piece needs this one"), (159, "there is no such truck"), (162, "the minute is out of range"), (168, "a piece of this truck is hung"), (170, "a number of the town is out of range"), (172, "there are 4 towns"), (305, "there is no such town"), (189, "a rate or the overtime is out of range"), (208, "the show is in no town"), (228, "the piece cannot be hung next"), (238, "no piece is hung"), (254, "there is no such piece, or it is not hung"), (280, "there is no point"), (288, "there are no pieces"), (291, "there are no points")]
/-- what a throw asks of the state: the two statics of Throwable (outside of A), the classes, the texts -/
def Xw (A : Nat → Prop) (U : State) : Prop := (vx_Zq Bundle.tN "UNASSIGNED_STACK" Bundle.steD A U U.heap ∧ vx_Zq Bundle.tN "SUPPRESSED_SENTINEL" Bundle.listD A U U.heap) ∧ (∀ E ∈ exL, va_Nw (.castable E E) U) ∧ ∀ q ∈ strL, ∃ sa, vk_R RX4 q.1 q.2 sa U
theorem Xw.go {A A1 : Nat → Prop} {s U : State} {H : Heap} {locs : List Loc} (h : Xw A s) (hS : va_S A s.heap H locs) (hU : U.heap = H) (hW : s.WarmedH U.vm) (hA : ∀ q, A1 q → A q) : Xw A1 U := by
  obtain ⟨⟨h1, h2⟩, h3, h4⟩ := h
  refine ⟨⟨?_, ?_⟩, fun E hE => va_Nw.warmC hW (h3 E hE), fun q hq => ?_⟩
  · rw [hU]; exact (vx_Zq.moved hW.alike (h1.kept hS.2.1)).narrow hA
  · rw [hU]; exact (vx_Zq.moved hW.alike (h2.kept hS.2.1)).narrow hA
  · obtain ⟨sa, hs⟩ := h4 q hq
    exact ⟨sa, vk_R.warm hW hs⟩
def Pwx (D : va_G) (K : Nat → ClassId) (g : Nat → Nat) (sg : Sg) (o : Ot) (U : State) : Prop := Pw D K g sg o U ∧ Xw (inG g) U
/-- a method that returns or throws -/
def CX (l : Launch) (y : MethodName) (bytes : ByteArray) (maxL : Nat) (ret : Option FieldType) (rk mc ms : Nat) (D : va_G) (K : Nat → ClassId) (g : Nat → Nat) (av : List Value) (sg : Sg) (o : Ot) (ex : Option String) (rv : Option Value) (sg1 : Sg) (o1 : Ot) : Prop :=
  vx_Met l y (wsM y bytes maxL ret) (rmR rk mc ms) (va_Pc av (Pwx D K g sg o)) (fun a st oc t => ex = none ∧ Rt D K g rv sg1 o1 a st oc t) (vx_X (fun E : String => ex = some E) (fun E1 E t => E1 = E ∧ Wd D K g sg o t.heap) (inG g)) mc ms (inG g)
theorem Pw_blind {D : va_G} {K : Nat → ClassId} {g : Nat → Nat} {sg : Sg} {o : Ot} {av : List Value} : FrameBlind (va_Pc av (Pw D K g sg o)) := fun a U f mk q => ⟨q.1, q.2.1, va_K.moved (u := U) (U := U.calling f mk a) (Vm.Alike.refl U.vm) q.2.2.1, q.2.2.2⟩
theorem Pwx_blind {D : va_G} {K : Nat → ClassId} {g : Nat → Nat} {sg : Sg} {o : Ot} {av : List Value} : FrameBlind (va_Pc av (Pwx D K g sg o)) := by
  intro a U f mk q
  refine ⟨q.1, ⟨q.2.1.1, va_K.moved (u := U) (U := U.calling f mk a) (Vm.Alike.refl U.vm) q.2.1.2.1, q.2.1.2.2⟩, ⟨?_, ?_⟩, fun E hE => ?_, fun z hz => ?_⟩
  · exact vx_Zq.moved (u := U) (U := U.calling f mk a) (Vm.Alike.refl U.vm) q.2.2.1.1
  · exact vx_Zq.moved (u := U) (U := U.calling f mk a) (Vm.Alike.refl U.vm) q.2.2.1.2
  · exact va_Nw.same (u := U) (U := U.calling f mk a) rfl rfl (q.2.2.2.1 E hE)
  · obtain ⟨sa, hs⟩ := q.2.2.2.2 z hz
    exact ⟨sa, vk_R.same (u := U) (U := U.calling f mk a) rfl hs⟩
/-! ends -/
def Ei (X : Cx) (cc : ByteArray) (mc ms : Nat) (sg : Sg) (o : Ot) (r : Int32) : Prop := ∀ (a b nL : Nat) (lo : List (Nat × Value)) (pc : Nat), a ≤ mc → b ≤ ms → decode cc pc = .ok (.ireturn, 1) → V X a b nL sg o lo pc [.int r]
def Ev (X : Cx) (cc : ByteArray) (mc ms : Nat) (sg : Sg) (o : Ot) : Prop := ∀ (a b nL : Nat) (lo : List (Nat × Value)) (pc : Nat), a ≤ mc → b ≤ ms → decode cc pc = .ok (.return_, 1) → V X a b nL sg o lo pc []
def El (X : Cx) (cc : ByteArray) (mc ms : Nat) (sg : Sg) (o : Ot) (r : Int64) : Prop := ∀ (a b nL : Nat) (lo : List (Nat × Value)) (pc : Nat), a ≤ mc → b ≤ ms → decode cc pc = .ok (.lreturn, 1) → V X a b nL sg o lo pc [.long r]
def Ef (X : Cx) (cc : ByteArray) (mc ms : Nat) (sg : Sg) (o : Ot) (r : UInt32) : Prop := ∀ (a b nL : Nat) (lo : List (Nat × Value)) (pc : Nat), a ≤ mc → b ≤ ms → decode cc pc = .ok (.freturn, 1) → V X a b nL sg o lo pc [.float r]
def Ed (X : Cx) (cc : ByteArray) (mc ms : Nat) (sg : Sg) (o : Ot) (r : UInt64) : Prop := ∀ (a b nL : Nat) (lo : List (Nat × Value)) (pc : Nat), a ≤ mc → b ≤ ms → decode cc pc = .ok (.dreturn, 1) → V X a b nL sg o lo pc [.double r]
section VE
variable {X : Cx} {cc : ByteArray} {a b nL mc ms : Nat} {sg sg1 : Sg} {o o1 : Ot} {lo : List (Nat × Value)} {pc : Nat}
theorem v_ret {r r1 : Int32} (E : Ei X cc mc ms sg1 o1 r1) (d : decode cc pc = .ok (.ireturn, 1)) (ha : a ≤ mc) (hb : b ≤ ms) (h : r = r1) (hs : sg = sg1) (ho : o = o1) : V X a b nL sg o lo pc [.int r] := by
  subst h; subst hs; subst ho; exact E a b nL lo pc ha hb d
theorem v_vret (E : Ev X cc mc ms sg1 o1) (d : decode cc pc = .ok (.return_, 1)) (ha : a ≤ mc) (hb : b ≤ ms) (hs : sg = sg1) (ho : o = o1) : V X a b nL sg o lo pc [] := by
  subst hs; subst ho; exact E a b nL lo pc ha hb d
theorem v_lret {r r1 : Int64} (E : El X cc mc ms sg1 o1 r1) (d : decode cc pc = .ok (.lreturn, 1)) (ha : a ≤ mc) (hb : b ≤ ms) (h : r = r1) (hs : sg = sg1) (ho : o = o1) : V X a b nL sg o lo pc [.long r] := by
  subst h; subst hs; subst ho; exact E a b nL lo pc ha hb d
theorem v_fret {r r1 : UInt32} (E : Ef X cc mc ms sg1 o1 r1) (d : decode cc pc = .ok (.freturn, 1)) (ha : a ≤ mc) (hb : b ≤ ms) (h : r = r1) (hs : sg = sg1) (ho : o = o1) : V X a b nL sg o lo pc [.float r] := by
  subst h; subst hs; subst ho; exact E a b nL lo pc ha hb d
theorem v_dret {r r1 : UInt64} (E : Ed X cc mc ms sg1 o1 r1) (d : decode cc pc = .ok (.dreturn, 1)) (ha : a ≤ mc) (hb : b ≤ ms) (h : r = r1) (hs : sg = sg1) (ho : o = o1) : V X a b nL sg o lo pc [.double r] := by
  subst h; subst hs; subst ho; exact E a b nL lo pc ha hb d
end VE
/-! contracts out of walks -/
section MK
variable {l : Launch} {y : MethodName} {bytes : ByteArray} {maxL rk mc ms : Nat} {rt : FieldType} {av : (Nat → Nat) → List Value} {sg sg1 : Sg} {o o1 : Ot} {D : va_G} {K : Nat → ClassId} {g : Nat → Nat} {own : String} {lo : (Nat → Nat) → List (Nat × Value)} {ex : Option String}
theorem mk_start {X : Cx} {av1 : List Value} {lo1 : List (Nat × Value)} (hlen : (lg_sl av1).length ≤ maxL) (hlo : lv_args 0 av1 = lo1) (hP : Wd (xD X) (xK X) (xg X) sg o (xs_ X).heap) (k : V X 0 0 maxL sg o lo1 0 []) : WW X (xs_ X).heap [] 0 0 (entryFrame (xm X) av1.toArray maxL) := by
  rw [lg_entry_eq]
  have hl := lv_entry av1 hlen
  rw [hlo] at hl
  exact k _ _ _ hP va_S.rf hl
theorem mk_C {av1 : List Value} {ret : Option FieldType} {ws : List Cond} {Q : State → Prop} {p : Program} {e : Env} {s : State} {m : MethodId} {below : List Frame} {meth : Method} {c : Code} {s₁ : State} (hown : y.cls = own) (hK : va_K D vwCl (tyl K) s) (hG : apG g) (hts : ∀ w ∈ ALL, w.before av1.toArray s = true)
    (B : BodyLoose p l y (headSpec ws (rmR rk mc ms)) bytes maxL ret e s m av1.toArray below meth c s₁) (hml : c.maxLocals = maxL) : CF (p, l, e, rmR rk mc ms, s, m, av1.toArray, below, meth, c, D, K, g, inG g, Q) bytes own maxL rk mc ms :=
  ⟨B.exec, B.bytes, hml, by rw [← hown]; exact findClass_of_methodNamed B.named, hts, hK, hG, fun _ h => h, ⟨Nat.le_refl _, Nat.le_refl _, Nat.le_refl _, Nat.le_refl _⟩, B.notSynchronized⟩
theorem mk_i {r : Int32} (hy : plainName y.cls = true) (hown : y.cls = own) (hn : narrow rt (.int r) = .int r) (hlen : ∀ g, (lg_sl (av g)).length ≤ maxL) (hlo : ∀ g, lv_args 0 (av g) = lo g)
    (body : ∀ X : Cx, CF X bytes own maxL rk 0 0 → Ei X bytes 0 0 sg1 o1 r → V X 0 0 maxL sg o (lo (xg X)) 0 []) : CN l y bytes maxL (some rt) rk D K g (av g) sg o (some (.int r)) sg1 o1 := by
  refine Met.ofW (cc := bytes) (maxL := maxL) (ret := some rt) hy rfl ?_
  intro p e s m args below meth c s₁ B hml hv
  obtain ⟨rfl, hP, hK, hG⟩ := hv
  have hts0 := atoms_spec (ws := wsM y bytes maxL (some rt)) B.pre
  have C := mk_C (Q := MQ below (Rt D K g (some (.int r)) sg1 o1) (av g).toArray s 0 0 (inG g)) (own := own) hown hK hG (fun w h => hts0 w (List.mem_cons_of_mem _ h)) B hml
  refine mk_start (X := (p, l, e, rmR rk 0 0, s, m, (av g).toArray, below, meth, c, D, K, g, inG g, MQ below (Rt D K g (some (.int r)) sg1 o1) (av g).toArray s 0 0 (inG g))) (hlen g) (hlo g) hP (body _ C ?_)
  intro a b nL lo pc ha hb d H locs ls hP hS hl
  exact W.widen ha hb (W.zret B.exec B.bytes B.returns hn (fun t ht hW => ⟨⟨rfl, by rw [ht]; exact hP⟩, hS.F ht⟩) hS.2.2 d B.notSynchronized)
theorem mk_v (hy : plainName y.cls = true) (hown : y.cls = own) (hlen : ∀ g, (lg_sl (av g)).length ≤ maxL) (hlo : ∀ g, lv_args 0 (av g) = lo g)
    (body : ∀ X : Cx, CF X bytes own maxL rk 0 0 → Ev X bytes 0 0 sg1 o1 → V X 0 0 maxL sg o (lo (xg X)) 0 []) : CN l y bytes maxL none rk D K g (av g) sg o none sg1 o1 := by
  refine Met.ofW (cc := bytes) (maxL := maxL) (ret := none) hy rfl ?_
  intro p e s m args below meth c s₁ B hml hv
  obtain ⟨rfl, hP, hK, hG⟩ := hv
  have hts0 := atoms_spec (ws := wsM y bytes maxL none) B.pre
  have C := mk_C (Q := MQ below (Rt D K g none sg1 o1) (av g).toArray s 0 0 (inG g)) (own := own) hown hK hG (fun w h => hts0 w (List.mem_cons_of_mem _ h)) B hml
  refine mk_start (X := (p, l, e, rmR rk 0 0, s, m, (av g).toArray, below, meth, c, D, K, g, inG g, MQ below (Rt D K g none sg1 o1) (av g).toArray s 0 0 (inG g))) (hlen g) (hlo g) hP (body _ C ?_)
  intro a b nL lo pc ha hb d H locs ls hP hS hl
  exact W.widen ha hb (W.vret B.exec B.bytes B.returns (fun t ht hW => ⟨⟨rfl, by rw [ht]; exact hP⟩, hS.F ht⟩) hS.2.2 d B.notSynchronized)
theorem mk_l {r : Int64} (hy : plainName y.cls = true) (hown : y.cls = own) (hlen : ∀ g, (lg_sl (av g)).length ≤ maxL) (hlo : ∀ g, lv_args 0 (av g) = lo g)
    (body : ∀ X : Cx, CF X bytes own maxL rk 0 0 → El X bytes 0 0 sg1 o1 r → V X 0 0 maxL sg o (lo (xg X)) 0 []) : CN l y bytes maxL (some .long) rk D K g (av g) sg o (some (.long r)) sg1 o1 := by
  refine Met.ofW (cc := bytes) (maxL := maxL) (ret := some .long) hy rfl ?_
  intro p e s m args below meth c s₁ B hml hv
  obtain ⟨rfl, hP, hK, hG⟩ := hv
  have hts0 := atoms_spec (ws := wsM y bytes maxL (some .long)) B.pre
  have C := mk_C (Q := MQ below (Rt D K g (some (.long r)) sg1 o1) (av g).toArray s 0 0 (inG g)) (own := own) hown hK hG (fun w h => hts0 w (List.mem_cons_of_mem _ h)) B hml
  refine mk_start (X := (p, l, e, rmR rk 0 0, s, m, (av g).toArray, below, meth, c, D, K, g, inG g, MQ below (Rt D K g (some (.long r)) sg1 o1) (av g).toArray s 0 0 (inG g))) (hlen g) (hlo g) hP (body _ C ?_)
  intro a b nL lo pc ha hb d H locs ls hP hS hl
  exact W.widen ha hb (W.lret B.exec B.bytes B.returns (fun t ht hW => ⟨⟨rfl, by rw [ht]; exact hP⟩, hS.F ht⟩) hS.2.2 d B.notSynchronized)
theorem mk_f {r : UInt32} (hy : plainName y.cls = true) (hown : y.cls = own) (hlen : ∀ g, (lg_sl (av g)).length ≤ maxL) (hlo : ∀ g, lv_args 0 (av g) = lo g)
    (body : ∀ X : Cx, CF X bytes own maxL rk 0 0 → Ef X bytes 0 0 sg1 o1 r → V X 0 0 maxL sg o (lo (xg X)) 0 []) : CN l y bytes maxL (some .float) rk D K g (av g) sg o (some (.float r)) sg1 o1 := by
  refine Met.ofW (cc := bytes) (maxL := maxL) (ret := some .float) hy rfl ?_
  intro p e s m args below meth c s₁ B hml hv
  obtain ⟨rfl, hP, hK, hG⟩ := hv
  have hts0 := atoms_spec (ws := wsM y bytes maxL (some .float)) B.pre
  have C := mk_C (Q := MQ below (Rt D K g (some (.float r)) sg1 o1) (av g).toArray s 0 0 (inG g)) (own := own) hown hK hG (fun w h => hts0 w (List.mem_cons_of_mem _ h)) B hml
  refine mk_start (X := (p, l, e, rmR rk 0 0, s, m, (av g).toArray, below, meth, c, D, K, g, inG g, MQ below (Rt D K g (some (.float r)) sg1 o1) (av g).toArray s 0 0 (inG g))) (hlen g) (hlo g) hP (body _ C ?_)
  intro a b nL lo pc ha hb d H locs ls hP hS hl
  exact W.widen ha hb (W.fret B.exec B.bytes B.returns (fun t ht hW => ⟨⟨rfl, by rw [ht]; exact hP⟩, hS.F ht⟩) hS.2.2 d B.notSynchronized)
theorem mk_d {r : UInt64} (hy : plainName y.cls = true) (hown : y.cls = own) (hlen : ∀ g, (lg_sl (av g)).length ≤ maxL) (hlo : ∀ g, lv_args 0 (av g) = lo g)
    (body : ∀ X : Cx, CF X bytes own maxL rk 0 0 → Ed X bytes 0 0 sg1 o1 r → V X 0 0 maxL sg o (lo (xg X)) 0 []) : CN l y bytes maxL (some .double) rk D K g (av g) sg o (some (.double r)) sg1 o1 := by
  refine Met.ofW (cc := bytes) (maxL := maxL) (ret := some .double) hy rfl ?_
  intro p e s m args below meth c s₁ B hml hv
  obtain ⟨rfl, hP, hK, hG⟩ := hv
  have hts0 := atoms_spec (ws := wsM y bytes maxL (some .double)) B.pre
  have C := mk_C (Q := MQ below (Rt D K g (some (.double r)) sg1 o1) (av g).toArray s 0 0 (inG g)) (own := own) hown hK hG (fun w h => hts0 w (List.mem_cons_of_mem _ h)) B hml
  refine mk_start (X := (p, l, e, rmR rk 0 0, s, m, (av g).toArray, below, meth, c, D, K, g, inG g, MQ below (Rt D K g (some (.double r)) sg1 o1) (av g).toArray s 0 0 (inG g))) (hlen g) (hlo g) hP (body _ C ?_)
  intro a b nL lo pc ha hb d H locs ls hP hS hl
  exact W.widen ha hb (W.dret B.exec B.bytes B.returns (fun t ht hW => ⟨⟨rfl, by rw [ht]; exact hP⟩, hS.F ht⟩) hS.2.2 d B.notSynchronized)
end MK
/-! calls of methods that only return -/
theorem KB.b {R : Room} {s : State} {args : Array Value} {own : String} {idx : Nat} {y : MethodName} {bytes : ByteArray} {maxL : Nat} {ret : Option FieldType} {n rk rk1 mc ms : Nat} (k : KB own idx y bytes maxL ret n) (ht : ∀ w ∈ ALL, w.before args s = true) (hr : rk1 + 1 ≤ rk) (h1 : rk ≤ R.frames) (h2 : 40 * rk ≤ R.locals) : CallB R s args own idx y bytes maxL ret (wsM y bytes maxL ret) (rmR rk1 mc ms) mc ms n := by
  obtain ⟨k1, k2, k3, k4, k5, k6⟩ := k
  refine callB_of n ht (wsM_good k1) rfl rfl rfl (ht _ k2) (ht _ k5) ⟨k3.1, k3.2, k4⟩ ⟨?_, ?_⟩
  · show rk1 + 1 ≤ R.frames
    omega
  · show 8 + (maxL + 11) + 40 * rk1 ≤ R.locals
    omega
section VC
variable {X : Cx} {cc : ByteArray} {own : String} {a b nL rk mc ms : Nat} {sg sg1 : Sg} {o o1 : Ot} {lo : List (Nat × Value)} {pc pc1 : Nat} {st rest : List Value}
theorem v_run {ar : Array Value} {rv : Option Value} {H : Heap} {locs : List Loc} {ls : Array Slot} (hr : va_Run (xp X) (xl X) (xe X) (xR X) (xs_ X) (xm X) (xa X) (xb X) (xh X) (xc X) H locs a b 0 0 (F0 (xm X) pc ls st) rest (Rt (xD X) (xK X) (xg X) rv sg1 o1 ar) (inG (xg X))) (hS : va_S (xA X) (xs_ X).heap H locs) (hA : ∀ q, inG (xg X) q → xA X q) (hl : lv_has ls nL lo)
    (kk : V X a b nL sg1 o1 lo (pc + 3) (rv.toList ++ rest)) : WW X H locs a b (F0 (xm X) pc ls st) := by
  intro T hT Y
  obtain ⟨v, st₀, t, T', L, h0, Y', hL, e1, e2, ⟨⟨hv, hp⟩, hz, hk⟩, stp⟩ := hr T hT Y
  cases hv
  rw [h0] at hz hk
  obtain ⟨t2, a1, b1⟩ := kk T'.heap (locs ++ L) ls (by rw [e1]; exact hp)
    ⟨Nat.le_trans hS.1 (by rw [e1]; exact hz), fun q h1 h2 => by rw [e1, hk q (Nat.lt_of_lt_of_le h1 hS.1) (fun z => h2 (hA q z))]; exact hS.2.1 q h1 h2, fun q hq => by
      rcases List.mem_append.mp hq with h | h
      · exact hS.2.2 q h
      · exact hA _ (hL q h)⟩ hl T' rfl Y'
  exact ⟨t2, stp t2 a1, b1⟩
theorem v_recv {c ci : Nat} {sl : List Nat} {q : vw_C} {H : Heap} (hK : va_K (xD X) vwCl (tyl (xK X)) (xs_ X)) (hP : Wd (xD X) (xK X) (xg X) sg o H) (hc : c < 68) (hy : lay c = .inl (ci, sl)) (hq : vwCl[ci]? = some q) : ∃ cell : Cell, H[xg X c]? = some cell ∧ cell.vm.isStatics = false ∧ (xs_ X).vm.findClass q.1 = some cell.cls :=
  va_recv hK hP hq (show (wls (xg X) (xK X) sg o)[c]? = some (xg X c, .inr (ci, sls (xg X) (sg c) 0 sl)) by rw [wls_at hc, ent_o hy])
theorem v_callV (C : CF X cc own nL rk mc ms) {y : MethodName} {bytes : ByteArray} {maxL idx n rk1 c ci : Nat} {ret : Option FieldType} {rv : Option Value} {sl : List Nat} {q : vw_C} {As : List Value} (k : KV own idx y bytes maxL ret n)
    (M : CN (xl X) y bytes maxL ret rk1 (xD X) (xK X) (xg X) (.ref (xg X c) :: As) sg o rv sg1 o1) (hrk : rk1 + 1 ≤ rk) (hc : c < 68) (hy : lay c = .inl (ci, sl)) (hq : vwCl[ci]? = some q) (hq1 : q.1 = y.cls) (hst : st = As.reverse ++ .ref (xg X c) :: rest) (hn : As.length = n) (hcat : (rest.map fun v => v.category).sum ≤ 8) (ha : a ≤ mc) (hb : b ≤ ms)
    (d : decode cc pc = .ok (.invokevirtual idx, 3)) (hp : pc + 3 = pc1) (kk : V X a b nL sg1 o1 lo pc1 (rv.toList ++ rest)) : V X a b nL sg o lo pc st := by
  subst hp
  intro H locs ls hP hS hl
  obtain ⟨cx, cb, cm, co, ct, cK, cG, cA, ⟨r1, r2, r3, r4⟩, cl⟩ := C
  refine v_run (va_runV (As := As) (rest := rest) (C := y.cls) ⟨cx, cb, cm, co, ct⟩ M ⟨k.1.b ct hrk r1 r2, ct _ k.2.1, ct _ k.2.2⟩ ⟨Pw_blind, ?_, fun U hU hW => ⟨rfl, by rw [hU]; exact hP, va_K.moved hW.alike cK, cG⟩⟩ rfl hn hl.1 hst (lv_room hcat) d ⟨Nat.le_trans ha r3, Nat.le_trans hb r4⟩) hS cA hl kk
  rw [← hq1]
  exact v_recv cK hP hc hy hq
theorem v_callS (C : CF X cc own nL rk mc ms) {y : MethodName} {bytes : ByteArray} {maxL idx n rk1 : Nat} {ret : Option FieldType} {rv : Option Value} {As : List Value} (k : KS own idx y bytes maxL ret n)
    (M : CN (xl X) y bytes maxL ret rk1 (xD X) (xK X) (xg X) As sg o rv sg1 o1) (hrk : rk1 + 1 ≤ rk) (hst : st = As.reverse ++ rest) (hn : As.length = n) (hcat : (rest.map fun v => v.category).sum ≤ 8) (ha : a ≤ mc) (hb : b ≤ ms)
    (d : decode cc pc = .ok (.invokestatic idx, 3)) (hp : pc + 3 = pc1) (kk : V X a b nL sg1 o1 lo pc1 (rv.toList ++ rest)) : V X a b nL sg o lo pc st := by
  subst hp
  intro H locs ls hP hS hl
  obtain ⟨cx, cb, cm, co, ct, cK, cG, cA, ⟨r1, r2, r3, r4⟩, cl⟩ := C
  exact v_run (va_runS (As := As) (rest := rest) ⟨cx, cb, cm, co, ct⟩ M ⟨k.1.b ct hrk r1 r2, ct _ k.2⟩ ⟨Pw_blind, fun U hU hW => ⟨rfl, by rw [hU]; exact hP, va_K.moved hW.alike cK, cG⟩⟩ rfl hn hl.1 hst (lv_room hcat) d ⟨Nat.le_trans ha r3, Nat.le_trans hb r4⟩) hS cA hl kk
end VC
end
section
/-! A throw whose class has its own constructor at another place (follows the proofs of the library, Stand.ctorThrowS, and of the printed vx_throwS) -/
/-- the words of such a throw -/
def vy_atoms (own : String) (ic : Nat) (X sup : String) (idx : Nat) (bts : ByteArray) (names : List String) : List Cond :=
  Bundle.throwableAtoms ++ Bundle.throwableSAtoms ++ (Bundle.passSAtoms X sup idx bts ++ Bundle.chainSAtoms sup names) ++
  [.methodLink own ic (Bundle.initS X), .instantiable X 6, .castable X X, .selects X Bundle.tFill0 Bundle.tFill0, .selects X Bundle.tFill Bundle.tFill,
   .lays X Bundle.tN "cause" "Ljava/lang/Throwable;", .lays X Bundle.tN "stackTrace" Bundle.steD, .lays X Bundle.tN "suppressedExceptions" Bundle.listD, .lays X Bundle.tN "detailMessage" "Ljava/lang/String;",
   .isRef (.static Bundle.tN "UNASSIGNED_STACK" Bundle.steD), .isRef (.static Bundle.tN "SUPPRESSED_SENTINEL" Bundle.listD),
   .fieldLink Bundle.tN 198 Bundle.tN "backtrace" "Ljava/lang/Object;", .lays Bundle.tN Bundle.tN "backtrace" "Ljava/lang/Object;", .lays X Bundle.tN "backtrace" "Ljava/lang/Object;"]
def vy_at (own : String) (ic : Nat) (X sup : String) (idx : Nat) (bts : ByteArray) (names : List String) : List Cond := (vy_atoms own ic X sup idx bts names).filter vx_no
section VY
variable {p : Program} {l : Launch} {e : Env} {R : Room} {s : State} {m₀ : MethodId} {args : Array Value} {below : List Frame} {meth : Method} {c : Code} {W : State} {locs : List Loc} {cells slots : Nat}
set_option maxHeartbeats 4000000 in
theorem vy_ctor (X : Stand p l e R s m₀ args below meth c W locs cells slots) (hexec : p.tables.exec = Jvm.exec) (htr : e.platform.stackTraces = false) {own cls : String} {sup : String} {bts : ByteArray} {names : List String} {ic idx : Nat} (g0 : decode bts 0 = .ok (.aload_n 0, 1)) (g1 : decode bts 1 = .ok (.aload_n 1, 1)) (g2 : decode bts 2 = .ok (.invokespecial idx, 3)) (g5 : decode bts 5 = .ok (.return_, 1)) (hsup : Bundle.fit sup = true)
    (hown : s.vm.findClass own = some m₀.cls) (hcls : Bundle.fit cls = true) (hnames : ∀ n ∈ names, Bundle.fit n = true)
    (h : ∀ a ∈ vy_atoms own ic cls sup idx bts names, a.before args s = true)
    (hlocs : ∀ x ∈ locs, ∀ cell, s.heap[x.base]? = some cell → cell.vm.isStatics = false)
    {a : Addr} {cX : ClassId} {kX : Class} (hfoundX : s.vm.findClass cls = some cX) (hkX : s.vm.classes[cX]? = some kX) (hcell : W.heap[a]? = some (freshCell cX kX)) (hnew : s.heap.size ≤ a)
    {msg : Value} (hmsg : msg.isRef = true)
    {g : JFrame} (hg : g.method = m₀) (hsize : g.locals.size = c.maxLocals) (hlocked : g.locked = none) (hentered : g.entered = []) {rest : List Value} (hstack : g.stack = msg :: .ref a :: .ref a :: rest)
    (hd6 : decode c.code g.pc = .ok (.invokespecial ic, 3)) (hd9 : decode c.code (g.pc + 3) = .ok (.athrow, 1)) (hout : ∀ x ∈ c.exceptionTable.toList, covers x (g.pc + 3) = false)
    (hRframes : names.length + 4 < R.frames) (hRlocals : 2 * g.monitorRoom + ((Value.ref a :: rest).map fun v => v.category).sum + (13 * (names.length + 2) + 42) ≤ R.locals) (hlocks : meth.locks = false := by first | assumption | exact BodyLoose.notSynchronized (by assumption) | exact Body.notSynchronized (by assumption)) :
    ∃ U : State, Steps p.tables e below (W.setTop g) U ∧ U.status = .running ∧ Ended U below (.threw a) ∧ s.WarmedH U.vm ∧ s.sameButNew ({ U with vm := s.vm } : State) locs cells slots ∧
      ∃ ce, U.heap[a]? = some ce ∧ ce.vm = .none ∧ s.vm.findClass cls = some ce.cls := by
  have howns : e.platform.frameOwnsMonitors = true := by rw [X.admits.platform]
  have hfin : e.platform.finalization = false := by rw [X.admits.platform]
  have hpl : e.platform.magicAccessors = ({} : Platform).magicAccessors := by rw [X.admits.platform]
  have a' : ∀ x, x ∈ vy_atoms own ic cls sup idx bts names → x.holds args s none s [] = true := fun x hx => h x hx
  obtain ⟨T, Z0, L, -, Y⟩ := ThrowableC.of_atoms (args := args) howns hfin hpl (fun x hx => h x (by simp [vy_atoms, hx]))
  obtain ⟨Z, M, LZ, LM, hnZ⟩ := Init0T.ofS_atoms (args := args) hpl L Y (fun x hx => h x (by simp [vy_atoms, hx]))
  have hch : ∀ x ∈ vy_atoms own ic cls sup idx bts names, x.before args s = true := h
  obtain ⟨P1, L1, hP1m, hs1⟩ := PassC.ofS_atoms (args := args) (s := s) hpl (X := cls) (Y := sup) (Bundle.fit_spec hcls).1 (Bundle.fit_spec hsup).2 g0 g1 g2 g5 (fun c hc => h c (by simp only [vy_atoms, List.mem_append]; exact Or.inl (Or.inr (Or.inl hc))))
  obtain ⟨P2, Ps2, hlen2, L2, hL2, hm2, hsup2, hpass2⟩ := Bundle.chainS (args := args) hpl hnZ names sup hsup hnames (fun c hc => h c (by simp only [vy_atoms, List.mem_append]; exact Or.inl (Or.inr (Or.inr hc))))
  have hlen : (P2 :: Ps2).length = names.length + 1 := by simp [hlen2]
  have hL : ∀ P, P ∈ P2 :: Ps2 → P.LinksS e.platform s := fun P hP => by
    rcases List.mem_cons.mp hP with rfl | hP
    · exact L2
    · exact hL2 P hP
  have hlink1 : P1.sup = firstOf (Z.m T.toThrowableT) ((P2 :: Ps2).map (·.toPassT)) := Option.some.inj (hs1.symm.trans hm2)
  have hlink : PassesOn (Z.m T.toThrowableT) ((P2 :: Ps2).map (·.toPassT)) := ⟨hsup2, hpass2⟩
  generalize P2 :: Ps2 = Ps at hlen hL hlink1 hlink
              
  have hfound : s.vm.findClass cls = some P1.m.cls := findClass_of_methodNamed hP1m
  cases Option.some.inj (hfoundX.symm.trans hfound)
  obtain ⟨c1, kX', hc1, hk, hord, -, -, hn6⟩ := Cond.instantiable_spec (a' (.instantiable cls 6) (by simp [vy_atoms]))
  cases Option.some.inj (hc1.symm.trans hfound)
  cases Option.some.inj (hkX.symm.trans hk)
  have hsel0 : selectMethod e.platform s.vm P1.m.cls T.fill0 = .method T.fill0 := by
    obtain ⟨c2, r2, m2, q1, q2, q3, q4, -⟩ := Cond.selects_spec (a' (.selects cls Bundle.tFill0 Bundle.tFill0) (by simp [vy_atoms]))
    cases Option.some.inj (q1.symm.trans hfound)
    cases Option.some.inj (q2.symm.trans (State.methodFound?_of_named Y.fill0 (by decide)))
    cases Option.some.inj (q3.symm.trans Y.fill0)
    rw [Launch.admits_selectMethod X.admits]; exact q4
  have hselF : selectMethod e.platform s.vm P1.m.cls T.fill = .method T.fill := by
    obtain ⟨c2, r2, m2, q1, q2, q3, q4, -⟩ := Cond.selects_spec (a' (.selects cls Bundle.tFill Bundle.tFill) (by simp [vy_atoms]))
    cases Option.some.inj (q1.symm.trans hfound)
    cases Option.some.inj (q2.symm.trans (State.methodFound?_of_named Y.fill (by decide)))
    cases Option.some.inj (q3.symm.trans Y.fill)
    rw [Launch.admits_selectMethod X.admits]; exact q4
  obtain ⟨cellS0, hcS0, hiss⟩ := Y.statics
  obtain ⟨u0, hu0⟩ := Cond.staticRefV Y.unassigned L.unassignedStatic L.statics hcS0 hiss (a' (.isRef (.static Bundle.tN "UNASSIGNED_STACK" Bundle.steD)) (by simp [vy_atoms]))
  obtain ⟨sen, hsen⟩ := Cond.staticRefV Y.sentinel L.sentinelStatic L.statics hcS0 hiss (a' (.isRef (.static Bundle.tN "SUPPRESSED_SENTINEL" Bundle.listD)) (by simp [vy_atoms]))
  obtain ⟨ci198, i198, fB, hk198, hg198, ha198, hsB, -, hnB, htB, hffB⟩ := Cond.ownField (t := .object "java/lang/Object") Y.found L.cls (by decide +kernel) (a' (.fieldLink Bundle.tN 198 Bundle.tN "backtrace" "Ljava/lang/Object;") (by simp [vy_atoms])) (a' (.lays Bundle.tN Bundle.tN "backtrace" "Ljava/lang/Object;") (by simp [vy_atoms])) e.platform hpl
  obtain ⟨cellS, hcS', heS, -, hkeep⟩ := X.same.2.2.2.2.2 T.aS cellS0 hcS0
  have hcellS : W.heap[T.aS]? = some cellS := hcS'
  have hout' : ∀ i, (⟨T.aS, i⟩ : Loc) ∉ locs := fun i hmem => by
    have := hlocs _ hmem cellS0 hcS0
    rw [hiss] at this; cases this
  have hknownS : cellS.vm ≠ .unknown := by
    rw [heS]; intro hu
    rw [show cellS0.vm = .unknown from hu] at hiss
    cases hiss
  have hneS : T.aS ≠ a := Nat.ne_of_lt (Nat.lt_of_lt_of_le (Array.getElem?_eq_some_iff.mp hcS0).1 hnew)
  obtain ⟨iM, hffM⟩ := Y.msg
  obtain ⟨tyC, dC, hdC, hdnC⟩ := Cond.laysAt hfound hk Y.cause (a' (.lays cls Bundle.tN "cause" "Ljava/lang/Throwable;") (by simp [vy_atoms]))
  obtain ⟨tyS, dS, hdS, hdnS⟩ := Cond.laysAt hfound hk Y.stack (a' (.lays cls Bundle.tN "stackTrace" Bundle.steD) (by simp [vy_atoms]))
  obtain ⟨tyP, dP, hdP, hdnP⟩ := Cond.laysAt hfound hk Y.supp (a' (.lays cls Bundle.tN "suppressedExceptions" Bundle.listD) (by simp [vy_atoms]))
  obtain ⟨tyM, dM, hdM, hdnM⟩ := Cond.laysAt hfound hk hffM (a' (.lays cls Bundle.tN "detailMessage" "Ljava/lang/String;") (by simp [vy_atoms]))
  obtain ⟨tyB, dB, hdB, hdnB⟩ := Cond.laysAt hfound hk hffB (a' (.lays cls Bundle.tN "backtrace" "Ljava/lang/Object;") (by simp [vy_atoms]))
  have bC := Cond.laysApart hdB hdC hdnB hdnC (by rw [hnB, Y.causeName]; decide)
  have bS := Cond.laysApart hdB hdS hdnB hdnS (by rw [hnB, Y.stackName]; decide)
  have bP := Cond.laysApart hdB hdP hdnB hdnP (by rw [hnB, Y.suppName]; decide)
  have hskip : SkipFacts T e.platform s (fun u => u) u0 ((preparedCellV T.toThrowableT (freshCell P1.m.cls kX) a u0 sen).withEntry W.cur) :=
    ⟨{ ci198 := ci198, i198 := i198, fBack := fB }, ⟨hk198, hg198, ha198, hsB⟩, by
      have := fresh_default (c := P1.m.cls) tyB
      rw [htB] at this
      simpa [preparedCellV, Cell.setSlot, Cell.withEntry, Array.getElem?_setIfInBounds, bC, bS, bP, bC.symm, bS.symm, bP.symm, defaultValue] using this, fun _ _ => rfl⟩
                                     
  obtain ⟨tm, methC, cdC, kC, vm₁, hnC, -, -, -, -, -, -, -, hW₁, st1⟩ := Steps.initColdS (tb := p.tables) (e := e) (below := below) (s := s) (U := W) X.here hexec X.warmed hpl hown (t := Bundle.initS cls) rfl rfl (Bundle.fit_spec hcls).2
    (a' (.methodLink own ic (Bundle.initS cls)) (by simp [vy_atoms])) (h (.instanceMethod (Bundle.initS cls)) (by simp [vy_atoms, Bundle.passSAtoms])) (bytes := bts) (maxL := 2) (h (.code (Bundle.initS cls) bts 2 none) (by simp [vy_atoms, Bundle.passSAtoms]))
    (f := g) hg (a := a) (msg := msg) (rest := .ref a :: rest) hstack hd6
  cases Option.some.inj (hnC.symm.trans hP1m)
  have X₁ := X.noted hW₁
                                 
  obtain ⟨vm₂, X₂, st2⟩ := X₁.ctorMessageOffV hexec (g := { g with stack := .ref a :: rest }) hg hsize T L Z LZ M LM (P1 :: Ps)
    (fun P hP => by rcases List.mem_cons.mp hP with rfl | hP; exact L1; exact hL P hP) ⟨hlink1, hlink⟩ (u0 := u0) (sen := sen) (self := a) hmsg (cell := freshCell P1.m.cls kX) (cellS := cellS)
    hcell (fun _ => by simp) (by simp) rfl rfl hsel0 hselF hcellS hneS hknownS (by rw [hkeep _ (hout' _)]; exact hu0) (by rw [hkeep _ (hout' _)]; exact hsen)
    (Takes.of_laid hk hord tyC (by rw [Y.causeType]; rfl)) (Takes.of_laid hk hord tyS (by rw [Y.stackType]; exact fits_refV_array _ u0)) (Takes.of_laid hk hord tyP (by rw [Y.suppType]; exact fits_refV_object _ sen))
    (Takes.of_laid hk hord tyM (by rw [Y.msgType]; exact fits_refV_object _ ⟨msg, hmsg⟩)) Y.objLocals hskip htr [] hd6
    (by simp only [List.length_cons, hlen]; omega) (by simp only [List.length_cons, hlen]; exact hRlocals)
                                    
  obtain ⟨hwalk, hrun, hended, hWU, hsame⟩ := X₂.athrowLeaves hexec (g := { g with stack := .ref a :: rest, pc := g.pc + 3 }) hg hlocked hentered hout (a := a) (rest := rest) rfl hd9
  obtain ⟨c3, c4, hc3, hc4, hasg⟩ := Cond.castable_spec (a' (.castable cls cls) (by simp [vy_atoms]))
  cases Option.some.inj (hc3.symm.trans hfound)
  cases Option.some.inj (hc4.symm.trans hfound)
  have hlt : a < ((W.setVm vm₁).setVm vm₂).heap.size := (Array.getElem?_eq_some_iff.mp hcell).1
  have hU := heapAt_setCell_self (s := (W.setVm vm₁).setVm vm₂) (plainBareV T.toThrowableT (freshCell P1.m.cls kX) a u0 sen msg) hlt
  have hnM : T.fMsg.name = "detailMessage" := (State.fieldFound?_type hffM (t := .object "java/lang/String") (by decide +kernel)).1
  refine ⟨_, st1 _ (fun acts => ?_), hrun, hended, hWU, hsame.weaken (fun y hy hlt' => ?_) (Nat.le_refl _) (Nat.le_refl _), _, hU, rfl, hfound⟩
  · rw [doInvoke_state]
    exact st2 _ hwalk
  · rcases List.mem_append.mp hy with h1 | h1
    · exact h1
    · exfalso
      have hb : y.base = a := by
        simp only [List.mem_cons, List.not_mem_nil, or_false] at h1
        rcases h1 with rfl | rfl | rfl | rfl | rfl <;> rfl
      rw [hb] at hlt'
      exact Nat.not_lt.mpr hnew hlt'
end VY
section VYE
variable {p : Program} {l : Launch} {e : Env} {R : Room} {s : State} {m : MethodId} {args : Array Value} {below : List Frame} {meth : Method} {c : Code} {H : Heap} {locs : List Loc} {cells slots : Nat} {Q : State → Prop}
variable {mc ms : Nat} {free : Addr → Prop} {A0 A1 : Nat → Prop} {H0 : Heap} {a : Array Value} {ls : Array Slot} {st0 rest : List Value}
variable {Qc : Array Value → State → Outcome → State → Prop} {XC : String → State → State → Prop}
theorem vy_throwS {cc : ByteArray} {pc : Nat} (hexec : p.tables.exec = Jvm.exec) (hb : c.code = cc) (hl : l.stackTraces = false) {own cls text : String} {sup : String} {bts : ByteArray} {idx : Nat} {names : List String} (g0 : decode bts 0 = .ok (.aload_n 0, 1)) (g1 : decode bts 1 = .ok (.aload_n 1, 1)) (g2 : decode bts 2 = .ok (.invokespecial idx, 3)) (g5 : decode bts 5 = .ok (.return_, 1)) (hsup : Bundle.fit sup = true) {ik is ic mc ms sa : Nat} {A : Nat → Prop}
    (hown : s.vm.findClass own = some m.cls) (hcls : Bundle.fit cls = true) (hnames : ∀ n ∈ names, Bundle.fit n = true)
    (hk : (Cond.classLink own ik cls).before args s = true) (hini : (Cond.initialized cls).before args s = true) (hstr : vk_R own is text sa s) (hat : ∀ w ∈ vy_at own ic cls sup idx bts names, w.before args s = true)
    (hgood : ∀ w ∈ Cond.classLink own ik cls :: Cond.initialized cls :: vy_at own ic cls sup idx bts names, vx_ot w = true)
    (hU : vx_Zq Bundle.tN "UNASSIGNED_STACK" Bundle.steD A s s.heap) (hN : vx_Zq Bundle.tN "SUPPRESSED_SENTINEL" Bundle.listD A s s.heap) (hS : va_S A s.heap H locs) (hsize : ls.size = c.maxLocals)
    (d0 : decode cc pc = .ok (.new ik, 3)) (d3 : decode cc (pc + 3) = .ok (.dup, 1)) (d4 : decode cc (pc + 4) = .ok (.ldc is, 2)) (d6 : decode cc (pc + 6) = .ok (.invokespecial ic, 3)) (d9 : decode cc (pc + 9) = .ok (.athrow, 1))
    (hout : ∀ x ∈ c.exceptionTable.toList, covers x (pc + 9) = false)
    (hRframes : names.length + 4 < R.frames) (hRlocals : (rest.map fun v => v.category).sum + (13 * (names.length + 2) + 43) ≤ R.locals) (hRcells : cells + 1 ≤ R.cells) (hRslots : slots + 6 ≤ R.slots) (hlocks : meth.locks = false)
    (hx : ∀ t : State, s.vm.Alike t.vm → H.size ≤ t.heap.size → (∀ q : Nat, q < H.size → t.heap[q]? = H[q]?) → XC cls s t)
    (hf : ∀ z ∈ locs, free z.base) (hc : cells + 1 ≤ mc) (hs : slots + 6 ≤ ms) :
    W p l e R s m args below meth c H locs cells slots (vx_MQ below Qc XC args s mc ms free) (F0 m pc ls rest) := by
  intro T hT X
  have htr : e.platform.stackTraces = false := (show e.platform.stackTraces = l.stackTraces by rw [X.admits.platform]).trans hl
  have Y := vx_rebase X (R' := { frames := R.frames, locals := R.locals, cells := 1, slots := 6 }) (Nat.le_refl _) (Nat.le_refl _) hRcells hRslots
  obtain ⟨s', hA⟩ : ∃ z, z = (T.setVm s.vm).setFrames (.invoking m args :: below) := ⟨_, rfl⟩
  rw [← hA] at Y
  have hvm : s'.vm = s.vm := by rw [hA]; rfl
  have hhp : s'.heap = H := by rw [hA]; exact hT
  have hW0 : s.WarmedH s'.vm := by rw [hvm]; exact State.WarmedH.refl s
  have hat' : ∀ w ∈ vy_at own ic cls sup idx bts names, w.before args s' = true := fun w hw => vx_ot_at hW0 hvm.symm (hgood w (List.mem_cons_of_mem _ (List.mem_cons_of_mem _ hw))) (hat w hw)
  have hk' : (Cond.classLink own ik cls).before args s' = true := vx_ot_at hW0 hvm.symm (hgood _ List.mem_cons_self) hk
  have hini' : (Cond.initialized cls).before args s' = true := vx_ot_at hW0 hvm.symm (hgood _ (List.mem_cons_of_mem _ List.mem_cons_self)) hini
  have hU' : vx_Zq Bundle.tN "UNASSIGNED_STACK" Bundle.steD A s' s'.heap := by rw [hhp]; exact vx_Zq.moved hW0.alike (hU.kept hS.2.1)
  have hN' : vx_Zq Bundle.tN "SUPPRESSED_SENTINEL" Bundle.listD A s' s'.heap := by rw [hhp]; exact vx_Zq.moved hW0.alike (hN.kept hS.2.1)
  have h : ∀ w ∈ vy_atoms own ic cls sup idx bts names, w.before args s' = true := vx_own hat' (vx_isRefq hU'.1) (vx_isRefq hN'.1) hU'.2.word hN'.2.word
  have hown' : s'.vm.findClass own = some m.cls := by rw [hvm]; exact hown
  have hins : (Cond.instantiable cls 6).before args s' = true := h _ (by simp [vy_atoms])
  obtain ⟨vm₁, cX, kX, hfX, hkX, -, -, X₁, st1⟩ := Y.newCold hexec (own := own) (C := cls) (index := ik) (n := 6) hown' hk' hins hini'
    (g := F0 m pc ls rest) rfl (by rw [hb]; exact d0) (Nat.le_refl _) (Nat.le_refl _)
  generalize hT1 : (T.setVm vm₁).pushCell { cls := cX, slots := kX.instanceTypes.map defaultValue, vm := .none } = T1 at X₁ st1
  have hcat : (Value.ref T.heap.size).category = 1 := rfl
  have hcellA : T1.heap[T.heap.size]? = some (freshCell cX kX) := by rw [← hT1]; exact State.heap_pushCell_size _ _
  have d3' : decode c.code (pc + 3) = .ok (.dup, 1) := by rw [hb]; exact d3
  have d4' : decode c.code (pc + 4) = .ok (.ldc is, 2) := by rw [hb]; exact d4
  have hstr' : vk_R own is text sa s' := vk_R.warm hW0 hstr
  obtain ⟨U, hsteps, hrun, hend, hW, hsame, ce, hce, hO⟩ := vy_ctor X₁ hexec htr g0 g1 g2 g5 hsup (own := own) (cls := cls) (names := names) (ic := ic) hown' hcls hnames h (fun x hx => nomatch hx) hfX hkX hcellA (by rw [hhp, hT]; exact Nat.le_refl _) (msg := .ref sa) rfl
    (g := { method := m, pc := pc + 6, locals := ls, stack := .ref sa :: .ref T.heap.size :: .ref T.heap.size :: rest, locked := none }) rfl hsize rfl rfl (rest := rest) rfl
    (by rw [hb]; exact d6) (by rw [hb]; exact d9) hout hRframes (by simp only [List.map_cons, List.sum_cons, hcat]; omega) hlocks
  obtain ⟨f1, f2⟩ := vx_frame hsame
  rw [hhp] at f1 f2
  have hWs : s.WarmedH U.vm := State.WarmedH.trans hW0 hW
  have hcl : s.vm.findClass cls = some ce.cls := by
    have h9 := hO.2
    rw [hvm] at h9
    exact h9
  have hall : s.sameButNew ({ U with vm := s.vm } : State) locs mc ms := by
    subst hA
    obtain ⟨e1, e2⟩ := hsame
    rw [State.setFrames_setFrames] at e1
    have h2 : (T.setVm s.vm).sameButNew ({ U with vm := s.vm } : State) [] (0 + 1) (0 + 6) := ⟨e1, e2⟩
    have h3 := X.same.trans h2
    rw [List.append_nil] at h3
    exact h3.mono hc hs
  refine ⟨U, ?_, .threw T.heap.size, hrun, hend, Or.inr ⟨T.heap.size, rfl, cls, ce, locs, hx U hWs.alike f1 (fun q hq => f2 q hq (fun z hz => nomatch hz)), hce, hO.1, hcl, hWs, hall, hf⟩⟩
  refine st1 _ ?_
  show Steps p.tables e below (T1.setTop { method := m, pc := pc + 3, locals := ls, stack := .ref T.heap.size :: rest, locked := none }) _
  jvm_step X₁.here [X₁.here.top, hexec, d3', Value.category]
  exact X₁.ldcString hexec (own := own) (text := text) (index := is) (a := sa) hown' hstr'.1 hstr'.2
    (g := { method := m, pc := pc + 4, locals := ls, stack := .ref T.heap.size :: .ref T.heap.size :: rest, locked := none }) rfl d4' _ hsteps
theorem vy_throwSW {cc : ByteArray} {pc : Nat} (hexec : p.tables.exec = Jvm.exec) (hb : c.code = cc) (hl : l.stackTraces = false) {own cls text : String} {sup : String} {bts : ByteArray} {idx : Nat} {names : List String} (g0 : decode bts 0 = .ok (.aload_n 0, 1)) (g1 : decode bts 1 = .ok (.aload_n 1, 1)) (g2 : decode bts 2 = .ok (.invokespecial idx, 3)) (g5 : decode bts 5 = .ok (.return_, 1)) (hsup : Bundle.fit sup = true) {ik is ic mc ms sa : Nat} {A : Nat → Prop}
    (hown : s.vm.findClass own = some m.cls) (hcls : Bundle.fit cls = true) (hnames : ∀ n ∈ names, Bundle.fit n = true)
    (hk : (Cond.classLink own ik cls).before args s = true) (hini : (Cond.initialized cls).before args s = true) (hstr : vk_R own is text sa s) (hat : ∀ w ∈ vy_at own ic cls sup idx bts names, w.before args s = true)
    (hgood : ∀ w ∈ Cond.classLink own ik cls :: Cond.initialized cls :: vy_at own ic cls sup idx bts names, vx_ot w = true)
    (hU : vx_Zq Bundle.tN "UNASSIGNED_STACK" Bundle.steD A s s.heap) (hN : vx_Zq Bundle.tN "SUPPRESSED_SENTINEL" Bundle.listD A s s.heap) (hS : va_S A s.heap H locs) (hsize : ls.size = c.maxLocals)
    (d0 : decode cc pc = .ok (.new ik, 3)) (d3 : decode cc (pc + 3) = .ok (.dup, 1)) (d4 : decode cc (pc + 4) = .ok (.ldc_w is, 3)) (d7 : decode cc (pc + 7) = .ok (.invokespecial ic, 3)) (d10 : decode cc (pc + 10) = .ok (.athrow, 1))
    (hout : ∀ x ∈ c.exceptionTable.toList, covers x (pc + 10) = false)
    (hRframes : names.length + 4 < R.frames) (hRlocals : (rest.map fun v => v.category).sum + (13 * (names.length + 2) + 43) ≤ R.locals) (hRcells : cells + 1 ≤ R.cells) (hRslots : slots + 6 ≤ R.slots) (hlocks : meth.locks = false)
    (hx : ∀ t : State, s.vm.Alike t.vm → H.size ≤ t.heap.size → (∀ q : Nat, q < H.size → t.heap[q]? = H[q]?) → XC cls s t)
    (hf : ∀ z ∈ locs, free z.base) (hc : cells + 1 ≤ mc) (hs : slots + 6 ≤ ms) :
    W p l e R s m args below meth c H locs cells slots (vx_MQ below Qc XC args s mc ms free) (F0 m pc ls rest) := by
  intro T hT X
  have htr : e.platform.stackTraces = false := (show e.platform.stackTraces = l.stackTraces by rw [X.admits.platform]).trans hl
  have Y := vx_rebase X (R' := { frames := R.frames, locals := R.locals, cells := 1, slots := 6 }) (Nat.le_refl _) (Nat.le_refl _) hRcells hRslots
  obtain ⟨s', hA⟩ : ∃ z, z = (T.setVm s.vm).setFrames (.invoking m args :: below) := ⟨_, rfl⟩
  rw [← hA] at Y
  have hvm : s'.vm = s.vm := by rw [hA]; rfl
  have hhp : s'.heap = H := by rw [hA]; exact hT
  have hW0 : s.WarmedH s'.vm := by rw [hvm]; exact State.WarmedH.refl s
  have hat' : ∀ w ∈ vy_at own ic cls sup idx bts names, w.before args s' = true := fun w hw => vx_ot_at hW0 hvm.symm (hgood w (List.mem_cons_of_mem _ (List.mem_cons_of_mem _ hw))) (hat w hw)
  have hk' : (Cond.classLink own ik cls).before args s' = true := vx_ot_at hW0 hvm.symm (hgood _ List.mem_cons_self) hk
  have hini' : (Cond.initialized cls).before args s' = true := vx_ot_at hW0 hvm.symm (hgood _ (List.mem_cons_of_mem _ List.mem_cons_self)) hini
  have hU' : vx_Zq Bundle.tN "UNASSIGNED_STACK" Bundle.steD A s' s'.heap := by rw [hhp]; exact vx_Zq.moved hW0.alike (hU.kept hS.2.1)
  have hN' : vx_Zq Bundle.tN "SUPPRESSED_SENTINEL" Bundle.listD A s' s'.heap := by rw [hhp]; exact vx_Zq.moved hW0.alike (hN.kept hS.2.1)
  have h : ∀ w ∈ vy_atoms own ic cls sup idx bts names, w.before args s' = true := vx_own hat' (vx_isRefq hU'.1) (vx_isRefq hN'.1) hU'.2.word hN'.2.word
  have hown' : s'.vm.findClass own = some m.cls := by rw [hvm]; exact hown
  have hins : (Cond.instantiable cls 6).before args s' = true := h _ (by simp [vy_atoms])
  obtain ⟨vm₁, cX, kX, hfX, hkX, -, -, X₁, st1⟩ := Y.newCold hexec (own := own) (C := cls) (index := ik) (n := 6) hown' hk' hins hini'
    (g := F0 m pc ls rest) rfl (by rw [hb]; exact d0) (Nat.le_refl _) (Nat.le_refl _)
  generalize hT1 : (T.setVm vm₁).pushCell { cls := cX, slots := kX.instanceTypes.map defaultValue, vm := .none } = T1 at X₁ st1
  have hcat : (Value.ref T.heap.size).category = 1 := rfl
  have hcellA : T1.heap[T.heap.size]? = some (freshCell cX kX) := by rw [← hT1]; exact State.heap_pushCell_size _ _
  have d3' : decode c.code (pc + 3) = .ok (.dup, 1) := by rw [hb]; exact d3
  have d4' : decode c.code (pc + 4) = .ok (.ldc_w is, 3) := by rw [hb]; exact d4
  have hstr' : vk_R own is text sa s' := vk_R.warm hW0 hstr
  obtain ⟨U, hsteps, hrun, hend, hW, hsame, ce, hce, hO⟩ := vy_ctor X₁ hexec htr g0 g1 g2 g5 hsup (own := own) (cls := cls) (names := names) (ic := ic) hown' hcls hnames h (fun x hx => nomatch hx) hfX hkX hcellA (by rw [hhp, hT]; exact Nat.le_refl _) (msg := .ref sa) rfl
    (g := { method := m, pc := pc + 7, locals := ls, stack := .ref sa :: .ref T.heap.size :: .ref T.heap.size :: rest, locked := none }) rfl hsize rfl rfl (rest := rest) rfl
    (by rw [hb]; exact d7) (by rw [hb]; exact d10) hout hRframes (by simp only [List.map_cons, List.sum_cons, hcat]; omega) hlocks
  obtain ⟨f1, f2⟩ := vx_frame hsame
  rw [hhp] at f1 f2
  have hWs : s.WarmedH U.vm := State.WarmedH.trans hW0 hW
  have hcl : s.vm.findClass cls = some ce.cls := by
    have h9 := hO.2
    rw [hvm] at h9
    exact h9
  have hall : s.sameButNew ({ U with vm := s.vm } : State) locs mc ms := by
    subst hA
    obtain ⟨e1, e2⟩ := hsame
    rw [State.setFrames_setFrames] at e1
    have h2 : (T.setVm s.vm).sameButNew ({ U with vm := s.vm } : State) [] (0 + 1) (0 + 6) := ⟨e1, e2⟩
    have h3 := X.same.trans h2
    rw [List.append_nil] at h3
    exact h3.mono hc hs
  refine ⟨U, ?_, .threw T.heap.size, hrun, hend, Or.inr ⟨T.heap.size, rfl, cls, ce, locs, hx U hWs.alike f1 (fun q hq => f2 q hq (fun z hz => nomatch hz)), hce, hO.1, hcl, hWs, hall, hf⟩⟩
  refine st1 _ ?_
  show Steps p.tables e below (T1.setTop { method := m, pc := pc + 3, locals := ls, stack := .ref T.heap.size :: rest, locked := none }) _
  jvm_step X₁.here [X₁.here.top, hexec, d3', Value.category]
  exact X₁.ldcStringW hexec (own := own) (text := text) (index := is) (a := sa) hown' hstr'.1 hstr'.2
    (g := { method := m, pc := pc + 4, locals := ls, stack := .ref T.heap.size :: .ref T.heap.size :: rest, locked := none }) rfl d4' _ hsteps
end VYE
end
section
/-! methods that may throw, walked -/
/-- q, of the class E, is thrown over the frame at pc -/
def VX (X : Cx) (a b nL : Nat) (sg : Sg) (o : Ot) (lo : List (Nat × Value)) (pc : Nat) (rest : List Value) (E : String) : Prop :=
  ∀ (H : Heap) (locs : List Loc) (ls : Array Slot) (q : Addr) (ce : Cell), Wd (xD X) (xK X) (xg X) sg o H → va_S (xA X) (xs_ X).heap H locs → lv_has ls nL lo → H[q]? = some ce → ce.vm = .none → (xs_ X).vm.findClass E = some ce.cls →
    vx_W (xp X) (xl X) (xe X) (xR X) (xs_ X) (xm X) (xa X) (xb X) (xh X) (xc X) H locs a b (xQ X) (F0 (xm X) pc ls rest) q
/-- it goes on to the caller -/
def Tq (X : Cx) (mc ms : Nat) (sg : Sg) (o : Ot) (ex : Option String) : Prop := ∀ (a b nL : Nat) (lo : List (Nat × Value)) (pc : Nat) (rest : List Value) (E : String), a ≤ mc → b ≤ ms → ex = some E → VX X a b nL sg o lo pc rest E
/-- the words of a throw site -/
def TS (own : String) (ik ix_ ic : Nat) (E tx : String) (L : List Cond) : Prop := Cond.classLink own ik E ∈ ALL ∧ Cond.initialized E ∈ ALL ∧ (∀ w ∈ L.filter goodWord, w ∈ ALL) ∧ (∀ w ∈ L.filter (fun w => !goodWord w), w ∈ [Cond.castable E E]) ∧ (∀ w ∈ Cond.classLink own ik E :: Cond.initialized E :: L, vx_ot w = true) ∧ E ∈ exL ∧ (ix_, tx) ∈ strL ∧ Bundle.fit E = true ∧ own = RX4
def nmS : List String := ["java/lang/RuntimeException", "java/lang/Exception"]
def nmN : List String := ["java/lang/Exception"]
def btN : ByteArray := ⟨#[0x2a, 0x2b, 0xb7, 0x00, 0x0d, 0xb1]⟩
abbrev atN_ (own : String) (ic : Nat) (E : String) : List Cond := vy_at own ic E "java/lang/RuntimeException" 13 btN nmN
abbrev atS_ (own : String) (ic : Nat) (E : String) : List Cond := vx_atS own ic E nmS
/-- 'throw new E(text)' at pc: the classes but NoSuchElementException (S, and W by the wide index), and that one (N, M) -/
def ThS (X : Cx) (cc : ByteArray) (own : String) (nL rk mc ms : Nat) (sg : Sg) (o : Ot) (ex : Option String) : Prop := ∀ (a b : Nat) (lo : List (Nat × Value)) (pc : Nat) (st : List Value) (ik is ic : Nat) (E tx : String), TS own ik is ic E tx (atS_ own ic E) →
  decode cc pc = .ok (.new ik, 3) → decode cc (pc + 3) = .ok (.dup, 1) → decode cc (pc + 4) = .ok (.ldc is, 2) → decode cc (pc + 6) = .ok (.invokespecial ic, 3) → decode cc (pc + 9) = .ok (.athrow, 1) → 8 ≤ rk → (st.map fun v => v.category).sum ≤ 8 → a + 1 ≤ mc → b + 6 ≤ ms → ex = some E → V X a b nL sg o lo pc st
def ThW (X : Cx) (cc : ByteArray) (own : String) (nL rk mc ms : Nat) (sg : Sg) (o : Ot) (ex : Option String) : Prop := ∀ (a b : Nat) (lo : List (Nat × Value)) (pc : Nat) (st : List Value) (ik is ic : Nat) (E tx : String), TS own ik is ic E tx (atS_ own ic E) →
  decode cc pc = .ok (.new ik, 3) → decode cc (pc + 3) = .ok (.dup, 1) → decode cc (pc + 4) = .ok (.ldc_w is, 3) → decode cc (pc + 7) = .ok (.invokespecial ic, 3) → decode cc (pc + 10) = .ok (.athrow, 1) → 8 ≤ rk → (st.map fun v => v.category).sum ≤ 8 → a + 1 ≤ mc → b + 6 ≤ ms → ex = some E → V X a b nL sg o lo pc st
def ThN (X : Cx) (cc : ByteArray) (own : String) (nL rk mc ms : Nat) (sg : Sg) (o : Ot) (ex : Option String) : Prop := ∀ (a b : Nat) (lo : List (Nat × Value)) (pc : Nat) (st : List Value) (ik is ic : Nat) (E tx : String), TS own ik is ic E tx (atN_ own ic E) →
  decode cc pc = .ok (.new ik, 3) → decode cc (pc + 3) = .ok (.dup, 1) → decode cc (pc + 4) = .ok (.ldc is, 2) → decode cc (pc + 6) = .ok (.invokespecial ic, 3) → decode cc (pc + 9) = .ok (.athrow, 1) → 8 ≤ rk → (st.map fun v => v.category).sum ≤ 8 → a + 1 ≤ mc → b + 6 ≤ ms → ex = some E → V X a b nL sg o lo pc st
def ThM (X : Cx) (cc : ByteArray) (own : String) (nL rk mc ms : Nat) (sg : Sg) (o : Ot) (ex : Option String) : Prop := ∀ (a b : Nat) (lo : List (Nat × Value)) (pc : Nat) (st : List Value) (ik is ic : Nat) (E tx : String), TS own ik is ic E tx (atN_ own ic E) →
  decode cc pc = .ok (.new ik, 3) → decode cc (pc + 3) = .ok (.dup, 1) → decode cc (pc + 4) = .ok (.ldc_w is, 3) → decode cc (pc + 7) = .ok (.invokespecial ic, 3) → decode cc (pc + 10) = .ok (.athrow, 1) → 8 ≤ rk → (st.map fun v => v.category).sum ≤ 8 → a + 1 ≤ mc → b + 6 ≤ ms → ex = some E → V X a b nL sg o lo pc st
/-- all that a walk of a throwing body is given -/
def Th (X : Cx) (cc : ByteArray) (own : String) (nL rk mc ms : Nat) (sg : Sg) (o : Ot) (ex : Option String) : Prop := Xw (xA X) (xs_ X) ∧ Tq X mc ms sg o ex ∧ ThS X cc own nL rk mc ms sg o ex ∧ ThW X cc own nL rk mc ms sg o ex ∧ ThN X cc own nL rk mc ms sg o ex ∧ ThM X cc own nL rk mc ms sg o ex ∧ (xl X).stackTraces = false
section MX
variable {l : Launch} {y : MethodName} {bytes : ByteArray} {maxL rk mc ms : Nat} {rt : FieldType} {av : (Nat → Nat) → List Value} {sg sg1 : Sg} {o o1 : Ot} {D : va_G} {K : Nat → ClassId} {g : Nat → Nat} {own : String} {lo : (Nat → Nat) → List (Nat × Value)} {ex : Option String}
abbrev XCf (D : va_G) (K : Nat → ClassId) (g : Nat → Nat) (sg : Sg) (o : Ot) (ex : Option String) : String → State → State → Prop := vx_X (fun E : String => ex = some E) (fun E1 E t => E1 = E ∧ Wd D K g sg o t.heap) (inG g)
abbrev QCf (D : va_G) (K : Nat → ClassId) (g : Nat → Nat) (rv : Option Value) (sg1 : Sg) (o1 : Ot) (ex : Option String) : Array Value → State → Outcome → State → Prop := fun a st oc t => ex = none ∧ Rt D K g rv sg1 o1 a st oc t
theorem mk_atw {X : Cx} {L : List Cond} {E : String} (hts : ∀ w ∈ ALL, w.before (xa X) (xs_ X) = true) (hw : Xw (xA X) (xs_ X)) (hE : E ∈ exL) (h1 : ∀ w ∈ L.filter goodWord, w ∈ ALL) (h2 : ∀ w ∈ L.filter (fun w => !goodWord w), w ∈ [Cond.castable E E]) : ∀ w ∈ L, w.before (xa X) (xs_ X) = true :=
  vx_hat (fun w h => hts w (h1 w h)) h2 (vx_c (va_Nw.use rfl (hw.2.1 E hE)) vx_n)
theorem mk_xc {X : Cx} {H : Heap} {locs : List Loc} {E : String} (hA : xA X = inG (xg X)) (hP : Wd (xD X) (xK X) (xg X) sg o H) (hS : va_S (xA X) (xs_ X).heap H locs) (he : ex = some E) : ∀ t : State, (xs_ X).vm.Alike t.vm → H.size ≤ t.heap.size → (∀ q : Nat, q < H.size → t.heap[q]? = H[q]?) → XCf (xD X) (xK X) (xg X) sg o ex E (xs_ X) t := by
  intro t _ hz hq
  refine ⟨E, he, ⟨rfl, hP.kept fun k q hk => hq _ (hP k q hk).lt⟩, Nat.le_trans hS.1 hz, fun q h1 h2 => ?_⟩
  rw [hq q (Nat.lt_of_lt_of_le h1 hS.1)]
  exact hS.2.1 q h1 (by rw [hA]; exact h2)
theorem mk_Th {X : Cx} {rv : Option Value} (hA : xA X = inG (xg X)) (hQ : xQ X = vx_MQ (xb X) (QCf (xD X) (xK X) (xg X) rv sg1 o1 ex) (XCf (xD X) (xK X) (xg X) sg o ex) (xa X) (xs_ X) mc ms (inG (xg X))) (C : CF X bytes own maxL rk mc ms) (hl : (xl X).stackTraces = false) (hex : ∀ x ∈ (xc X).exceptionTable.toList, False) (hw : Xw (xA X) (xs_ X)) : Th X bytes own maxL rk mc ms sg o ex := by
  obtain ⟨cx, cb, cm, co, ct, cK, cG, cA, ⟨r1, r2, r3, r4⟩, cl⟩ := C
  have hml : ∀ {nL : Nat} {ls : Array Slot}, True := fun {_ _} => trivial
  refine ⟨hw, ?_, ?_, ?_, ?_, ?_, hl⟩
  · intro a b nL lo pc rest E ha hb he H locs ls q ce hP hS _ hc hv hcl
    rw [hQ]
    exact vx_out (fun x hx => (hex x hx).elim) cl hc hv hcl (fun t ht _ => ⟨E, he, ⟨rfl, by rw [ht]; exact hP⟩, by have := hS.F (t := t) ht; rw [hA] at this; exact this⟩) (fun z hz => by rw [← hA]; exact hS.2.2 z hz) ha hb
  · intro a b lo pc st ik is ic E tx ts d0 d3 d4 d6 d9 h8 hcat ha hb he H locs ls hP hS hl1
    obtain ⟨t1, t2, t3, t4, t5, t6, t7, t8, t9⟩ := ts
    obtain ⟨sa, hsa⟩ := hw.2.2 _ t7
    have hats := mk_atw (X := X) (E := E) ct hw t6 t3 t4
    unfold WW
    rw [hQ]
    exact vx_throwS (names := nmS) cx cb hl co t8 (by decide) (ct _ t1) (ct _ t2) (by rw [t9]; exact hsa) hats t5 hw.1.1 hw.1.2 hS (hl1.1.trans cm.symm) d0 d3 d4 d6 d9 (fun x hx => (hex x hx).elim) (Nat.lt_of_lt_of_le (by decide) (Nat.le_trans h8 r1)) (Nat.le_trans (Nat.add_le_add_right hcat _) (Nat.le_trans (Nat.le_trans (by decide) (Nat.mul_le_mul_left 40 h8)) r2)) (Nat.le_trans ha r3) (Nat.le_trans hb r4) cl (mk_xc hA hP hS he) (fun z hz => by rw [← hA]; exact hS.2.2 z hz) ha hb
  · intro a b lo pc st ik is ic E tx ts d0 d3 d4 d6 d9 h8 hcat ha hb he H locs ls hP hS hl1
    obtain ⟨t1, t2, t3, t4, t5, t6, t7, t8, t9⟩ := ts
    obtain ⟨sa, hsa⟩ := hw.2.2 _ t7
    have hats := mk_atw (X := X) (E := E) ct hw t6 t3 t4
    unfold WW
    rw [hQ]
    exact vx_throwSW (names := nmS) cx cb hl co t8 (by decide) (ct _ t1) (ct _ t2) (by rw [t9]; exact hsa) hats t5 hw.1.1 hw.1.2 hS (hl1.1.trans cm.symm) d0 d3 d4 d6 d9 (fun x hx => (hex x hx).elim) (Nat.lt_of_lt_of_le (by decide) (Nat.le_trans h8 r1)) (Nat.le_trans (Nat.add_le_add_right hcat _) (Nat.le_trans (Nat.le_trans (by decide) (Nat.mul_le_mul_left 40 h8)) r2)) (Nat.le_trans ha r3) (Nat.le_trans hb r4) cl (mk_xc hA hP hS he) (fun z hz => by rw [← hA]; exact hS.2.2 z hz) ha hb
  · intro a b lo pc st ik is ic E tx ts d0 d3 d4 d6 d9 h8 hcat ha hb he H locs ls hP hS hl1
    obtain ⟨t1, t2, t3, t4, t5, t6, t7, t8, t9⟩ := ts
    obtain ⟨sa, hsa⟩ := hw.2.2 _ t7
    have hats := mk_atw (X := X) (E := E) ct hw t6 t3 t4
    unfold WW
    rw [hQ]
    exact vy_throwS (names := nmN) (bts := btN) (idx := 13) (sup := "java/lang/RuntimeException") (g0 := by decide +kernel) (g1 := by decide +kernel) (g2 := by decide +kernel) (g5 := by decide +kernel) (hsup := by decide) cx cb hl co t8 (by decide) (ct _ t1) (ct _ t2) (by rw [t9]; exact hsa) hats t5 hw.1.1 hw.1.2 hS (hl1.1.trans cm.symm) d0 d3 d4 d6 d9 (fun x hx => (hex x hx).elim) (Nat.lt_of_lt_of_le (by decide) (Nat.le_trans h8 r1)) (Nat.le_trans (Nat.add_le_add_right hcat _) (Nat.le_trans (Nat.le_trans (by decide) (Nat.mul_le_mul_left 40 h8)) r2)) (Nat.le_trans ha r3) (Nat.le_trans hb r4) cl (mk_xc hA hP hS he) (fun z hz => by rw [← hA]; exact hS.2.2 z hz) ha hb
  · intro a b lo pc st ik is ic E tx ts d0 d3 d4 d6 d9 h8 hcat ha hb he H locs ls hP hS hl1
    obtain ⟨t1, t2, t3, t4, t5, t6, t7, t8, t9⟩ := ts
    obtain ⟨sa, hsa⟩ := hw.2.2 _ t7
    have hats := mk_atw (X := X) (E := E) ct hw t6 t3 t4
    unfold WW
    rw [hQ]
    exact vy_throwSW (names := nmN) (bts := btN) (idx := 13) (sup := "java/lang/RuntimeException") (g0 := by decide +kernel) (g1 := by decide +kernel) (g2 := by decide +kernel) (g5 := by decide +kernel) (hsup := by decide) cx cb hl co t8 (by decide) (ct _ t1) (ct _ t2) (by rw [t9]; exact hsa) hats t5 hw.1.1 hw.1.2 hS (hl1.1.trans cm.symm) d0 d3 d4 d6 d9 (fun x hx => (hex x hx).elim) (Nat.lt_of_lt_of_le (by decide) (Nat.le_trans h8 r1)) (Nat.le_trans (Nat.add_le_add_right hcat _) (Nat.le_trans (Nat.le_trans (by decide) (Nat.mul_le_mul_left 40 h8)) r2)) (Nat.le_trans ha r3) (Nat.le_trans hb r4) cl (mk_xc hA hP hS he) (fun z hz => by rw [← hA]; exact hS.2.2 z hz) ha hb
theorem mk_xstart {ret : Option FieldType} {rv : Option Value} (hy : plainName y.cls = true) (hown : y.cls = own) (hlen : ∀ g, (lg_sl (av g)).length ≤ maxL) (hlo : ∀ g, lv_args 0 (av g) = lo g) (hl : l.stackTraces = false)
    (body : ∀ X : Cx, CF X bytes own maxL rk mc ms → (∀ (H : Heap) (locs : List Loc) (a b : Nat) (g1 : JFrame), (ex = none → W (xp X) (xl X) (xe X) (xR X) (xs_ X) (xm X) (xa X) (xb X) (xh X) (xc X) H locs a b (MQ (xb X) (QCf (xD X) (xK X) (xg X) rv sg1 o1 ex) (xa X) (xs_ X) mc ms (inG (xg X))) g1) → ex = none → WW X H locs a b g1) → (xh X).sig.returnType = ret → xA X = inG (xg X) → Th X bytes own maxL rk mc ms sg o ex → V X 0 0 maxL sg o (lo (xg X)) 0 []) : CX l y bytes maxL ret rk mc ms D K g (av g) sg o ex rv sg1 o1 := by
  refine vx_ofW (cc := bytes) (maxL := maxL) (ret := ret) hy rfl ?_
  intro p e s m args below meth c s₁ B hml hex hv
  obtain ⟨rfl, ⟨hP, hK, hG⟩, hw⟩ := hv
  have hts0 := atoms_spec (ws := wsM y bytes maxL ret) B.pre
  have C := mk_C (Q := vx_MQ below (QCf D K g rv sg1 o1 ex) (XCf D K g sg o ex) (av g).toArray s mc ms (inG g)) (own := own) hown hK hG (fun w h => hts0 w (List.mem_cons_of_mem _ h)) B hml
  refine mk_start (X := (p, l, e, rmR rk mc ms, s, m, (av g).toArray, below, meth, c, D, K, g, inG g, vx_MQ below (QCf D K g rv sg1 o1 ex) (XCf D K g sg o ex) (av g).toArray s mc ms (inG g))) (hlen g) (hlo g) hP (body _ C ?_ B.returns rfl (mk_Th rfl rfl C hl hex hw))
  intro H locs a b g1 h he
  exact vx_ret (h he)
theorem mk_xi {r : Int32} (hy : plainName y.cls = true) (hown : y.cls = own) (hn : narrow rt (.int r) = .int r) (hlen : ∀ g, (lg_sl (av g)).length ≤ maxL) (hlo : ∀ g, lv_args 0 (av g) = lo g) (hl : l.stackTraces = false)
    (body : ∀ X : Cx, CF X bytes own maxL rk mc ms → (ex = none → Ei X bytes mc ms sg1 o1 r) → Th X bytes own maxL rk mc ms sg o ex → V X 0 0 maxL sg o (lo (xg X)) 0 []) : CX l y bytes maxL (some rt) rk mc ms D K g (av g) sg o ex (some (.int r)) sg1 o1 := by
  refine mk_xstart hy hown hlen hlo hl fun X C hq hr hA T => body X C (fun he => ?_) T
  intro a b nL lo pc ha hb d H locs ls hP hS hl
  refine hq H locs a b _ (fun _ => W.widen ha hb (W.zret C.1 C.2.1 hr hn (fun t ht hW => ⟨he, ⟨rfl, by rw [ht]; exact hP⟩, by have := hS.F (t := t) ht; rw [hA] at this; exact this⟩) (fun z hz => by rw [← hA]; exact hS.2.2 z hz) d C.2.2.2.2.2.2.2.2.2)) he
theorem mk_xv (hy : plainName y.cls = true) (hown : y.cls = own) (hlen : ∀ g, (lg_sl (av g)).length ≤ maxL) (hlo : ∀ g, lv_args 0 (av g) = lo g) (hl : l.stackTraces = false)
    (body : ∀ X : Cx, CF X bytes own maxL rk mc ms → (ex = none → Ev X bytes mc ms sg1 o1) → Th X bytes own maxL rk mc ms sg o ex → V X 0 0 maxL sg o (lo (xg X)) 0 []) : CX l y bytes maxL none rk mc ms D K g (av g) sg o ex none sg1 o1 := by
  refine mk_xstart hy hown hlen hlo hl fun X C hq hr hA T => body X C (fun he => ?_) T
  intro a b nL lo pc ha hb d H locs ls hP hS hl
  refine hq H locs a b _ (fun _ => W.widen ha hb (W.vret C.1 C.2.1 hr (fun t ht hW => ⟨he, ⟨rfl, by rw [ht]; exact hP⟩, by have := hS.F (t := t) ht; rw [hA] at this; exact this⟩) (fun z hz => by rw [← hA]; exact hS.2.2 z hz) d C.2.2.2.2.2.2.2.2.2)) he
theorem mk_xf {r : UInt32} (hy : plainName y.cls = true) (hown : y.cls = own) (hlen : ∀ g, (lg_sl (av g)).length ≤ maxL) (hlo : ∀ g, lv_args 0 (av g) = lo g) (hl : l.stackTraces = false)
    (body : ∀ X : Cx, CF X bytes own maxL rk mc ms → (ex = none → Ef X bytes mc ms sg1 o1 r) → Th X bytes own maxL rk mc ms sg o ex → V X 0 0 maxL sg o (lo (xg X)) 0 []) : CX l y bytes maxL (some .float) rk mc ms D K g (av g) sg o ex (some (.float r)) sg1 o1 := by
  refine mk_xstart hy hown hlen hlo hl fun X C hq hr hA T => body X C (fun he => ?_) T
  intro a b nL lo pc ha hb d H locs ls hP hS hl
  refine hq H locs a b _ (fun _ => W.widen ha hb (W.fret C.1 C.2.1 hr (fun t ht hW => ⟨he, ⟨rfl, by rw [ht]; exact hP⟩, by have := hS.F (t := t) ht; rw [hA] at this; exact this⟩) (fun z hz => by rw [← hA]; exact hS.2.2 z hz) d C.2.2.2.2.2.2.2.2.2)) he
theorem mk_xd {r : UInt64} (hy : plainName y.cls = true) (hown : y.cls = own) (hlen : ∀ g, (lg_sl (av g)).length ≤ maxL) (hlo : ∀ g, lv_args 0 (av g) = lo g) (hl : l.stackTraces = false)
    (body : ∀ X : Cx, CF X bytes own maxL rk mc ms → (ex = none → Ed X bytes mc ms sg1 o1 r) → Th X bytes own maxL rk mc ms sg o ex → V X 0 0 maxL sg o (lo (xg X)) 0 []) : CX l y bytes maxL (some .double) rk mc ms D K g (av g) sg o ex (some (.double r)) sg1 o1 := by
  refine mk_xstart hy hown hlen hlo hl fun X C hq hr hA T => body X C (fun he => ?_) T
  intro a b nL lo pc ha hb d H locs ls hP hS hl
  refine hq H locs a b _ (fun _ => W.widen ha hb (W.dret C.1 C.2.1 hr (fun t ht hW => ⟨he, ⟨rfl, by rw [ht]; exact hP⟩, by have := hS.F (t := t) ht; rw [hA] at this; exact this⟩) (fun z hz => by rw [← hA]; exact hS.2.2 z hz) d C.2.2.2.2.2.2.2.2.2)) he
end MX
section VCX
variable {X : Cx} {cc : ByteArray} {own : String} {a b nL rk mc ms : Nat} {sg sg1 : Sg} {o o1 : Ot} {lo : List (Nat × Value)} {pc pc1 : Nat} {st rest : List Value}
theorem v_runX {mc1 ms1 : Nat} {ex : Option String} {ar : Array Value} {rv : Option Value} {H : Heap} {locs : List Loc} {ls : Array Slot} (hr : vx_Run (xp X) (xl X) (xe X) (xR X) (xs_ X) (xm X) (xa X) (xb X) (xh X) (xc X) H locs a b mc1 ms1 (F0 (xm X) pc ls st) rest (QCf (xD X) (xK X) (xg X) rv sg1 o1 ex ar) (XCf (xD X) (xK X) (xg X) sg o ex) (inG (xg X))) (hS : va_S (xA X) (xs_ X).heap H locs) (hA : ∀ q, inG (xg X) q → xA X q) (hl : lv_has ls nL lo)
    (kx : ∀ E, ex = some E → VX X (a + mc1) (b + ms1) nL sg o lo pc rest E) (kk : ex = none → V X (a + mc1) (b + ms1) nL sg1 o1 lo (pc + 3) (rv.toList ++ rest)) : WW X H locs a b (F0 (xm X) pc ls st) := by
  intro T hT Y
  rcases hr T hT Y with ⟨v, st₀, t, T', L, h0, Y', hL, e1, e2, ⟨he, ⟨hv, hp⟩, hF⟩, stp⟩ | ⟨q, st₀, t, T', L, E, ce, h0, Y', hL, e1, e2, ⟨u, he, ⟨rfl, hb⟩, hF⟩, hce, hcv, hcl, stp⟩
  · cases hv
    obtain ⟨k1, k2, k3⟩ := vx_keep h0 e1 hS (fun q _ h => hA q h) (fun q h => hA q h) hL hF
    obtain ⟨t2, a1, b1⟩ := kk he T'.heap (locs ++ L) ls (by rw [e1]; exact hp) k3 hl T' rfl Y'
    exact ⟨t2, stp t2 a1, b1⟩
  · obtain ⟨k1, k2, k3⟩ := vx_keep h0 e1 hS (fun q _ h => hA q h) (fun q h => hA q h) hL hF
    obtain ⟨t2, a1, b1⟩ := kx _ he T'.heap (locs ++ L) ls q ce (by rw [e1]; exact hb) k3 hl (by rw [e1]; exact hce) hcv hcl T' rfl Y'
    exact ⟨t2, stp.trans a1, b1⟩
theorem v_callVX (C : CF X cc own nL rk mc ms) (hw : Xw (xA X) (xs_ X)) {y : MethodName} {bytes : ByteArray} {maxL idx n rk1 mc1 ms1 c ci : Nat} {ret : Option FieldType} {ex : Option String} {rv : Option Value} {sl : List Nat} {q : vw_C} {As : List Value} (k : KV own idx y bytes maxL ret n)
    (M : CX (xl X) y bytes maxL ret rk1 mc1 ms1 (xD X) (xK X) (xg X) (.ref (xg X c) :: As) sg o ex rv sg1 o1) (hrk : rk1 + 1 ≤ rk) (hc : c < 68) (hy : lay c = .inl (ci, sl)) (hq : vwCl[ci]? = some q) (hq1 : q.1 = y.cls) (hst : st = As.reverse ++ .ref (xg X c) :: rest) (hn : As.length = n) (hcat : (rest.map fun v => v.category).sum ≤ 8) (ha : a + mc1 ≤ mc) (hb : b + ms1 ≤ ms)
    (d : decode cc pc = .ok (.invokevirtual idx, 3)) (hp : pc + 3 = pc1) (kx : ∀ E, ex = some E → VX X (a + mc1) (b + ms1) nL sg o lo pc rest E) (kk : ex = none → V X (a + mc1) (b + ms1) nL sg1 o1 lo pc1 (rv.toList ++ rest)) : V X a b nL sg o lo pc st := by
  subst hp
  intro H locs ls hP hS hl
  obtain ⟨cx, cb, cm, co, ct, cK, cG, cA, ⟨r1, r2, r3, r4⟩, cl⟩ := C
  refine v_runX (vx_runV (As := As) (rest := rest) (C := y.cls) ⟨cx, cb, cm, co, ct⟩ M ⟨k.1.b ct hrk r1 r2, ct _ k.2.1, ct _ k.2.2⟩ ⟨Pwx_blind, ?_, fun U hU hW => ⟨rfl, ⟨by rw [hU]; exact hP, va_K.moved hW.alike cK, cG⟩, hw.go hS hU hW cA⟩⟩ rfl hn hl.1 hst (lv_room hcat) d ⟨Nat.le_trans ha r3, Nat.le_trans hb r4⟩) hS cA hl kx kk
  rw [← hq1]
  exact v_recv cK hP hc hy hq
theorem v_callSX (C : CF X cc own nL rk mc ms) (hw : Xw (xA X) (xs_ X)) {y : MethodName} {bytes : ByteArray} {maxL idx n rk1 mc1 ms1 : Nat} {ret : Option FieldType} {ex : Option String} {rv : Option Value} {As : List Value} (k : KS own idx y bytes maxL ret n)
    (M : CX (xl X) y bytes maxL ret rk1 mc1 ms1 (xD X) (xK X) (xg X) As sg o ex rv sg1 o1) (hrk : rk1 + 1 ≤ rk) (hst : st = As.reverse ++ rest) (hn : As.length = n) (hcat : (rest.map fun v => v.category).sum ≤ 8) (ha : a + mc1 ≤ mc) (hb : b + ms1 ≤ ms)
    (d : decode cc pc = .ok (.invokestatic idx, 3)) (hp : pc + 3 = pc1) (kx : ∀ E, ex = some E → VX X (a + mc1) (b + ms1) nL sg o lo pc rest E) (kk : ex = none → V X (a + mc1) (b + ms1) nL sg1 o1 lo pc1 (rv.toList ++ rest)) : V X a b nL sg o lo pc st := by
  subst hp
  intro H locs ls hP hS hl
  obtain ⟨cx, cb, cm, co, ct, cK, cG, cA, ⟨r1, r2, r3, r4⟩, cl⟩ := C
  exact v_runX (vx_runS (As := As) (rest := rest) ⟨cx, cb, cm, co, ct⟩ M ⟨k.1.b ct hrk r1 r2, ct _ k.2⟩ ⟨Pwx_blind, fun U hU hW => ⟨rfl, ⟨by rw [hU]; exact hP, va_K.moved hW.alike cK, cG⟩, hw.go hS hU hW cA⟩⟩ rfl hn hl.1 hst (lv_room hcat) d ⟨Nat.le_trans ha r3, Nat.le_trans hb r4⟩) hS cA hl kx kk
end VCX
end
section
/-! cells by a number that is not written: the points, the pieces, the towns, the three rigs -/
theorem ix_lt {x : Int32} {n : Nat} (h : vp_in x n) : ix x < n := Nat.not_le.mp fun q => h (Or.inr q)
abbrev slPt : List Nat := [0, 0]
abbrev slPc : List Nat := [0, 0, 0, 0, 0, 0, 0, 0, 0]
abbrev slTn : List Nat := [0, 0, 0, 0, 0, 0, 0, 0]
theorem lt_pt {j : Nat} (h : j < 8) : 23 + j < 68 := by omega
theorem lt_pc {j : Nat} (h : j < 6) : 31 + j < 68 := by omega
theorem lt_tn {j : Nat} (h : j < 4) : 37 + j < 68 := by omega
theorem lay_pt {j : Nat} (h : j < 8) : lay (23 + j) = .inl (3, slPt) := by
  match j, h with
  | 0, _ => rfl
  | 1, _ => rfl
  | 2, _ => rfl
  | 3, _ => rfl
  | 4, _ => rfl
  | 5, _ => rfl
  | 6, _ => rfl
  | 7, _ => rfl
  | k + 8, h => exact absurd h (by omega)
theorem lay_pc {j : Nat} (h : j < 6) : lay (31 + j) = .inl (2, slPc) := by
  match j, h with
  | 0, _ => rfl
  | 1, _ => rfl
  | 2, _ => rfl
  | 3, _ => rfl
  | 4, _ => rfl
  | 5, _ => rfl
  | k + 6, h => exact absurd h (by omega)
theorem lay_tn {j : Nat} (h : j < 4) : lay (37 + j) = .inl (5, slTn) := by
  match j, h with
  | 0, _ => rfl
  | 1, _ => rfl
  | 2, _ => rfl
  | 3, _ => rfl
  | k + 4, h => exact absurd h (by omega)
def isR (r : Nat) : Prop := r = 5 ∨ r = 11 ∨ r = 17
theorem isR5 : isR 5 := Or.inl rfl
theorem isR11 : isR 11 := Or.inr (Or.inl rfl)
theorem isR17 : isR 17 := Or.inr (Or.inr rfl)
theorem lt_rg {r : Nat} (h : isR r) : r < 68 := by rcases h with rfl | rfl | rfl <;> decide
theorem lt_ra {r k : Nat} (h : isR r) (hk : k < 6) : r + k < 68 := by rcases h with rfl | rfl | rfl <;> omega
theorem lay_rg {r : Nat} (h : isR r) : lay r = .inl (4, [r + 3, r + 4, r + 5, r + 6, r + 7, 0, 0, 0]) := by rcases h with rfl | rfl | rfl <;> rfl
theorem lay_r1 {r : Nat} (h : isR r) : lay (r + 1) = .inr (0, 6, 0) := by rcases h with rfl | rfl | rfl <;> rfl
theorem lay_r2 {r : Nat} (h : isR r) : lay (r + 2) = .inr (0, 6, 0) := by rcases h with rfl | rfl | rfl <;> rfl
theorem lay_r3 {r : Nat} (h : isR r) : lay (r + 3) = .inr (0, 6, 0) := by rcases h with rfl | rfl | rfl <;> rfl
theorem lay_r4 {r : Nat} (h : isR r) : lay (r + 4) = .inr (0, 6, 0) := by rcases h with rfl | rfl | rfl <;> rfl
theorem lay_r5 {r : Nat} (h : isR r) : lay (r + 5) = .inr (0, 8, 0) := by rcases h with rfl | rfl | rfl <;> rfl
theorem nI_add1 (n : Nat) : nI n + Int32.ofInt 1 = nI (n + 1) := nI_1 n
theorem nI_toInt' {n : Nat} (h : n < 1000) : (nI n).toInt = n := nI_toInt (by omega)
theorem nI_lt_iff {a b : Nat} (ha : a < 1000) (hb : b < 1000) : nI a < nI b ↔ a < b := by
  rw [Int32.lt_iff_toInt_lt, nI_toInt' ha, nI_toInt' hb]; omega
theorem nI_eq_iff {a b : Nat} (ha : a < 1000) (hb : b < 1000) : nI a = nI b ↔ a = b := by
  rw [← Int32.toInt_inj, nI_toInt' ha, nI_toInt' hb]; omega
theorem nI_nn {a : Nat} (ha : a < 1000) : ¬ nI a < 0 := by
  rw [Int32.lt_iff_toInt_lt, nI_toInt' ha]
  show ¬ ((a : Int) < 0)
  omega
theorem nI_z : nI 0 = 0 := rfl
theorem b2i_nar {P : Prop} [Decidable P] : narrow .boolean (.int (b2i P)) = .int (b2i P) := by
  unfold b2i
  split <;> rfl
theorem b2i_t {P : Prop} [Decidable P] (h : P) : 1 = b2i P := by rw [b2i, if_pos h]
theorem b2i_f {P : Prop} [Decidable P] (h : ¬ P) : 0 = b2i P := by rw [b2i, if_neg h]
section VM
variable {X : Cx} {cc : ByteArray} {own : String} {a b nL rk mc ms : Nat} {sg : Sg} {o : Ot} {lo : List (Nat × Value)} {pc pc1 : Nat} {st : List Value}
theorem v_mmax (C : CF X cc own nL rk mc ms) {idx : Nat} (k : KS own idx yJ9_max_7cf53 cJ9_max_7cf53 2 (some .int) 2) (hr : 1 ≤ rk) (hcat : (st.map fun v => v.category).sum ≤ 8) (ha : a ≤ mc) (hb : b ≤ ms) {x y : Int32} (d : decode cc pc = .ok (.invokestatic idx, 3)) (hp : pc + 3 = pc1) (kk : V X a b nL sg o lo pc1 (.int (if x < y then y else x) :: st)) : V X a b nL sg o lo pc (.int y :: .int x :: st) := by
  subst hp
  intro H locs ls hP hS hl
  obtain ⟨cx, cb, cm, co, ct, cK, cG, cA, ⟨r1, r2, r3, r4⟩, cl⟩ := C
  exact va_mmax cx cb (cm.trans hl.1.symm) co (ct _ k.1.2.2.2.2.1) (ct _ k.2) (ct _ k.1.2.1) (ct _ k.1.1) (Nat.le_trans hr r1) (by omega) (Nat.le_trans ha r3) (Nat.le_trans hb r4) d (kk H locs ls hP hS hl)
theorem v_mmin (C : CF X cc own nL rk mc ms) {idx : Nat} (k : KS own idx yJ9_min_7cf53 cJ9_min_7cf53 2 (some .int) 2) (hr : 1 ≤ rk) (hcat : (st.map fun v => v.category).sum ≤ 8) (ha : a ≤ mc) (hb : b ≤ ms) {x y : Int32} (d : decode cc pc = .ok (.invokestatic idx, 3)) (hp : pc + 3 = pc1) (kk : V X a b nL sg o lo pc1 (.int (if y < x then y else x) :: st)) : V X a b nL sg o lo pc (.int y :: .int x :: st) := by
  subst hp
  intro H locs ls hP hS hl
  obtain ⟨cx, cb, cm, co, ct, cK, cG, cA, ⟨r1, r2, r3, r4⟩, cl⟩ := C
  exact va_mmin cx cb (cm.trans hl.1.symm) co (ct _ k.1.2.2.2.2.1) (ct _ k.2) (ct _ k.1.2.1) (ct _ k.1.1) (Nat.le_trans hr r1) (by omega) (Nat.le_trans ha r3) (Nat.le_trans hb r4) d (kk H locs ls hP hS hl)
end VM
theorem v_rwi {X : Cx} {a b nL : Nat} {sg : Sg} {o : Ot} {lo : List (Nat × Value)} {pc : Nat} {st : List Value} {x y : Int32} (h : x = y) (k : V X a b nL sg o lo pc (.int y :: st)) : V X a b nL sg o lo pc (.int x :: st) := by rw [h]; exact k
theorem up_if {sg : Sg} {c k k1 : Nat} {v x : Int32} (h : sg c k1 = x) : up sg c k v c k1 = if k1 = k then v else x := by simp [up, h]
theorem chr_if {P : Prop} [Decidable P] {a b : Int32} (ha : narrow .char (.int a) = .int a) (hb : narrow .char (.int b) = .int b) : narrow .char (.int (if P then a else b)) = .int (if P then a else b) := by
  split
  · exact ha
  · exact hb
end
section
/-! what holds of the numbers at all times, as far as the machine asks for it: counts, places of rows -/
theorem in_nI {k n : Nat} (h : k < n) (hn : n < 1000) : vp_in (nI k) n := vp_in_nI h (by omega)
theorem in_ne {x : Int32} {n : Nat} (h : vp_in x n) : ¬ x < 0 := fun q => h (Or.inl q)
theorem in_nat {x : Int32} {n : Nat} (h : vp_in x n) (hn : n < 1000) : ∃ k, k < n ∧ x = nI k := vp_in_of h (by omega)
/-- a count of at most n -/
def cnt (x : Int32) (n : Nat) : Prop := ∃ k, k ≤ n ∧ x = nI k
theorem cnt.lt {x : Int32} {n : Nat} (h : cnt x n) (hn : n < 999) (hx : ¬ x = nI n) : vp_in x n := by
  obtain ⟨k, hk, rfl⟩ := h
  refine in_nI ?_ (by omega)
  rcases Nat.lt_or_ge k n with q | q
  · exact q
  · exact absurd (by rw [show k = n by omega]) hx
theorem cnt.lt' {x : Int32} {n : Nat} (h : cnt x n) (hn : n < 999) (hx : x < nI n) : vp_in x n := h.lt hn (fun e => by rw [e] at hx; exact Int32.lt_irrefl hx)
theorem cnt.pred {x : Int32} {n : Nat} (h : cnt x n) (hn : n < 999) (hx : 0 < x) : vp_in (x - 1) n ∧ ∃ k, k < n ∧ x = nI (k + 1) ∧ x - 1 = nI k := by
  obtain ⟨k, hk, rfl⟩ := h
  have h0 : 0 < k := (nI_lt_iff (a := 0) (by omega) (by omega)).mp hx
  obtain ⟨j, rfl⟩ : ∃ j, k = j + 1 := ⟨k - 1, by omega⟩
  have e : nI (j + 1) - 1 = nI j := nI_pred j
  rw [e]
  exact ⟨in_nI (by omega) (by omega), j, by omega, rfl, rfl⟩
theorem cnt.nz {x : Int32} {n : Nat} (h : cnt x n) (hn : n < 999) (hx : ¬ x = 0) : 0 < x := by
  obtain ⟨k, hk, rfl⟩ := h
  rcases Nat.eq_zero_or_pos k with rfl | q
  · exact absurd rfl hx
  · exact (nI_lt_iff (a := 0) (by omega) (by omega)).mpr q
/-- x below a count is a place below its bound -/
theorem cnt.in {x y : Int32} {n : Nat} (h : cnt y n) (hn : n < 999) (h1 : ¬ x < 0) (h2 : x < y) : vp_in x n := by
  obtain ⟨k, hk, rfl⟩ := h
  rw [vp_in_iff]
  rw [Int32.lt_iff_toInt_lt] at h1 h2
  rw [nI_toInt' (by omega)] at h2
  have : (0 : Int32).toInt = 0 := rfl
  omega
/-- the reference: a fixing is one -/
def FxOk (sg : Sg) (p : Nat) : Prop := vp_in (sg 49 p) 8 ∧ vp_in (sg 50 p) 8 ∧ ¬ (sg 42 (ix (sg 50 p)) - sg 42 (ix (sg 49 p)) = 0)
def MI (sg : Sg) : Prop := (cnt (sg 41 0) 8 ∧ cnt (sg 41 3) 6 ∧ cnt (sg 41 15) 4 ∧ cnt (sg 41 24) 6) ∧ (sg 41 23 < 0 ∨ vp_in (sg 41 23) 4) ∧ (∀ k, k < 6 → nI k < sg 41 24 → vp_in (sg 62 k) 6) ∧ (∀ p, p < 6 → ¬ sg 48 p = 0 → FxOk sg p) ∧ (∀ p, p < 6 → vp_in (sg 47 p) 3)
theorem MI.np {sg : Sg} (h : MI sg) : cnt (sg 41 0) 8 := h.1.1
theorem MI.nc {sg : Sg} (h : MI sg) : cnt (sg 41 3) 6 := h.1.2.1
theorem MI.nt {sg : Sg} (h : MI sg) : cnt (sg 41 15) 4 := h.1.2.2.1
theorem MI.nh {sg : Sg} (h : MI sg) : cnt (sg 41 24) 6 := h.1.2.2.2
theorem MI.tn {sg : Sg} (h : MI sg) (ht : ¬ sg 41 23 < 0) : vp_in (sg 41 23) 4 := h.2.1.elim (fun q => absurd q ht) id
theorem MI.od {sg : Sg} (h : MI sg) {k : Nat} (hk : k < 6) (hl : nI k < sg 41 24) : vp_in (sg 62 k) 6 := h.2.2.1 k hk hl
theorem MI.fx {sg : Sg} (h : MI sg) {p : Nat} (hp : p < 6) (hf : ¬ sg 48 p = 0) : FxOk sg p := h.2.2.2.1 p hp hf
theorem MI.tr {sg : Sg} (h : MI sg) {p : Nat} (hp : p < 6) : vp_in (sg 47 p) 3 := h.2.2.2.2 p hp
theorem MI.last {sg : Sg} (h : MI sg) (hz : ¬ sg 41 24 = 0) : vp_in (sg 41 24 - 1) 6 := (h.nh.pred (by decide) (h.nh.nz (by decide) hz)).1
theorem MI.lasto {sg : Sg} (h : MI sg) (hz : ¬ sg 41 24 = 0) : vp_in (sg 62 (ix (sg 41 24 - 1))) 6 := by
  obtain ⟨-, k, hk, e1, e2⟩ := h.nh.pred (by decide) (h.nh.nz (by decide) hz)
  rw [e2, nI_ix (by omega)]
  refine h.od hk ?_
  rw [e1]
  exact (nI_lt_iff (by omega) (by omega)).mpr (by omega)
/-- the desk -/
def DI (sg : Sg) : Prop := (cnt (sg 0 7) 8 ∧ cnt (sg 0 8) 6 ∧ cnt (sg 0 9) 4) ∧ (sg 0 10 < 0 ∨ vp_in (sg 0 10) 4) ∧ (∀ r, isR r → cnt (sg r 5) 6 ∧ ∀ k, k < 6 → nI k < sg r 5 → vp_in (sg (r + 1) k) 6) ∧ (∀ p, p < 6 → (sg (31 + p) 4 < 0 ∨ vp_in (sg (31 + p) 4) 8) ∧ (sg (31 + p) 5 < 0 ∨ vp_in (sg (31 + p) 5) 8) ∧ vp_in (sg (31 + p) 3) 3)
theorem DI.np {sg : Sg} (h : DI sg) : cnt (sg 0 7) 8 := h.1.1
theorem DI.nc {sg : Sg} (h : DI sg) : cnt (sg 0 8) 6 := h.1.2.1
theorem DI.nt {sg : Sg} (h : DI sg) : cnt (sg 0 9) 4 := h.1.2.2
theorem DI.tn {sg : Sg} (h : DI sg) (ht : ¬ sg 0 10 < 0) : vp_in (sg 0 10) 4 := h.2.1.elim (fun q => absurd q ht) id
theorem DI.sz {sg : Sg} (h : DI sg) {r : Nat} (hr : isR r) : cnt (sg r 5) 6 := (h.2.2.1 r hr).1
theorem DI.od {sg : Sg} (h : DI sg) {r k : Nat} (hr : isR r) (hk : k < 6) (hl : nI k < sg r 5) : vp_in (sg (r + 1) k) 6 := (h.2.2.1 r hr).2 k hk hl
theorem DI.lf {sg : Sg} (h : DI sg) {p : Nat} (hp : p < 6) (hn : ¬ sg (31 + p) 4 < 0) : vp_in (sg (31 + p) 4) 8 := (h.2.2.2 p hp).1.elim (fun q => absurd q hn) id
theorem DI.rt {sg : Sg} (h : DI sg) {p : Nat} (hp : p < 6) (hn : ¬ sg (31 + p) 5 < 0) : vp_in (sg (31 + p) 5) 8 := (h.2.2.2 p hp).2.1.elim (fun q => absurd q hn) id
theorem DI.tr {sg : Sg} (h : DI sg) {p : Nat} (hp : p < 6) : vp_in (sg (31 + p) 3) 3 := (h.2.2.2 p hp).2.2
theorem DI.last {sg : Sg} (h : DI sg) {r : Nat} (hr : isR r) (hz : 0 < sg r 5) : vp_in (sg r 5 - 1) 6 := ((h.sz hr).pred (by decide) hz).1
theorem DI.lasto {sg : Sg} (h : DI sg) {r : Nat} (hr : isR r) (hz : 0 < sg r 5) : vp_in (sg (r + 1) (ix (sg r 5 - 1))) 6 := by
  obtain ⟨-, k, hk, e1, e2⟩ := (h.sz hr).pred (by decide) hz
  rw [e2, nI_ix (by omega)]
  refine h.od hr hk ?_
  rw [e1]
  exact (nI_lt_iff (by omega) (by omega)).mpr (by omega)
theorem sub_nn {x : Int32} {n : Nat} (h : cnt x n) (hn : n < 999) (hx : ¬ x - 1 < 0) : 0 < x := by
  refine h.nz hn (fun e => ?_)
  rw [e] at hx
  exact hx (by decide)
end
section
set_option maxHeartbeats 4000000 in
set_option maxRecDepth 20000 in
theorem k_X0_isFixed {l : Launch} {D : va_G} {K : Nat → ClassId} {g : Nat → Nat} (sg : Sg) (o : Ot) (j : Nat) (h_j : j < 6) : CN l yX0_isFixed cX0_isFixed 1 (some .boolean) 1 D K g [.ref (g (31 + j))] sg o (some (.int (b2i (¬ sg (31 + j) 4 < 0 ∧ ¬ sg (31 + j) 5 < 0)))) sg o :=
  mk_i (own := RX0) (av := fun g => [.ref (g (31 + j))]) (lo := fun g => [(0, .ref (g (31 + j)))]) (by decide) rfl b2i_nar (fun _ => Nat.le_of_ble_eq_true rfl) (fun _ => rfl) fun X C E => by
    refine v_aload_n (j := 0) C dX0_isFixed_0 rfl rfl rfl ?_
    refine v_geti (c := (31 + j)) C flX0_24 (lt_pc h_j) (lay_pc h_j) rfl dX0_isFixed_1 rfl ?_
    refine v_if_lt (tgt := 18) C dX0_isFixed_4 (by decide) rfl (fun h4_1 => ?_) (fun h4_1 => ?_)
    · skip
      refine v_iconst (v := 0) C dX0_isFixed_18 (by decide) rfl ?_
      exact v_ret E dX0_isFixed_19 (by decide) (by decide) (b2i_f (by simp [h4_1])) (rfl) rfl
    · skip
      refine v_aload_n (j := 0) C dX0_isFixed_7 rfl rfl rfl ?_
      refine v_geti (c := (31 + j)) C flX0_27 (lt_pc h_j) (lay_pc h_j) rfl dX0_isFixed_8 rfl ?_
      refine v_if_lt (tgt := 18) C dX0_isFixed_11 (by decide) rfl (fun h11_2 => ?_) (fun h11_2 => ?_)
      · skip
        refine v_iconst (v := 0) C dX0_isFixed_18 (by decide) rfl ?_
        exact v_ret E dX0_isFixed_19 (by decide) (by decide) (b2i_f (by simp [h4_1, h11_2])) (rfl) rfl
      · skip
        refine v_iconst (v := 1) C dX0_isFixed_14 (by decide) rfl ?_
        refine v_goto (pc1 := 19) C dX0_isFixed_15 (by decide) ?_
        exact v_ret E dX0_isFixed_19 (by decide) (by decide) (b2i_t (by simp [h4_1, h11_2])) (rfl) rfl
def fr_X0_loadAt (sg : Sg) (j : Nat) (p : Int32) : Int32 := (if p = (sg (31 + j) 4) then (sg (31 + j) 6) else (if p = (sg (31 + j) 5) then (sg (31 + j) 7) else 0))
set_option maxHeartbeats 4000000 in
set_option maxRecDepth 20000 in
theorem k_X0_loadAt {l : Launch} {D : va_G} {K : Nat → ClassId} {g : Nat → Nat} (sg : Sg) (o : Ot) (j : Nat) (p : Int32) (h_j : j < 6) : CN l yX0_loadAt cX0_loadAt 2 (some .int) 1 D K g [.ref (g (31 + j)), .int p] sg o (some (.int (fr_X0_loadAt sg j p))) sg o :=
  mk_i (own := RX0) (av := fun g => [.ref (g (31 + j)), .int p]) (lo := fun g => [(0, .ref (g (31 + j))), (1, .int p)]) (by decide) rfl rfl (fun _ => Nat.le_of_ble_eq_true rfl) (fun _ => rfl) fun X C E => by
    refine v_iload_n (j := 1) C dX0_loadAt_0 rfl rfl rfl ?_
    refine v_aload_n (j := 0) C dX0_loadAt_1 rfl rfl rfl ?_
    refine v_geti (c := (31 + j)) C flX0_24 (lt_pc h_j) (lay_pc h_j) rfl dX0_loadAt_2 rfl ?_
    refine v_icmp_ne (tgt := 13) C dX0_loadAt_5 (by decide) rfl (fun h5_1 => ?_) (fun h5_1 => ?_)
    · skip
      refine v_iload_n (j := 1) C dX0_loadAt_13 rfl rfl rfl ?_
      refine v_aload_n (j := 0) C dX0_loadAt_14 rfl rfl rfl ?_
      refine v_geti (c := (31 + j)) C flX0_27 (lt_pc h_j) (lay_pc h_j) rfl dX0_loadAt_15 rfl ?_
      refine v_icmp_ne (tgt := 28) C dX0_loadAt_18 (by decide) rfl (fun h18_2 => ?_) (fun h18_2 => ?_)
      · skip
        refine v_iconst (v := 0) C dX0_loadAt_28 (by decide) rfl ?_
        exact v_ret E dX0_loadAt_29 (by decide) (by decide) ((by simp only [fr_X0_loadAt, if_neg h5_1, if_neg h18_2])) (rfl) rfl
      · skip
        refine v_aload_n (j := 0) C dX0_loadAt_21 rfl rfl rfl ?_
        refine v_geti (c := (31 + j)) C flX0_33 (lt_pc h_j) (lay_pc h_j) rfl dX0_loadAt_22 rfl ?_
        refine v_goto (pc1 := 29) C dX0_loadAt_25 (by decide) ?_
        exact v_ret E dX0_loadAt_29 (by decide) (by decide) ((by simp only [fr_X0_loadAt, if_neg h5_1, if_pos h18_2])) (rfl) rfl
    · skip
      refine v_aload_n (j := 0) C dX0_loadAt_8 rfl rfl rfl ?_
      refine v_geti (c := (31 + j)) C flX0_30 (lt_pc h_j) (lay_pc h_j) rfl dX0_loadAt_9 rfl ?_
      exact v_ret E dX0_loadAt_12 (by decide) (by decide) ((by simp only [fr_X0_loadAt, if_pos h5_1])) (rfl) rfl
def fr_X3_allows (sg : Sg) (t : Nat) (q : Nat) : Int32 := (((sg (23 + q) 1) * (sg (37 + t) 1)) / 100)
set_option maxHeartbeats 4000000 in
set_option maxRecDepth 20000 in
theorem k_X3_allows {l : Launch} {D : va_G} {K : Nat → ClassId} {g : Nat → Nat} (sg : Sg) (o : Ot) (t : Nat) (q : Nat) (h_t : t < 4) (h_q : q < 8) : CN l yX3_allows cX3_allows 2 (some .int) 1 D K g [.ref (g (37 + t)), .ref (g (23 + q))] sg o (some (.int (fr_X3_allows sg t q))) sg o :=
  mk_i (own := RX3) (av := fun g => [.ref (g (37 + t)), .ref (g (23 + q))]) (lo := fun g => [(0, .ref (g (37 + t))), (1, .ref (g (23 + q)))]) (by decide) rfl rfl (fun _ => Nat.le_of_ble_eq_true rfl) (fun _ => rfl) fun X C E => by
    refine v_aload_n (j := 1) C dX3_allows_0 rfl rfl rfl ?_
    refine v_geti (c := (23 + q)) C flX3_34 (lt_pt h_q) (lay_pt h_q) rfl dX3_allows_1 rfl ?_
    refine v_aload_n (j := 0) C dX3_allows_4 rfl rfl rfl ?_
    refine v_geti (c := (37 + t)) C flX3_7 (lt_tn h_t) (lay_tn h_t) rfl dX3_allows_5 rfl ?_
    refine v_imul C dX3_allows_8 rfl ?_
    refine v_bipush (v := 100) C dX3_allows_9 (by decide) rfl ?_
    refine v_idiv C dX3_allows_11 (by decide) rfl ?_
    exact v_ret E dX3_allows_12 (by decide) (by decide) ((by rfl)) (rfl) rfl
def fr_X2_lastMinute (sg : Sg) (r : Nat) : Int32 := (if 0 < (sg r 5) then (sg (r + 3) (ix ((sg r 5) - 1))) else 0)
set_option maxHeartbeats 4000000 in
set_option maxRecDepth 20000 in
theorem k_X2_lastMinute {l : Launch} {D : va_G} {K : Nat → ClassId} {g : Nat → Nat} (sg : Sg) (o : Ot) (r : Nat) (h_r : isR r) (hD : DI sg) : CN l yX2_lastMinute cX2_lastMinute 1 (some .int) 1 D K g [.ref (g r)] sg o (some (.int (fr_X2_lastMinute sg r))) sg o :=
  mk_i (own := RX2) (av := fun g => [.ref (g r)]) (lo := fun g => [(0, .ref (g r))]) (by decide) rfl rfl (fun _ => Nat.le_of_ble_eq_true rfl) (fun _ => rfl) fun X C E => by
    have hR_r : r = 5 ∨ r = 11 ∨ r = 17 := h_r
    refine v_aload_n (j := 0) C dX2_lastMinute_0 rfl rfl rfl ?_
    refine v_geti (c := r) C flX2_27 (lt_rg h_r) (lay_rg h_r) rfl dX2_lastMinute_1 rfl ?_
    refine v_if_le (tgt := 21) C dX2_lastMinute_4 (by decide) rfl (fun h4_1 => ?_) (fun h4_1 => ?_)
    · skip
      refine v_iconst (v := 0) C dX2_lastMinute_21 (by decide) rfl ?_
      exact v_ret E dX2_lastMinute_22 (by decide) (by decide) ((by simp only [fr_X2_lastMinute, if_neg h4_1])) (rfl) rfl
    · skip
      refine v_aload_n (j := 0) C dX2_lastMinute_7 rfl rfl rfl ?_
      refine v_getr (c := r) C (r + 3) flX2_18 (lt_rg h_r) (lay_rg h_r) rfl dX2_lastMinute_8 rfl ?_
      refine v_aload_n (j := 0) C dX2_lastMinute_11 rfl rfl rfl ?_
      refine v_geti (c := r) C flX2_27 (lt_rg h_r) (lay_rg h_r) rfl dX2_lastMinute_12 rfl ?_
      refine v_iconst (v := 1) C dX2_lastMinute_15 (by decide) rfl ?_
      refine v_isub C dX2_lastMinute_16 rfl ?_
      refine v_iald (c := (r + 3)) C (hD.last h_r (by assumption)) (lt_ra h_r (by decide)) (lay_r3 h_r) dX2_lastMinute_17 rfl ?_
      refine v_goto (pc1 := 22) C dX2_lastMinute_18 (by decide) ?_
      exact v_ret E dX2_lastMinute_22 (by decide) (by decide) ((by simp only [fr_X2_lastMinute, if_pos h4_1])) (rfl) rfl
def fr_X2_workAtEnd (sg : Sg) (r : Nat) : Int32 := (if 0 < (sg r 5) then (sg (r + 4) (ix ((sg r 5) - 1))) else 0)
set_option maxHeartbeats 4000000 in
set_option maxRecDepth 20000 in
theorem k_X2_workAtEnd {l : Launch} {D : va_G} {K : Nat → ClassId} {g : Nat → Nat} (sg : Sg) (o : Ot) (r : Nat) (h_r : isR r) (hD : DI sg) : CN l yX2_workAtEnd cX2_workAtEnd 1 (some .int) 1 D K g [.ref (g r)] sg o (some (.int (fr_X2_workAtEnd sg r))) sg o :=
  mk_i (own := RX2) (av := fun g => [.ref (g r)]) (lo := fun g => [(0, .ref (g r))]) (by decide) rfl rfl (fun _ => Nat.le_of_ble_eq_true rfl) (fun _ => rfl) fun X C E => by
    have hR_r : r = 5 ∨ r = 11 ∨ r = 17 := h_r
    refine v_aload_n (j := 0) C dX2_workAtEnd_0 rfl rfl rfl ?_
    refine v_geti (c := r) C flX2_27 (lt_rg h_r) (lay_rg h_r) rfl dX2_workAtEnd_1 rfl ?_
    refine v_if_le (tgt := 21) C dX2_workAtEnd_4 (by decide) rfl (fun h4_1 => ?_) (fun h4_1 => ?_)
    · skip
      refine v_iconst (v := 0) C dX2_workAtEnd_21 (by decide) rfl ?_
      exact v_ret E dX2_workAtEnd_22 (by decide) (by decide) ((by simp only [fr_X2_workAtEnd, if_neg h4_1])) (rfl) rfl
    · skip
      refine v_aload_n (j := 0) C dX2_workAtEnd_7 rfl rfl rfl ?_
      refine v_getr (c := r) C (r + 4) flX2_21 (lt_rg h_r) (lay_rg h_r) rfl dX2_workAtEnd_8 rfl ?_
      refine v_aload_n (j := 0) C dX2_workAtEnd_11 rfl rfl rfl ?_
      refine v_geti (c := r) C flX2_27 (lt_rg h_r) (lay_rg h_r) rfl dX2_workAtEnd_12 rfl ?_
      refine v_iconst (v := 1) C dX2_workAtEnd_15 (by decide) rfl ?_
      refine v_isub C dX2_workAtEnd_16 rfl ?_
      refine v_iald (c := (r + 4)) C (hD.last h_r (by assumption)) (lt_ra h_r (by decide)) (lay_r4 h_r) dX2_workAtEnd_17 rfl ?_
      refine v_goto (pc1 := 22) C dX2_workAtEnd_18 (by decide) ?_
      exact v_ret E dX2_workAtEnd_22 (by decide) (by decide) ((by simp only [fr_X2_workAtEnd, if_pos h4_1])) (rfl) rfl
set_option maxHeartbeats 4000000 in
set_option maxRecDepth 20000 in
theorem k_X4_isOutside {l : Launch} {D : va_G} {K : Nat → ClassId} {g : Nat → Nat} (sg : Sg) (o : Ot) (v : Int32) (a : Int32) (b : Int32) : CN l yX4_isOutside cX4_isOutside 3 (some .boolean) 1 D K g [.int v, .int a, .int b] sg o (some (.int (b2i (v < a ∨ b < v)))) sg o :=
  mk_i (own := RX4) (av := fun g => [.int v, .int a, .int b]) (lo := fun g => [(0, .int v), (1, .int a), (2, .int b)]) (by decide) rfl b2i_nar (fun _ => Nat.le_of_ble_eq_true rfl) (fun _ => rfl) fun X C E => by
    refine v_iload_n (j := 0) C dX4_isOutside_0 rfl rfl rfl ?_
    refine v_iload_n (j := 1) C dX4_isOutside_1 rfl rfl rfl ?_
    refine v_icmp_lt (tgt := 10) C dX4_isOutside_2 (by decide) rfl (fun h2_1 => ?_) (fun h2_1 => ?_)
    · skip
      refine v_iconst (v := 1) C dX4_isOutside_10 (by decide) rfl ?_
      refine v_goto (pc1 := 15) C dX4_isOutside_11 (by decide) ?_
      exact v_ret E dX4_isOutside_15 (by decide) (by decide) (b2i_t (by simp [h2_1])) (rfl) rfl
    · skip
      refine v_iload_n (j := 0) C dX4_isOutside_5 rfl rfl rfl ?_
      refine v_iload_n (j := 2) C dX4_isOutside_6 rfl rfl rfl ?_
      refine v_icmp_le (tgt := 14) C dX4_isOutside_7 (by decide) rfl (fun h7_2 => ?_) (fun h7_2 => ?_)
      · skip
        refine v_iconst (v := 0) C dX4_isOutside_14 (by decide) rfl ?_
        exact v_ret E dX4_isOutside_15 (by decide) (by decide) (b2i_f (by simp [h2_1, h7_2])) (rfl) rfl
      · skip
        refine v_iconst (v := 1) C dX4_isOutside_10 (by decide) rfl ?_
        refine v_goto (pc1 := 15) C dX4_isOutside_11 (by decide) ?_
        exact v_ret E dX4_isOutside_15 (by decide) (by decide) (b2i_t (by simp [h2_1, h7_2])) (rfl) rfl
set_option maxHeartbeats 4000000 in
set_option maxRecDepth 20000 in
theorem k_X4_isIn {l : Launch} {D : va_G} {K : Nat → ClassId} {g : Nat → Nat} (sg : Sg) (o : Ot) (p : Int32) (z : Int32) : CN l yX4_isIn cX4_isIn 2 (some .boolean) 1 D K g [.int p, .int z] sg o (some (.int (b2i (¬ z >>> (p &&& 31) &&& 1 = 0)))) sg o :=
  mk_i (own := RX4) (av := fun g => [.int p, .int z]) (lo := fun g => [(0, .int p), (1, .int z)]) (by decide) rfl b2i_nar (fun _ => Nat.le_of_ble_eq_true rfl) (fun _ => rfl) fun X C E => by
    refine v_iload_n (j := 1) C dX4_isIn_0 rfl rfl rfl ?_
    refine v_iload_n (j := 0) C dX4_isIn_1 rfl rfl rfl ?_
    refine v_ishr C dX4_isIn_2 rfl ?_
    refine v_iconst (v := 1) C dX4_isIn_3 (by decide) rfl ?_
    refine v_iand C dX4_isIn_4 rfl ?_
    refine v_if_eq (tgt := 12) C dX4_isIn_5 (by decide) rfl (fun h5_1 => ?_) (fun h5_1 => ?_)
    · skip
      refine v_iconst (v := 0) C dX4_isIn_12 (by decide) rfl ?_
      exact v_ret E dX4_isIn_13 (by decide) (by decide) (b2i_f (by simp [h5_1])) (rfl) rfl
    · skip
      refine v_iconst (v := 1) C dX4_isIn_8 (by decide) rfl ?_
      refine v_goto (pc1 := 13) C dX4_isIn_9 (by decide) ?_
      exact v_ret E dX4_isIn_13 (by decide) (by decide) (b2i_t (by simp [h5_1])) (rfl) rfl
def fr_X4_loadOfPart (sg : Sg) (p : Int32) (z : Int32) : Int32 := (((p * (100 + z)) + 99) / 100)
set_option maxHeartbeats 4000000 in
set_option maxRecDepth 20000 in
theorem k_X4_loadOfPart {l : Launch} {D : va_G} {K : Nat → ClassId} {g : Nat → Nat} (sg : Sg) (o : Ot) (p : Int32) (z : Int32) : CN l yX4_loadOfPart cX4_loadOfPart 2 (some .int) 1 D K g [.int p, .int z] sg o (some (.int (fr_X4_loadOfPart sg p z))) sg o :=
  mk_i (own := RX4) (av := fun g => [.int p, .int z]) (lo := fun g => [(0, .int p), (1, .int z)]) (by decide) rfl rfl (fun _ => Nat.le_of_ble_eq_true rfl) (fun _ => rfl) fun X C E => by
    refine v_iload_n (j := 0) C dX4_loadOfPart_0 rfl rfl rfl ?_
    refine v_bipush (v := 100) C dX4_loadOfPart_1 (by decide) rfl ?_
    refine v_iload_n (j := 1) C dX4_loadOfPart_3 rfl rfl rfl ?_
    refine v_iadd C dX4_loadOfPart_4 rfl ?_
    refine v_imul C dX4_loadOfPart_5 rfl ?_
    refine v_bipush (v := 99) C dX4_loadOfPart_6 (by decide) rfl ?_
    refine v_iadd C dX4_loadOfPart_8 rfl ?_
    refine v_bipush (v := 100) C dX4_loadOfPart_9 (by decide) rfl ?_
    refine v_idiv C dX4_loadOfPart_11 (by decide) rfl ?_
    exact v_ret E dX4_loadOfPart_12 (by decide) (by decide) ((by rfl)) (rfl) rfl
def fr_X4_leftAt (sg : Sg) (p : Int32) (t : Nat) : Int32 := ((fr_X3_allows sg t (ix p)) - (sg 10 (ix p)))
set_option maxHeartbeats 4000000 in
set_option maxRecDepth 20000 in
theorem k_X4_leftAt {l : Launch} {D : va_G} {K : Nat → ClassId} {g : Nat → Nat} (sg : Sg) (o : Ot) (p : Int32) (t : Nat) (h_t : t < 4) (hp : vp_in p 8) : CN l yX4_leftAt cX4_leftAt 3 (some .int) 2 D K g [.ref (g 0), .int p, .ref (g (37 + t))] sg o (some (.int (fr_X4_leftAt sg p t))) sg o :=
  mk_i (own := RX4) (av := fun g => [.ref (g 0), .int p, .ref (g (37 + t))]) (lo := fun g => [(0, .ref (g 0)), (1, .int p), (2, .ref (g (37 + t)))]) (by decide) rfl rfl (fun _ => Nat.le_of_ble_eq_true rfl) (fun _ => rfl) fun X C E => by
    have hb_p := ix_lt hp
    refine v_aload_n (j := 2) C dX4_leftAt_0 rfl rfl rfl ?_
    refine v_aload_n (j := 0) C dX4_leftAt_1 rfl rfl rfl ?_
    refine v_getr (c := 0) C 1 flX4_11 (by decide) rfl rfl dX4_leftAt_2 rfl ?_
    refine v_iload_n (j := 1) C dX4_leftAt_5 rfl rfl rfl ?_
    refine v_aald (c := 1) C (Or.inl rfl) (by assumption) (by decide) rfl dX4_leftAt_6 rfl ?_
    refine v_callV (rest := []) (q := (RX3, TX3, 8)) C kvX4_217 (k_X3_allows sg o t (ix p) h_t (ix_lt (by assumption))) (by decide) (lt_tn h_t) (lay_tn h_t) rfl rfl rfl rfl (Nat.le_of_ble_eq_true rfl) (by decide) (by decide) dX4_leftAt_7 rfl ?_
    refine v_aload_n (j := 0) C dX4_leftAt_10 rfl rfl rfl ?_
    refine v_getr (c := 0) C 5 flX4_34 (by decide) rfl rfl dX4_leftAt_11 rfl ?_
    refine v_getr (c := 5) C 10 flX4_221 (by decide) rfl rfl dX4_leftAt_14 rfl ?_
    refine v_iload_n (j := 1) C dX4_leftAt_17 rfl rfl rfl ?_
    refine v_iald (c := 10) C (by assumption) (by decide) rfl dX4_leftAt_18 rfl ?_
    refine v_isub C dX4_leftAt_19 rfl ?_
    exact v_ret E dX4_leftAt_20 (by decide) (by decide) ((by rfl)) (rfl) rfl
set_option maxHeartbeats 4000000 in
set_option maxRecDepth 20000 in
theorem k_X4_overloads {l : Launch} {D : va_G} {K : Nat → ClassId} {g : Nat → Nat} (sg : Sg) (o : Ot) (r : Nat) (j : Nat) (t : Nat) (h_r : isR r) (h_j : j < 6) (h_t : t < 4) (hD : DI sg) : CN l yX4_overloads cX4_overloads 6 (some .boolean) 2 D K g [.ref (g 0), .ref (g r), .ref (g (31 + j)), .ref (g (37 + t))] sg o (some (.int (b2i (¬ sg (31 + j) 4 < 0 ∧ ¬ sg (31 + j) 5 < 0 ∧ (fr_X3_allows sg t (ix (sg (31 + j) 4)) < sg (r + 5) (ix (sg (31 + j) 4)) + sg (31 + j) 6 ∨ fr_X3_allows sg t (ix (sg (31 + j) 5)) < sg (r + 5) (ix (sg (31 + j) 5)) + sg (31 + j) 7))))) sg o :=
  mk_i (own := RX4) (av := fun g => [.ref (g 0), .ref (g r), .ref (g (31 + j)), .ref (g (37 + t))]) (lo := fun g => [(0, .ref (g 0)), (1, .ref (g r)), (2, .ref (g (31 + j))), (3, .ref (g (37 + t)))]) (by decide) rfl b2i_nar (fun _ => Nat.le_of_ble_eq_true rfl) (fun _ => rfl) fun X C E => by
    have hR_r : r = 5 ∨ r = 11 ∨ r = 17 := h_r
    refine v_aload_n (j := 2) C dX4_overloads_0 rfl rfl rfl ?_
    refine v_geti (c := (31 + j)) C flX4_118 (lt_pc h_j) (lay_pc h_j) rfl dX4_overloads_1 rfl ?_
    refine v_istore C [(4, .int (sg (31 + j) 4)), (0, .ref (xg X 0)), (1, .ref (xg X r)), (2, .ref (xg X (31 + j))), (3, .ref (xg X (37 + t)))] dX4_overloads_4 (by decide) rfl rfl ?_
    refine v_aload_n (j := 3) C dX4_overloads_6 rfl rfl rfl ?_
    refine v_geti (c := (31 + j)) C flX4_121 (lt_pc h_j) (lay_pc h_j) rfl dX4_overloads_7 rfl ?_
    refine v_istore C [(5, .int (sg (31 + j) 5)), (4, .int (sg (31 + j) 4)), (0, .ref (xg X 0)), (1, .ref (xg X r)), (2, .ref (xg X (31 + j))), (3, .ref (xg X (37 + t)))] dX4_overloads_10 (by decide) rfl rfl ?_
    refine v_iload (j := 1) C dX4_overloads_12 rfl rfl ?_
    refine v_if_lt (tgt := 22) C dX4_overloads_14 (by decide) rfl (fun h14_1 => ?_) (fun h14_1 => ?_)
    · skip
      refine v_iconst (v := 0) C dX4_overloads_22 (by decide) rfl ?_
      exact v_ret E dX4_overloads_23 (by decide) (by decide) (b2i_f (by simp [h14_1])) (rfl) rfl
    · skip
      refine v_iload (j := 0) C dX4_overloads_17 rfl rfl ?_
      refine v_if_ge (tgt := 24) C dX4_overloads_19 (by decide) rfl (fun h19_2 => ?_) (fun h19_2 => ?_)
      · skip
        refine v_aload_n (j := 3) C dX4_overloads_24 rfl rfl rfl ?_
        refine v_getr (c := r) C (r + 5) flX4_221 (lt_rg h_r) (lay_rg h_r) rfl dX4_overloads_25 rfl ?_
        refine v_iload (j := 1) C dX4_overloads_28 rfl rfl ?_
        refine v_iald (c := (r + 5)) C (hD.lf h_j (by assumption)) (lt_ra h_r (by decide)) (lay_r5 h_r) dX4_overloads_30 rfl ?_
        refine v_aload_n (j := 4) C dX4_overloads_31 rfl rfl rfl ?_
        refine v_geti (c := (31 + j)) C flX4_128 (lt_pc h_j) (lay_pc h_j) rfl dX4_overloads_32 rfl ?_
        refine v_iadd C dX4_overloads_35 rfl ?_
        refine v_aload_n (j := 5) C dX4_overloads_36 rfl rfl rfl ?_
        refine v_aload_n (j := 2) C dX4_overloads_37 rfl rfl rfl ?_
        refine v_getr (c := 0) C 1 flX4_11 (by decide) rfl rfl dX4_overloads_38 rfl ?_
        refine v_iload (j := 1) C dX4_overloads_41 rfl rfl ?_
        refine v_aald (c := 1) C (Or.inl rfl) (hD.lf h_j (by assumption)) (by decide) rfl dX4_overloads_43 rfl ?_
        refine v_callV (rest := [.int ((sg (r + 5) (ix (sg (31 + j) 4))) + (sg (31 + j) 6))]) (q := (RX3, TX3, 8)) C kvX4_217 (k_X3_allows sg o t (ix (sg (31 + j) 4)) h_t (ix_lt (hD.lf h_j (by assumption)))) (by decide) (lt_tn h_t) (lay_tn h_t) rfl rfl rfl rfl (Nat.le_of_ble_eq_true rfl) (by decide) (by decide) dX4_overloads_44 rfl ?_
        refine v_icmp_gt (tgt := 76) C dX4_overloads_47 (by decide) rfl (fun h47_3 => ?_) (fun h47_3 => ?_)
        · skip
          refine v_iconst (v := 1) C dX4_overloads_76 (by decide) rfl ?_
          refine v_goto (pc1 := 81) C dX4_overloads_77 (by decide) ?_
          exact v_ret E dX4_overloads_81 (by decide) (by decide) (b2i_t (by simp [h14_1, h19_2, h47_3])) (rfl) rfl
        · skip
          refine v_aload_n (j := 3) C dX4_overloads_50 rfl rfl rfl ?_
          refine v_getr (c := r) C (r + 5) flX4_221 (lt_rg h_r) (lay_rg h_r) rfl dX4_overloads_51 rfl ?_
          refine v_iload (j := 0) C dX4_overloads_54 rfl rfl ?_
          refine v_iald (c := (r + 5)) C (hD.rt h_j (by assumption)) (lt_ra h_r (by decide)) (lay_r5 h_r) dX4_overloads_56 rfl ?_
          refine v_aload_n (j := 4) C dX4_overloads_57 rfl rfl rfl ?_
          refine v_geti (c := (31 + j)) C flX4_131 (lt_pc h_j) (lay_pc h_j) rfl dX4_overloads_58 rfl ?_
          refine v_iadd C dX4_overloads_61 rfl ?_
          refine v_aload_n (j := 5) C dX4_overloads_62 rfl rfl rfl ?_
          refine v_aload_n (j := 2) C dX4_overloads_63 rfl rfl rfl ?_
          refine v_getr (c := 0) C 1 flX4_11 (by decide) rfl rfl dX4_overloads_64 rfl ?_
          refine v_iload (j := 0) C dX4_overloads_67 rfl rfl ?_
          refine v_aald (c := 1) C (Or.inl rfl) (hD.rt h_j (by assumption)) (by decide) rfl dX4_overloads_69 rfl ?_
          refine v_callV (rest := [.int ((sg (r + 5) (ix (sg (31 + j) 5))) + (sg (31 + j) 7))]) (q := (RX3, TX3, 8)) C kvX4_217 (k_X3_allows sg o t (ix (sg (31 + j) 5)) h_t (ix_lt (hD.rt h_j (by assumption)))) (by decide) (lt_tn h_t) (lay_tn h_t) rfl rfl rfl rfl (Nat.le_of_ble_eq_true rfl) (by decide) (by decide) dX4_overloads_70 rfl ?_
          refine v_icmp_le (tgt := 80) C dX4_overloads_73 (by decide) rfl (fun h73_4 => ?_) (fun h73_4 => ?_)
          · skip
            refine v_iconst (v := 0) C dX4_overloads_80 (by decide) rfl ?_
            exact v_ret E dX4_overloads_81 (by decide) (by decide) (b2i_f (by simp [h14_1, h19_2, h47_3, h73_4])) (rfl) rfl
          · skip
            refine v_iconst (v := 1) C dX4_overloads_76 (by decide) rfl ?_
            refine v_goto (pc1 := 81) C dX4_overloads_77 (by decide) ?_
            exact v_ret E dX4_overloads_81 (by decide) (by decide) (b2i_t (by simp [h14_1, h19_2, h47_3, h73_4])) (rfl) rfl
      · skip
        refine v_iconst (v := 0) C dX4_overloads_22 (by decide) rfl ?_
        exact v_ret E dX4_overloads_23 (by decide) (by decide) (b2i_f (by simp [h14_1, h19_2])) (rfl) rfl
def fr_X4_workCarried (sg : Sg) (r : Nat) (j : Nat) (t : Nat) : Int32 := (if ((sg 4 (ix (sg (31 + j) 3))) - (fr_X2_lastMinute sg r)) < (sg (37 + t) 3) then (fr_X2_workAtEnd sg r) else 0)
set_option maxHeartbeats 4000000 in
set_option maxRecDepth 20000 in
theorem k_X4_workCarried {l : Launch} {D : va_G} {K : Nat → ClassId} {g : Nat → Nat} (sg : Sg) (o : Ot) (r : Nat) (j : Nat) (t : Nat) (h_r : isR r) (h_j : j < 6) (h_t : t < 4) (hD : DI sg) : CN l yX4_workCarried cX4_workCarried 5 (some .int) 2 D K g [.ref (g 0), .ref (g r), .ref (g (31 + j)), .ref (g (37 + t))] sg o (some (.int (fr_X4_workCarried sg r j t))) sg o :=
  mk_i (own := RX4) (av := fun g => [.ref (g 0), .ref (g r), .ref (g (31 + j)), .ref (g (37 + t))]) (lo := fun g => [(0, .ref (g 0)), (1, .ref (g r)), (2, .ref (g (31 + j))), (3, .ref (g (37 + t)))]) (by decide) rfl rfl (fun _ => Nat.le_of_ble_eq_true rfl) (fun _ => rfl) fun X C E => by
    have hR_r : r = 5 ∨ r = 11 ∨ r = 17 := h_r
    refine v_aload_n (j := 0) C dX4_workCarried_0 rfl rfl rfl ?_
    refine v_getr (c := 0) C 4 flX4_27 (by decide) rfl rfl dX4_workCarried_1 rfl ?_
    refine v_aload_n (j := 2) C dX4_workCarried_4 rfl rfl rfl ?_
    refine v_geti (c := (31 + j)) C flX4_104 (lt_pc h_j) (lay_pc h_j) rfl dX4_workCarried_5 rfl ?_
    refine v_iald (c := 4) C (hD.tr h_j) (by decide) rfl dX4_workCarried_8 rfl ?_
    refine v_aload_n (j := 1) C dX4_workCarried_9 rfl rfl rfl ?_
    refine v_callV (rest := [.int (sg 4 (ix (sg (31 + j) 3)))]) (q := (RX2, TX2, 8)) C kvX4_234 (k_X2_lastMinute sg o r h_r hD) (by decide) (lt_rg h_r) (lay_rg h_r) rfl rfl rfl rfl (Nat.le_of_ble_eq_true rfl) (by decide) (by decide) dX4_workCarried_10 rfl ?_
    refine v_isub C dX4_workCarried_13 rfl ?_
    refine v_aload_n (j := 3) C dX4_workCarried_14 rfl rfl rfl ?_
    refine v_geti (c := (37 + t)) C flX4_180 (lt_tn h_t) (lay_tn h_t) rfl dX4_workCarried_15 rfl ?_
    refine v_icmp_lt (tgt := 25) C dX4_workCarried_18 (by decide) rfl (fun h18_1 => ?_) (fun h18_1 => ?_)
    · skip
      refine v_iconst (v := 0) C dX4_workCarried_25 (by decide) rfl ?_
      refine v_istore C [(4, .int 0), (0, .ref (xg X 0)), (1, .ref (xg X r)), (2, .ref (xg X (31 + j))), (3, .ref (xg X (37 + t)))] dX4_workCarried_26 (by decide) rfl rfl ?_
      refine v_iload (j := 0) C dX4_workCarried_28 rfl rfl ?_
      refine v_if_eq (tgt := 37) C dX4_workCarried_30 (by decide) rfl (fun _ => ?_) (fun h => absurd h (by decide))
      refine v_aload_n (j := 2) C dX4_workCarried_37 rfl rfl rfl ?_
      refine v_callV (rest := []) (q := (RX2, TX2, 8)) C kvX4_259 (k_X2_workAtEnd sg o r h_r hD) (by decide) (lt_rg h_r) (lay_rg h_r) rfl rfl rfl rfl (Nat.le_of_ble_eq_true rfl) (by decide) (by decide) dX4_workCarried_38 rfl ?_
      exact v_ret E dX4_workCarried_41 (by decide) (by decide) ((by simp only [fr_X4_workCarried, if_pos h18_1])) (rfl) rfl
    · skip
      refine v_iconst (v := 1) C dX4_workCarried_21 (by decide) rfl ?_
      refine v_goto (pc1 := 26) C dX4_workCarried_22 (by decide) ?_
      refine v_istore C [(4, .int 1), (0, .ref (xg X 0)), (1, .ref (xg X r)), (2, .ref (xg X (31 + j))), (3, .ref (xg X (37 + t)))] dX4_workCarried_26 (by decide) rfl rfl ?_
      refine v_iload (j := 0) C dX4_workCarried_28 rfl rfl ?_
      refine v_if_eq (tgt := 37) C dX4_workCarried_30 (by decide) rfl (fun h => absurd h (by decide)) (fun _ => ?_)
      refine v_iconst (v := 0) C dX4_workCarried_33 (by decide) rfl ?_
      refine v_goto (pc1 := 41) C dX4_workCarried_34 (by decide) ?_
      exact v_ret E dX4_workCarried_41 (by decide) (by decide) ((by simp only [fr_X4_workCarried, if_neg h18_1])) (rfl) rfl
def fr_X4_beginNext (sg : Sg) (r : Nat) (j : Nat) (t : Nat) : Int32 := (if (sg (37 + t) 2) < ((fr_X4_workCarried sg r j t) + (sg (31 + j) 1)) then (((if (fr_X2_lastMinute sg r) < (sg 4 (ix (sg (31 + j) 3))) then (sg 4 (ix (sg (31 + j) 3))) else (fr_X2_lastMinute sg r))) + (sg (37 + t) 3)) else ((if (fr_X2_lastMinute sg r) < (sg 4 (ix (sg (31 + j) 3))) then (sg 4 (ix (sg (31 + j) 3))) else (fr_X2_lastMinute sg r))))
set_option maxHeartbeats 4000000 in
set_option maxRecDepth 20000 in
theorem k_X4_beginNext {l : Launch} {D : va_G} {K : Nat → ClassId} {g : Nat → Nat} (sg : Sg) (o : Ot) (r : Nat) (j : Nat) (t : Nat) (h_r : isR r) (h_j : j < 6) (h_t : t < 4) (hD : DI sg) : CN l yX4_beginNext cX4_beginNext 6 (some .int) 3 D K g [.ref (g 0), .ref (g r), .ref (g (31 + j)), .ref (g (37 + t))] sg o (some (.int (fr_X4_beginNext sg r j t))) sg o :=
  mk_i (own := RX4) (av := fun g => [.ref (g 0), .ref (g r), .ref (g (31 + j)), .ref (g (37 + t))]) (lo := fun g => [(0, .ref (g 0)), (1, .ref (g r)), (2, .ref (g (31 + j))), (3, .ref (g (37 + t)))]) (by decide) rfl rfl (fun _ => Nat.le_of_ble_eq_true rfl) (fun _ => rfl) fun X C E => by
    have hR_r : r = 5 ∨ r = 11 ∨ r = 17 := h_r
    refine v_aload_n (j := 1) C dX4_beginNext_0 rfl rfl rfl ?_
    refine v_callV (rest := []) (q := (RX2, TX2, 8)) C kvX4_234 (k_X2_lastMinute sg o r h_r hD) (by decide) (lt_rg h_r) (lay_rg h_r) rfl rfl rfl rfl (Nat.le_of_ble_eq_true rfl) (by decide) (by decide) dX4_beginNext_1 rfl ?_
    refine v_aload_n (j := 0) C dX4_beginNext_4 rfl rfl rfl ?_
    refine v_getr (c := 0) C 4 flX4_27 (by decide) rfl rfl dX4_beginNext_5 rfl ?_
    refine v_aload_n (j := 2) C dX4_beginNext_8 rfl rfl rfl ?_
    refine v_geti (c := (31 + j)) C flX4_104 (lt_pc h_j) (lay_pc h_j) rfl dX4_beginNext_9 rfl ?_
    refine v_iald (c := 4) C (hD.tr h_j) (by decide) rfl dX4_beginNext_12 rfl ?_
    refine v_mmax C ksX4_323 (by decide) (Nat.le_of_ble_eq_true rfl) (by decide) (by decide) dX4_beginNext_13 rfl ?_
    refine v_istore C [(4, .int ((if (fr_X2_lastMinute sg r) < (sg 4 (ix (sg (31 + j) 3))) then (sg 4 (ix (sg (31 + j) 3))) else (fr_X2_lastMinute sg r)))), (0, .ref (xg X 0)), (1, .ref (xg X r)), (2, .ref (xg X (31 + j))), (3, .ref (xg X (37 + t)))] dX4_beginNext_16 (by decide) rfl rfl ?_
    refine v_aload_n (j := 1) C dX4_beginNext_18 rfl rfl rfl ?_
    refine v_aload_n (j := 2) C dX4_beginNext_19 rfl rfl rfl ?_
    refine v_aload_n (j := 3) C dX4_beginNext_20 rfl rfl rfl ?_
    refine v_aload_n (j := 4) C dX4_beginNext_21 rfl rfl rfl ?_
    refine v_callV (rest := []) (q := (RX4, TX4, 13)) C kvX4_328 (k_X4_workCarried sg o r j t h_r h_j h_t hD) (by decide) (by decide) rfl rfl rfl rfl rfl (Nat.le_of_ble_eq_true rfl) (by decide) (by decide) dX4_beginNext_22 rfl ?_
    refine v_aload_n (j := 3) C dX4_beginNext_25 rfl rfl rfl ?_
    refine v_geti (c := (31 + j)) C flX4_98 (lt_pc h_j) (lay_pc h_j) rfl dX4_beginNext_26 rfl ?_
    refine v_iadd C dX4_beginNext_29 rfl ?_
    refine v_aload_n (j := 4) C dX4_beginNext_30 rfl rfl rfl ?_
    refine v_geti (c := (37 + t)) C flX4_177 (lt_tn h_t) (lay_tn h_t) rfl dX4_beginNext_31 rfl ?_
    refine v_icmp_le (tgt := 41) C dX4_beginNext_34 (by decide) rfl (fun h34_1 => ?_) (fun h34_1 => ?_)
    · skip
      refine v_iconst (v := 0) C dX4_beginNext_41 (by decide) rfl ?_
      refine v_istore C [(5, .int 0), (4, .int ((if (fr_X2_lastMinute sg r) < (sg 4 (ix (sg (31 + j) 3))) then (sg 4 (ix (sg (31 + j) 3))) else (fr_X2_lastMinute sg r)))), (0, .ref (xg X 0)), (1, .ref (xg X r)), (2, .ref (xg X (31 + j))), (3, .ref (xg X (37 + t)))] dX4_beginNext_42 (by decide) rfl rfl ?_
      refine v_iload (j := 0) C dX4_beginNext_44 rfl rfl ?_
      refine v_if_eq (tgt := 59) C dX4_beginNext_46 (by decide) rfl (fun _ => ?_) (fun h => absurd h (by decide))
      refine v_iload (j := 1) C dX4_beginNext_59 rfl rfl ?_
      exact v_ret E dX4_beginNext_61 (by decide) (by decide) ((by simp only [fr_X4_beginNext, if_neg h34_1])) (rfl) rfl
    · skip
      refine v_iconst (v := 1) C dX4_beginNext_37 (by decide) rfl ?_
      refine v_goto (pc1 := 42) C dX4_beginNext_38 (by decide) ?_
      refine v_istore C [(5, .int 1), (4, .int ((if (fr_X2_lastMinute sg r) < (sg 4 (ix (sg (31 + j) 3))) then (sg 4 (ix (sg (31 + j) 3))) else (fr_X2_lastMinute sg r)))), (0, .ref (xg X 0)), (1, .ref (xg X r)), (2, .ref (xg X (31 + j))), (3, .ref (xg X (37 + t)))] dX4_beginNext_42 (by decide) rfl rfl ?_
      refine v_iload (j := 0) C dX4_beginNext_44 rfl rfl ?_
      refine v_if_eq (tgt := 59) C dX4_beginNext_46 (by decide) rfl (fun h => absurd h (by decide)) (fun _ => ?_)
      refine v_iload (j := 1) C dX4_beginNext_49 rfl rfl ?_
      refine v_aload_n (j := 5) C dX4_beginNext_51 rfl rfl rfl ?_
      refine v_geti (c := (37 + t)) C flX4_180 (lt_tn h_t) (lay_tn h_t) rfl dX4_beginNext_52 rfl ?_
      refine v_iadd C dX4_beginNext_55 rfl ?_
      refine v_goto (pc1 := 61) C dX4_beginNext_56 (by decide) ?_
      exact v_ret E dX4_beginNext_61 (by decide) (by decide) ((by simp only [fr_X4_beginNext, if_pos h34_1])) (rfl) rfl
def fr_X4_workNext (sg : Sg) (r : Nat) (j : Nat) (t : Nat) : Int32 := (if (sg (37 + t) 2) < ((fr_X4_workCarried sg r j t) + (sg (31 + j) 1)) then (sg (31 + j) 1) else ((fr_X4_workCarried sg r j t) + (sg (31 + j) 1)))
set_option maxHeartbeats 4000000 in
set_option maxRecDepth 20000 in
theorem k_X4_workNext {l : Launch} {D : va_G} {K : Nat → ClassId} {g : Nat → Nat} (sg : Sg) (o : Ot) (r : Nat) (j : Nat) (t : Nat) (h_r : isR r) (h_j : j < 6) (h_t : t < 4) (hD : DI sg) : CN l yX4_workNext cX4_workNext 5 (some .int) 3 D K g [.ref (g 0), .ref (g r), .ref (g (31 + j)), .ref (g (37 + t))] sg o (some (.int (fr_X4_workNext sg r j t))) sg o :=
  mk_i (own := RX4) (av := fun g => [.ref (g 0), .ref (g r), .ref (g (31 + j)), .ref (g (37 + t))]) (lo := fun g => [(0, .ref (g 0)), (1, .ref (g r)), (2, .ref (g (31 + j))), (3, .ref (g (37 + t)))]) (by decide) rfl rfl (fun _ => Nat.le_of_ble_eq_true rfl) (fun _ => rfl) fun X C E => by
    have hR_r : r = 5 ∨ r = 11 ∨ r = 17 := h_r
    refine v_aload_n (j := 0) C dX4_workNext_0 rfl rfl rfl ?_
    refine v_aload_n (j := 1) C dX4_workNext_1 rfl rfl rfl ?_
    refine v_aload_n (j := 2) C dX4_workNext_2 rfl rfl rfl ?_
    refine v_aload_n (j := 3) C dX4_workNext_3 rfl rfl rfl ?_
    refine v_callV (rest := []) (q := (RX4, TX4, 13)) C kvX4_328 (k_X4_workCarried sg o r j t h_r h_j h_t hD) (by decide) (by decide) rfl rfl rfl rfl rfl (Nat.le_of_ble_eq_true rfl) (by decide) (by decide) dX4_workNext_4 rfl ?_
    refine v_aload_n (j := 2) C dX4_workNext_7 rfl rfl rfl ?_
    refine v_geti (c := (31 + j)) C flX4_98 (lt_pc h_j) (lay_pc h_j) rfl dX4_workNext_8 rfl ?_
    refine v_iadd C dX4_workNext_11 rfl ?_
    refine v_istore C [(4, .int ((fr_X4_workCarried sg r j t) + (sg (31 + j) 1))), (0, .ref (xg X 0)), (1, .ref (xg X r)), (2, .ref (xg X (31 + j))), (3, .ref (xg X (37 + t)))] dX4_workNext_12 (by decide) rfl rfl ?_
    refine v_iload (j := 0) C dX4_workNext_14 rfl rfl ?_
    refine v_aload_n (j := 4) C dX4_workNext_16 rfl rfl rfl ?_
    refine v_geti (c := (37 + t)) C flX4_177 (lt_tn h_t) (lay_tn h_t) rfl dX4_workNext_17 rfl ?_
    refine v_icmp_le (tgt := 30) C dX4_workNext_20 (by decide) rfl (fun h20_1 => ?_) (fun h20_1 => ?_)
    · skip
      refine v_iload (j := 0) C dX4_workNext_30 rfl rfl ?_
      exact v_ret E dX4_workNext_32 (by decide) (by decide) ((by simp only [fr_X4_workNext, if_neg h20_1])) (rfl) rfl
    · skip
      refine v_aload_n (j := 3) C dX4_workNext_23 rfl rfl rfl ?_
      refine v_geti (c := (31 + j)) C flX4_98 (lt_pc h_j) (lay_pc h_j) rfl dX4_workNext_24 rfl ?_
      refine v_goto (pc1 := 32) C dX4_workNext_27 (by decide) ?_
      exact v_ret E dX4_workNext_32 (by decide) (by decide) ((by simp only [fr_X4_workNext, if_pos h20_1])) (rfl) rfl
def fr_X4_reasonAgainst (sg : Sg) (r : Nat) (p : Int32) : Int32 := (if sg 0 10 < 0 then 116 else (if ¬ (sg r 6) >>> (p &&& 31) &&& 1 = 0 then 104 else (if ¬ sg (31 + (ix p)) 4 < 0 ∧ ¬ sg (31 + (ix p)) 5 < 0 then (if ((sg (31 + (ix p)) 8) &&& ((sg r 6) ^^^ ((-1)))) = 0 then (if (sg (37 + ix (sg 0 10)) 2) < (sg (31 + (ix p)) 1) then 115 else (if ¬ sg (31 + (ix p)) 4 < 0 ∧ ¬ sg (31 + (ix p)) 5 < 0 ∧ (fr_X3_allows sg (ix (sg 0 10)) (ix (sg (31 + (ix p)) 4)) < sg (r + 5) (ix (sg (31 + (ix p)) 4)) + sg (31 + (ix p)) 6 ∨ fr_X3_allows sg (ix (sg 0 10)) (ix (sg (31 + (ix p)) 5)) < sg (r + 5) (ix (sg (31 + (ix p)) 5)) + sg (31 + (ix p)) 7) then 108 else (if (sg (37 + ix (sg 0 10)) 4) < ((fr_X4_beginNext sg r (ix p) (ix (sg 0 10))) + (sg (31 + (ix p)) 1)) then 99 else 45))) else 110) else 102)))
set_option maxHeartbeats 4000000 in
set_option maxRecDepth 20000 in
theorem k_X4_reasonAgainst {l : Launch} {D : va_G} {K : Nat → ClassId} {g : Nat → Nat} (sg : Sg) (o : Ot) (r : Nat) (p : Int32) (h_r : isR r) (hD : DI sg) (hp : vp_in p 6) : CN l yX4_reasonAgainst cX4_reasonAgainst 5 (some .char) 4 D K g [.ref (g 0), .ref (g r), .int p] sg o (some (.int (fr_X4_reasonAgainst sg r p))) sg o :=
  mk_i (own := RX4) (av := fun g => [.ref (g 0), .ref (g r), .int p]) (lo := fun g => [(0, .ref (g 0)), (1, .ref (g r)), (2, .int p)]) (by decide) rfl (show narrow .char (.int (fr_X4_reasonAgainst sg r p)) = .int (fr_X4_reasonAgainst sg r p) from (chr_if rfl (chr_if rfl (chr_if (chr_if (chr_if rfl (chr_if rfl (chr_if rfl rfl))) rfl) rfl)))) (fun _ => Nat.le_of_ble_eq_true rfl) (fun _ => rfl) fun X C E => by
    have hR_r : r = 5 ∨ r = 11 ∨ r = 17 := h_r
    have hb_p := ix_lt hp
    refine v_aload_n (j := 0) C dX4_reasonAgainst_0 rfl rfl rfl ?_
    refine v_getp (c := 0) C flX4_54 (by decide) rfl rfl dX4_reasonAgainst_1 rfl (fun h1_1 => ?_) (fun h1_1 => ?_)
    · skip
      refine v_astore_nN C [(3, .null), (0, .ref (xg X 0)), (1, .ref (xg X r)), (2, .int p)] dX4_reasonAgainst_4 rfl (by decide) rfl rfl ?_
      refine v_aload_nN (j := 0) C dX4_reasonAgainst_5 rfl rfl rfl ?_
      refine v_ifnonnullN C dX4_reasonAgainst_6 rfl ?_
      refine v_bipush (v := 116) C dX4_reasonAgainst_9 (by decide) rfl ?_
      exact v_ret E dX4_reasonAgainst_11 (by decide) (by decide) ((by simp only [fr_X4_reasonAgainst, if_pos h1_1])) (rfl) rfl
    · skip
      refine v_astore_n C [(3, .ref (xg X (37 + ix (sg 0 10)))), (0, .ref (xg X 0)), (1, .ref (xg X r)), (2, .int p)] dX4_reasonAgainst_4 rfl (by decide) rfl rfl ?_
      refine v_aload_n (j := 0) C dX4_reasonAgainst_5 rfl rfl rfl ?_
      refine v_ifnonnull (tgt := 12) C dX4_reasonAgainst_6 (by decide) ?_
      refine v_iload_n (j := 3) C dX4_reasonAgainst_12 rfl rfl rfl ?_
      refine v_aload_n (j := 2) C dX4_reasonAgainst_13 rfl rfl rfl ?_
      refine v_geti (c := r) C flX4_307 (lt_rg h_r) (lay_rg h_r) rfl dX4_reasonAgainst_14 rfl ?_
      refine v_callS (rest := []) C ksX4_140 (k_X4_isIn sg o p (sg r 6)) (by decide) rfl rfl (Nat.le_of_ble_eq_true rfl) (by decide) (by decide) dX4_reasonAgainst_17 rfl ?_
      refine v_if_eqB (tgt := 26) C dX4_reasonAgainst_20 (by decide) rfl (fun h20_2 => ?_) (fun h20_2 => ?_)
      · skip
        refine v_aload_n (j := 1) C dX4_reasonAgainst_26 rfl rfl rfl ?_
        refine v_getr (c := 0) C 2 flX4_17 (by decide) rfl rfl dX4_reasonAgainst_27 rfl ?_
        refine v_iload_n (j := 3) C dX4_reasonAgainst_30 rfl rfl rfl ?_
        refine v_aald (c := 2) C (Or.inr (Or.inl rfl)) hp (by decide) rfl dX4_reasonAgainst_31 rfl ?_
        refine v_astore C [(4, .ref (xg X (31 + (ix p)))), (3, .ref (xg X (37 + ix (sg 0 10)))), (0, .ref (xg X 0)), (1, .ref (xg X r)), (2, .int p)] dX4_reasonAgainst_32 (by decide) rfl rfl ?_
        refine v_aload (j := 0) C dX4_reasonAgainst_34 rfl rfl ?_
        refine v_callV (rest := []) (q := (RX0, TX0, 9)) C kvX4_312 (k_X0_isFixed sg o (ix p) (ix_lt hp)) (by decide) (lt_pc (ix_lt hp)) (lay_pc (ix_lt hp)) rfl rfl rfl rfl (Nat.le_of_ble_eq_true rfl) (by decide) (by decide) dX4_reasonAgainst_36 rfl ?_
        refine v_if_neB (tgt := 45) C dX4_reasonAgainst_39 (by decide) rfl (fun h39_3 => ?_) (fun h39_3 => ?_)
        · skip
          refine v_aload (j := 0) C dX4_reasonAgainst_45 rfl rfl ?_
          refine v_geti (c := (31 + (ix p))) C flX4_149 (lt_pc (ix_lt hp)) (lay_pc (ix_lt hp)) rfl dX4_reasonAgainst_47 rfl ?_
          refine v_aload_n (j := 3) C dX4_reasonAgainst_50 rfl rfl rfl ?_
          refine v_geti (c := r) C flX4_307 (lt_rg h_r) (lay_rg h_r) rfl dX4_reasonAgainst_51 rfl ?_
          refine v_iconst (v := (-1)) C dX4_reasonAgainst_54 (by decide) rfl ?_
          refine v_ixor C dX4_reasonAgainst_55 rfl ?_
          refine v_iand C dX4_reasonAgainst_56 rfl ?_
          refine v_if_eq (tgt := 63) C dX4_reasonAgainst_57 (by decide) rfl (fun h57_4 => ?_) (fun h57_4 => ?_)
          · skip
            refine v_aload (j := 0) C dX4_reasonAgainst_63 rfl rfl ?_
            refine v_geti (c := (31 + (ix p))) C flX4_98 (lt_pc (ix_lt hp)) (lay_pc (ix_lt hp)) rfl dX4_reasonAgainst_65 rfl ?_
            refine v_aload_n (j := 1) C dX4_reasonAgainst_68 rfl rfl rfl ?_
            refine v_geti (c := (37 + ix (sg 0 10))) C flX4_177 (lt_tn (ix_lt (hD.tn h1_1))) (lay_tn (ix_lt (hD.tn h1_1))) rfl dX4_reasonAgainst_69 rfl ?_
            refine v_icmp_le (tgt := 78) C dX4_reasonAgainst_72 (by decide) rfl (fun h72_5 => ?_) (fun h72_5 => ?_)
            · skip
              refine v_aload_n (j := 2) C dX4_reasonAgainst_78 rfl rfl rfl ?_
              refine v_aload_n (j := 3) C dX4_reasonAgainst_79 rfl rfl rfl ?_
              refine v_aload (j := 0) C dX4_reasonAgainst_80 rfl rfl ?_
              refine v_aload_n (j := 1) C dX4_reasonAgainst_82 rfl rfl rfl ?_
              refine v_callV (rest := []) (q := (RX4, TX4, 13)) C kvX4_315 (k_X4_overloads sg o r (ix p) (ix (sg 0 10)) h_r (ix_lt hp) (ix_lt (hD.tn h1_1)) hD) (by decide) (by decide) rfl rfl rfl rfl rfl (Nat.le_of_ble_eq_true rfl) (by decide) (by decide) dX4_reasonAgainst_83 rfl ?_
              refine v_if_eqB (tgt := 92) C dX4_reasonAgainst_86 (by decide) rfl (fun h86_6 => ?_) (fun h86_6 => ?_)
              · skip
                refine v_aload_n (j := 2) C dX4_reasonAgainst_92 rfl rfl rfl ?_
                refine v_aload_n (j := 3) C dX4_reasonAgainst_93 rfl rfl rfl ?_
                refine v_aload (j := 0) C dX4_reasonAgainst_94 rfl rfl ?_
                refine v_aload_n (j := 1) C dX4_reasonAgainst_96 rfl rfl rfl ?_
                refine v_callV (rest := []) (q := (RX4, TX4, 13)) C kvX4_319 (k_X4_beginNext sg o r (ix p) (ix (sg 0 10)) h_r (ix_lt hp) (ix_lt (hD.tn h1_1)) hD) (by decide) (by decide) rfl rfl rfl rfl rfl (Nat.le_of_ble_eq_true rfl) (by decide) (by decide) dX4_reasonAgainst_97 rfl ?_
                refine v_aload (j := 0) C dX4_reasonAgainst_100 rfl rfl ?_
                refine v_geti (c := (31 + (ix p))) C flX4_98 (lt_pc (ix_lt hp)) (lay_pc (ix_lt hp)) rfl dX4_reasonAgainst_102 rfl ?_
                refine v_iadd C dX4_reasonAgainst_105 rfl ?_
                refine v_aload_n (j := 1) C dX4_reasonAgainst_106 rfl rfl rfl ?_
                refine v_geti (c := (37 + ix (sg 0 10))) C flX4_183 (lt_tn (ix_lt (hD.tn h1_1))) (lay_tn (ix_lt (hD.tn h1_1))) rfl dX4_reasonAgainst_107 rfl ?_
                refine v_icmp_le (tgt := 116) C dX4_reasonAgainst_110 (by decide) rfl (fun h110_7 => ?_) (fun h110_7 => ?_)
                · skip
                  refine v_bipush (v := 45) C dX4_reasonAgainst_116 (by decide) rfl ?_
                  exact v_ret E dX4_reasonAgainst_118 (by decide) (by decide) ((by simp only [fr_X4_reasonAgainst, if_neg h1_1, if_neg h20_2, if_pos h39_3, if_pos h57_4, if_neg h72_5, if_neg h86_6, if_neg h110_7])) (rfl) rfl
                · skip
                  refine v_bipush (v := 99) C dX4_reasonAgainst_113 (by decide) rfl ?_
                  exact v_ret E dX4_reasonAgainst_115 (by decide) (by decide) ((by simp only [fr_X4_reasonAgainst, if_neg h1_1, if_neg h20_2, if_pos h39_3, if_pos h57_4, if_neg h72_5, if_neg h86_6, if_pos h110_7])) (rfl) rfl
              · skip
                refine v_bipush (v := 108) C dX4_reasonAgainst_89 (by decide) rfl ?_
                exact v_ret E dX4_reasonAgainst_91 (by decide) (by decide) ((by simp only [fr_X4_reasonAgainst, if_neg h1_1, if_neg h20_2, if_pos h39_3, if_pos h57_4, if_neg h72_5, if_pos h86_6])) (rfl) rfl
            · skip
              refine v_bipush (v := 115) C dX4_reasonAgainst_75 (by decide) rfl ?_
              exact v_ret E dX4_reasonAgainst_77 (by decide) (by decide) ((by simp only [fr_X4_reasonAgainst, if_neg h1_1, if_neg h20_2, if_pos h39_3, if_pos h57_4, if_pos h72_5])) (rfl) rfl
          · skip
            refine v_bipush (v := 110) C dX4_reasonAgainst_60 (by decide) rfl ?_
            exact v_ret E dX4_reasonAgainst_62 (by decide) (by decide) ((by simp only [fr_X4_reasonAgainst, if_neg h1_1, if_neg h20_2, if_pos h39_3, if_neg h57_4])) (rfl) rfl
        · skip
          refine v_bipush (v := 102) C dX4_reasonAgainst_42 (by decide) rfl ?_
          exact v_ret E dX4_reasonAgainst_44 (by decide) (by decide) ((by simp only [fr_X4_reasonAgainst, if_neg h1_1, if_neg h20_2, if_neg h39_3])) (rfl) rfl
      · skip
        refine v_bipush (v := 104) C dX4_reasonAgainst_23 (by decide) rfl ?_
        exact v_ret E dX4_reasonAgainst_25 (by decide) (by decide) ((by simp only [fr_X4_reasonAgainst, if_neg h1_1, if_pos h20_2])) (rfl) rfl
def fs_X4_putOn (sg : Sg) (r : Nat) (p : Int32) (t : Nat) : Sg := (if (sg r 5) < 6 then (if (sg (31 + (ix p)) 4) < 0 then sg else (if (sg (31 + (ix p)) 5) < 0 then sg else (up (up (up (up (up (up (up (up (up sg (r + 1) (ix (sg r 5)) p) (r + 2) (ix (sg r 5)) (fr_X4_beginNext sg r (ix p) t)) (r + 3) (ix (sg r 5)) ((fr_X4_beginNext sg r (ix p) t) + (sg (31 + (ix p)) 1))) (r + 4) (ix (sg r 5)) (fr_X4_workNext sg r (ix p) t)) (r + 5) (ix (sg (31 + (ix p)) 4)) ((sg (r + 5) (ix (sg (31 + (ix p)) 4))) + (sg (31 + (ix p)) 6))) (r + 5) (ix (sg (31 + (ix p)) 5)) ((if (ix (sg (31 + (ix p)) 5)) = (ix (sg (31 + (ix p)) 4)) then ((sg (r + 5) (ix (sg (31 + (ix p)) 4))) + (sg (31 + (ix p)) 6)) else sg (r + 5) (ix (sg (31 + (ix p)) 5))) + (sg (31 + (ix p)) 7))) r 6 ((sg r 6) ||| (1 <<< (p &&& 31)))) r 7 ((sg r 7) + (sg (31 + (ix p)) 2))) r 5 ((sg r 5) + 1)))) else sg)
set_option maxHeartbeats 4000000 in
set_option maxRecDepth 20000 in
theorem k_X4_putOn {l : Launch} {D : va_G} {K : Nat → ClassId} {g : Nat → Nat} (sg : Sg) (o : Ot) (r : Nat) (p : Int32) (t : Nat) (h_r : isR r) (h_t : t < 4) (hD : DI sg) (hp : vp_in p 6) : CN l yX4_putOn cX4_putOn 8 none 4 D K g [.ref (g 0), .ref (g r), .int p, .ref (g (37 + t))] sg o none (fs_X4_putOn sg r p t) o :=
  mk_v (own := RX4) (av := fun g => [.ref (g 0), .ref (g r), .int p, .ref (g (37 + t))]) (lo := fun g => [(0, .ref (g 0)), (1, .ref (g r)), (2, .int p), (3, .ref (g (37 + t)))]) (by decide) rfl (fun _ => Nat.le_of_ble_eq_true rfl) (fun _ => rfl) fun X C E => by
    have hR_r : r = 5 ∨ r = 11 ∨ r = 17 := h_r
    have hb_p := ix_lt hp
    refine v_aload_n (j := 0) C dX4_putOn_0 rfl rfl rfl ?_
    refine v_getr (c := 0) C 2 flX4_17 (by decide) rfl rfl dX4_putOn_1 rfl ?_
    refine v_iload_n (j := 2) C dX4_putOn_4 rfl rfl rfl ?_
    refine v_aald (c := 2) C (Or.inr (Or.inl rfl)) hp (by decide) rfl dX4_putOn_5 rfl ?_
    refine v_astore C [(4, .ref (xg X (31 + (ix p)))), (0, .ref (xg X 0)), (1, .ref (xg X r)), (2, .int p), (3, .ref (xg X (37 + t)))] dX4_putOn_6 (by decide) rfl rfl ?_
    refine v_aload_n (j := 2) C dX4_putOn_8 rfl rfl rfl ?_
    refine v_geti (c := r) C flX4_200 (lt_rg h_r) (lay_rg h_r) rfl dX4_putOn_9 rfl ?_
    refine v_istore C [(5, .int (sg r 5)), (4, .ref (xg X (31 + (ix p)))), (0, .ref (xg X 0)), (1, .ref (xg X r)), (2, .int p), (3, .ref (xg X (37 + t)))] dX4_putOn_12 (by decide) rfl rfl ?_
    refine v_iload (j := 0) C dX4_putOn_14 rfl rfl ?_
    refine v_bipush (v := 6) C dX4_putOn_16 (by decide) rfl ?_
    refine v_icmp_ge (tgt := 37) C dX4_putOn_18 (by decide) rfl (fun h18_1 => ?_) (fun h18_1 => ?_)
    · skip
      skip
      exact v_vret E dX4_putOn_37 (by decide) (by decide) ((by simp only [fs_X4_putOn, if_neg h18_1])) rfl
    · skip
      have hsz := (hD.sz h_r).lt' (by decide) h18_1
      refine v_aload (j := 1) C dX4_putOn_21 rfl rfl ?_
      refine v_geti (c := (31 + (ix p))) C flX4_118 (lt_pc (ix_lt hp)) (lay_pc (ix_lt hp)) rfl dX4_putOn_23 rfl ?_
      refine v_if_lt (tgt := 37) C dX4_putOn_26 (by decide) rfl (fun h26_2 => ?_) (fun h26_2 => ?_)
      · skip
        exact v_vret E dX4_putOn_37 (by decide) (by decide) ((by simp only [fs_X4_putOn, if_pos h18_1, if_pos h26_2])) rfl
      · skip
        refine v_aload (j := 1) C dX4_putOn_29 rfl rfl ?_
        refine v_geti (c := (31 + (ix p))) C flX4_121 (lt_pc (ix_lt hp)) (lay_pc (ix_lt hp)) rfl dX4_putOn_31 rfl ?_
        refine v_if_ge (tgt := 38) C dX4_putOn_34 (by decide) rfl (fun h34_3 => ?_) (fun h34_3 => ?_)
        · skip
          refine v_aload_n (j := 2) C dX4_putOn_38 rfl rfl rfl ?_
          refine v_aload_n (j := 3) C dX4_putOn_39 rfl rfl rfl ?_
          refine v_aload (j := 1) C dX4_putOn_40 rfl rfl ?_
          refine v_aload_n (j := 5) C dX4_putOn_42 rfl rfl rfl ?_
          refine v_callV (rest := []) (q := (RX4, TX4, 13)) C kvX4_319 (k_X4_beginNext sg o r (ix p) t h_r (ix_lt hp) h_t hD) (by decide) (by decide) rfl rfl rfl rfl rfl (Nat.le_of_ble_eq_true rfl) (by decide) (by decide) dX4_putOn_43 rfl ?_
          refine v_istore C [(6, .int (fr_X4_beginNext sg r (ix p) t)), (5, .int (sg r 5)), (4, .ref (xg X (31 + (ix p)))), (0, .ref (xg X 0)), (1, .ref (xg X r)), (2, .int p), (3, .ref (xg X (37 + t)))] dX4_putOn_46 (by decide) rfl rfl ?_
          refine v_aload_n (j := 3) C dX4_putOn_48 rfl rfl rfl ?_
          refine v_aload_n (j := 4) C dX4_putOn_49 rfl rfl rfl ?_
          refine v_aload (j := 2) C dX4_putOn_50 rfl rfl ?_
          refine v_aload_n (j := 6) C dX4_putOn_52 rfl rfl rfl ?_
          refine v_callV (rest := []) (q := (RX4, TX4, 13)) C kvX4_331 (k_X4_workNext sg o r (ix p) t h_r (ix_lt hp) h_t hD) (by decide) (by decide) rfl rfl rfl rfl rfl (Nat.le_of_ble_eq_true rfl) (by decide) (by decide) dX4_putOn_53 rfl ?_
          refine v_istore C [(7, .int (fr_X4_workNext sg r (ix p) t)), (6, .int (fr_X4_beginNext sg r (ix p) t)), (5, .int (sg r 5)), (4, .ref (xg X (31 + (ix p)))), (0, .ref (xg X 0)), (1, .ref (xg X r)), (2, .int p), (3, .ref (xg X (37 + t)))] dX4_putOn_56 (by decide) rfl rfl ?_
          refine v_aload_n (j := 5) C dX4_putOn_58 rfl rfl rfl ?_
          refine v_getr (c := r) C (r + 1) flX4_240 (lt_rg h_r) (lay_rg h_r) rfl dX4_putOn_59 rfl ?_
          refine v_iload (j := 2) C dX4_putOn_62 rfl rfl ?_
          refine v_iload_n (j := 6) C dX4_putOn_64 rfl rfl rfl ?_
          refine v_iast (c := (r + 1)) C hsz (lt_ra h_r (by decide)) (lay_r1 h_r) dX4_putOn_65 rfl ?_
          refine v_aload_n (j := 5) C dX4_putOn_66 rfl rfl rfl ?_
          refine v_getr (c := r) C (r + 2) flX4_256 (lt_rg h_r) (lay_rg h_r) rfl dX4_putOn_67 rfl ?_
          refine v_iload (j := 2) C dX4_putOn_70 rfl rfl ?_
          refine v_iload (j := 1) C dX4_putOn_72 rfl rfl ?_
          refine v_iast (c := (r + 2)) C hsz (lt_ra h_r (by decide)) (lay_r2 h_r) dX4_putOn_74 rfl ?_
          refine v_aload_n (j := 5) C dX4_putOn_75 rfl rfl rfl ?_
          refine v_getr (c := r) C (r + 3) flX4_334 (lt_rg h_r) (lay_rg h_r) rfl dX4_putOn_76 rfl ?_
          refine v_iload (j := 2) C dX4_putOn_79 rfl rfl ?_
          refine v_iload (j := 1) C dX4_putOn_81 rfl rfl ?_
          refine v_aload (j := 3) C dX4_putOn_83 rfl rfl ?_
          refine v_geti (c := (31 + (ix p))) C flX4_98 (lt_pc (ix_lt hp)) (lay_pc (ix_lt hp)) rfl dX4_putOn_85 rfl ?_
          refine v_rwi (y := sg (31 + (ix p)) 1) ((up_ne _ _ (Or.inl (by omega))).trans ((up_ne _ _ (Or.inl (by omega))).trans rfl)) ?_
          refine v_iadd C dX4_putOn_88 rfl ?_
          refine v_iast (c := (r + 3)) C hsz (lt_ra h_r (by decide)) (lay_r3 h_r) dX4_putOn_89 rfl ?_
          refine v_aload_n (j := 5) C dX4_putOn_90 rfl rfl rfl ?_
          refine v_getr (c := r) C (r + 4) flX4_337 (lt_rg h_r) (lay_rg h_r) rfl dX4_putOn_91 rfl ?_
          refine v_iload (j := 2) C dX4_putOn_94 rfl rfl ?_
          refine v_iload (j := 0) C dX4_putOn_96 rfl rfl ?_
          refine v_iast (c := (r + 4)) C hsz (lt_ra h_r (by decide)) (lay_r4 h_r) dX4_putOn_98 rfl ?_
          refine v_aload_n (j := 5) C dX4_putOn_99 rfl rfl rfl ?_
          refine v_getr (c := r) C (r + 5) flX4_221 (lt_rg h_r) (lay_rg h_r) rfl dX4_putOn_100 rfl ?_
          refine v_aload (j := 3) C dX4_putOn_103 rfl rfl ?_
          refine v_geti (c := (31 + (ix p))) C flX4_118 (lt_pc (ix_lt hp)) (lay_pc (ix_lt hp)) rfl dX4_putOn_105 rfl ?_
          refine v_rwi (y := sg (31 + (ix p)) 4) ((up_ne _ _ (Or.inl (by omega))).trans ((up_ne _ _ (Or.inl (by omega))).trans ((up_ne _ _ (Or.inl (by omega))).trans ((up_ne _ _ (Or.inl (by omega))).trans rfl)))) ?_
          refine v_dup2 C dX4_putOn_108 rfl rfl rfl ?_
          refine v_iald (c := (r + 5)) C (hD.lf (ix_lt hp) (by assumption)) (lt_ra h_r (by decide)) (lay_r5 h_r) dX4_putOn_109 rfl ?_
          refine v_rwi (y := sg (r + 5) (ix (sg (31 + (ix p)) 4))) ((up_ne _ _ (Or.inl (by omega))).trans ((up_ne _ _ (Or.inl (by omega))).trans ((up_ne _ _ (Or.inl (by omega))).trans ((up_ne _ _ (Or.inl (by omega))).trans rfl)))) ?_
          refine v_aload (j := 3) C dX4_putOn_110 rfl rfl ?_
          refine v_geti (c := (31 + (ix p))) C flX4_128 (lt_pc (ix_lt hp)) (lay_pc (ix_lt hp)) rfl dX4_putOn_112 rfl ?_
          refine v_rwi (y := sg (31 + (ix p)) 6) ((up_ne _ _ (Or.inl (by omega))).trans ((up_ne _ _ (Or.inl (by omega))).trans ((up_ne _ _ (Or.inl (by omega))).trans ((up_ne _ _ (Or.inl (by omega))).trans rfl)))) ?_
          refine v_iadd C dX4_putOn_115 rfl ?_
          refine v_iast (c := (r + 5)) C (hD.lf (ix_lt hp) (by assumption)) (lt_ra h_r (by decide)) (lay_r5 h_r) dX4_putOn_116 rfl ?_
          refine v_aload_n (j := 5) C dX4_putOn_117 rfl rfl rfl ?_
          refine v_getr (c := r) C (r + 5) flX4_221 (lt_rg h_r) (lay_rg h_r) rfl dX4_putOn_118 rfl ?_
          refine v_aload (j := 3) C dX4_putOn_121 rfl rfl ?_
          refine v_geti (c := (31 + (ix p))) C flX4_121 (lt_pc (ix_lt hp)) (lay_pc (ix_lt hp)) rfl dX4_putOn_123 rfl ?_
          refine v_rwi (y := sg (31 + (ix p)) 5) ((up_ne _ _ (Or.inl (by omega))).trans ((up_ne _ _ (Or.inl (by omega))).trans ((up_ne _ _ (Or.inl (by omega))).trans ((up_ne _ _ (Or.inl (by omega))).trans ((up_ne _ _ (Or.inl (by omega))).trans rfl))))) ?_
          refine v_dup2 C dX4_putOn_126 rfl rfl rfl ?_
          refine v_iald (c := (r + 5)) C (hD.rt (ix_lt hp) (by assumption)) (lt_ra h_r (by decide)) (lay_r5 h_r) dX4_putOn_127 rfl ?_
          refine v_rwi (y := if (ix (sg (31 + (ix p)) 5)) = (ix (sg (31 + (ix p)) 4)) then ((sg (r + 5) (ix (sg (31 + (ix p)) 4))) + (sg (31 + (ix p)) 6)) else sg (r + 5) (ix (sg (31 + (ix p)) 5))) (up_if ((up_ne _ _ (Or.inl (by omega))).trans ((up_ne _ _ (Or.inl (by omega))).trans ((up_ne _ _ (Or.inl (by omega))).trans ((up_ne _ _ (Or.inl (by omega))).trans rfl))))) ?_
          refine v_aload (j := 3) C dX4_putOn_128 rfl rfl ?_
          refine v_geti (c := (31 + (ix p))) C flX4_131 (lt_pc (ix_lt hp)) (lay_pc (ix_lt hp)) rfl dX4_putOn_130 rfl ?_
          refine v_rwi (y := sg (31 + (ix p)) 7) ((up_ne _ _ (Or.inl (by omega))).trans ((up_ne _ _ (Or.inl (by omega))).trans ((up_ne _ _ (Or.inl (by omega))).trans ((up_ne _ _ (Or.inl (by omega))).trans ((up_ne _ _ (Or.inl (by omega))).trans rfl))))) ?_
          refine v_iadd C dX4_putOn_133 rfl ?_
          refine v_iast (c := (r + 5)) C (hD.rt (ix_lt hp) (by assumption)) (lt_ra h_r (by decide)) (lay_r5 h_r) dX4_putOn_134 rfl ?_
          refine v_aload_n (j := 5) C dX4_putOn_135 rfl rfl rfl ?_
          refine v_dup C dX4_putOn_136 rfl rfl ?_
          refine v_geti (c := r) C flX4_307 (lt_rg h_r) (lay_rg h_r) rfl dX4_putOn_137 rfl ?_
          refine v_rwi (y := sg r 6) ((up_ne _ _ (Or.inl (by omega))).trans ((up_ne _ _ (Or.inl (by omega))).trans ((up_ne _ _ (Or.inl (by omega))).trans ((up_ne _ _ (Or.inl (by omega))).trans ((up_ne _ _ (Or.inl (by omega))).trans ((up_ne _ _ (Or.inl (by omega))).trans rfl)))))) ?_
          refine v_iconst (v := 1) C dX4_putOn_140 (by decide) rfl ?_
          refine v_iload_n (j := 6) C dX4_putOn_141 rfl rfl rfl ?_
          refine v_ishl C dX4_putOn_142 rfl ?_
          refine v_ior C dX4_putOn_143 rfl ?_
          refine v_puti (c := r) C fpX4_307 (lt_rg h_r) (lay_rg h_r) rfl dX4_putOn_144 rfl ?_
          refine v_aload_n (j := 5) C dX4_putOn_147 rfl rfl rfl ?_
          refine v_dup C dX4_putOn_148 rfl rfl ?_
          refine v_geti (c := r) C flX4_273 (lt_rg h_r) (lay_rg h_r) rfl dX4_putOn_149 rfl ?_
          refine v_rwi (y := sg r 7) ((up_ne _ _ (Or.inr (by decide))).trans ((up_ne _ _ (Or.inl (by omega))).trans ((up_ne _ _ (Or.inl (by omega))).trans ((up_ne _ _ (Or.inl (by omega))).trans ((up_ne _ _ (Or.inl (by omega))).trans ((up_ne _ _ (Or.inl (by omega))).trans ((up_ne _ _ (Or.inl (by omega))).trans rfl))))))) ?_
          refine v_aload (j := 3) C dX4_putOn_152 rfl rfl ?_
          refine v_geti (c := (31 + (ix p))) C flX4_101 (lt_pc (ix_lt hp)) (lay_pc (ix_lt hp)) rfl dX4_putOn_154 rfl ?_
          refine v_rwi (y := sg (31 + (ix p)) 2) ((up_ne _ _ (Or.inl (by omega))).trans ((up_ne _ _ (Or.inl (by omega))).trans ((up_ne _ _ (Or.inl (by omega))).trans ((up_ne _ _ (Or.inl (by omega))).trans ((up_ne _ _ (Or.inl (by omega))).trans ((up_ne _ _ (Or.inl (by omega))).trans ((up_ne _ _ (Or.inl (by omega))).trans rfl))))))) ?_
          refine v_iadd C dX4_putOn_157 rfl ?_
          refine v_puti (c := r) C fpX4_273 (lt_rg h_r) (lay_rg h_r) rfl dX4_putOn_158 rfl ?_
          refine v_aload_n (j := 5) C dX4_putOn_161 rfl rfl rfl ?_
          refine v_iload (j := 2) C dX4_putOn_162 rfl rfl ?_
          refine v_iconst (v := 1) C dX4_putOn_164 (by decide) rfl ?_
          refine v_iadd C dX4_putOn_165 rfl ?_
          refine v_puti (c := r) C fpX4_200 (lt_rg h_r) (lay_rg h_r) rfl dX4_putOn_166 rfl ?_
          exact v_vret E dX4_putOn_169 (by decide) (by decide) ((by simp only [fs_X4_putOn, if_pos h18_1, if_neg h26_2, if_neg h34_3])) rfl
        · skip
          exact v_vret E dX4_putOn_37 (by decide) (by decide) ((by simp only [fs_X4_putOn, if_pos h18_1, if_neg h26_2, if_pos h34_3])) rfl
def fs_X4_takeLastOff (sg : Sg) (r : Nat) : Sg := (if ((sg r 5) - 1) < 0 then sg else (if (sg (31 + (ix (sg (r + 1) (ix ((sg r 5) - 1))))) 4) < 0 then sg else (if (sg (31 + (ix (sg (r + 1) (ix ((sg r 5) - 1))))) 5) < 0 then sg else (up (up (up (up (up sg (r + 5) (ix (sg (31 + (ix (sg (r + 1) (ix ((sg r 5) - 1))))) 4)) ((sg (r + 5) (ix (sg (31 + (ix (sg (r + 1) (ix ((sg r 5) - 1))))) 4))) - (sg (31 + (ix (sg (r + 1) (ix ((sg r 5) - 1))))) 6))) (r + 5) (ix (sg (31 + (ix (sg (r + 1) (ix ((sg r 5) - 1))))) 5)) ((if (ix (sg (31 + (ix (sg (r + 1) (ix ((sg r 5) - 1))))) 5)) = (ix (sg (31 + (ix (sg (r + 1) (ix ((sg r 5) - 1))))) 4)) then ((sg (r + 5) (ix (sg (31 + (ix (sg (r + 1) (ix ((sg r 5) - 1))))) 4))) - (sg (31 + (ix (sg (r + 1) (ix ((sg r 5) - 1))))) 6)) else sg (r + 5) (ix (sg (31 + (ix (sg (r + 1) (ix ((sg r 5) - 1))))) 5))) - (sg (31 + (ix (sg (r + 1) (ix ((sg r 5) - 1))))) 7))) r 6 ((sg r 6) &&& ((1 <<< ((sg (r + 1) (ix ((sg r 5) - 1))) &&& 31)) ^^^ ((-1))))) r 7 ((sg r 7) - (sg (31 + (ix (sg (r + 1) (ix ((sg r 5) - 1))))) 2))) r 5 ((sg r 5) - 1)))))
set_option maxHeartbeats 4000000 in
set_option maxRecDepth 20000 in
theorem k_X4_takeLastOff {l : Launch} {D : va_G} {K : Nat → ClassId} {g : Nat → Nat} (sg : Sg) (o : Ot) (r : Nat) (h_r : isR r) (hD : DI sg) : CN l yX4_takeLastOff cX4_takeLastOff 5 none 1 D K g [.ref (g 0), .ref (g r)] sg o none (fs_X4_takeLastOff sg r) o :=
  mk_v (own := RX4) (av := fun g => [.ref (g 0), .ref (g r)]) (lo := fun g => [(0, .ref (g 0)), (1, .ref (g r))]) (by decide) rfl (fun _ => Nat.le_of_ble_eq_true rfl) (fun _ => rfl) fun X C E => by
    have hR_r : r = 5 ∨ r = 11 ∨ r = 17 := h_r
    refine v_aload_n (j := 1) C dX4_takeLastOff_0 rfl rfl rfl ?_
    refine v_geti (c := r) C flX4_200 (lt_rg h_r) (lay_rg h_r) rfl dX4_takeLastOff_1 rfl ?_
    refine v_iconst (v := 1) C dX4_takeLastOff_4 (by decide) rfl ?_
    refine v_isub C dX4_takeLastOff_5 rfl ?_
    refine v_istore_n C [(2, .int ((sg r 5) - 1)), (0, .ref (xg X 0)), (1, .ref (xg X r))] dX4_takeLastOff_6 rfl (by decide) rfl rfl ?_
    refine v_iload_n (j := 0) C dX4_takeLastOff_7 rfl rfl rfl ?_
    refine v_if_ge (tgt := 12) C dX4_takeLastOff_8 (by decide) rfl (fun h8_1 => ?_) (fun h8_1 => ?_)
    · skip
      have hq0 := sub_nn (hD.sz h_r) (by decide) h8_1; have hq1 := hD.last h_r hq0; have hq2 := hD.lasto h_r hq0; have hb_q := ix_lt hq2
      refine v_aload_n (j := 2) C dX4_takeLastOff_12 rfl rfl rfl ?_
      refine v_getr (c := r) C (r + 1) flX4_240 (lt_rg h_r) (lay_rg h_r) rfl dX4_takeLastOff_13 rfl ?_
      refine v_iload_n (j := 0) C dX4_takeLastOff_16 rfl rfl rfl ?_
      refine v_iald (c := (r + 1)) C hq1 (lt_ra h_r (by decide)) (lay_r1 h_r) dX4_takeLastOff_17 rfl ?_
      refine v_istore_n C [(3, .int (sg (r + 1) (ix ((sg r 5) - 1)))), (2, .int ((sg r 5) - 1)), (0, .ref (xg X 0)), (1, .ref (xg X r))] dX4_takeLastOff_18 rfl (by decide) rfl rfl ?_
      refine v_aload_n (j := 2) C dX4_takeLastOff_19 rfl rfl rfl ?_
      refine v_getr (c := 0) C 2 flX4_17 (by decide) rfl rfl dX4_takeLastOff_20 rfl ?_
      refine v_iload_n (j := 0) C dX4_takeLastOff_23 rfl rfl rfl ?_
      refine v_aald (c := 2) C (Or.inr (Or.inl rfl)) hq2 (by decide) rfl dX4_takeLastOff_24 rfl ?_
      refine v_astore C [(4, .ref (xg X (31 + (ix (sg (r + 1) (ix ((sg r 5) - 1))))))), (3, .int (sg (r + 1) (ix ((sg r 5) - 1)))), (2, .int ((sg r 5) - 1)), (0, .ref (xg X 0)), (1, .ref (xg X r))] dX4_takeLastOff_25 (by decide) rfl rfl ?_
      refine v_aload (j := 0) C dX4_takeLastOff_27 rfl rfl ?_
      refine v_geti (c := (31 + (ix (sg (r + 1) (ix ((sg r 5) - 1)))))) C flX4_118 (lt_pc (ix_lt hq2)) (lay_pc (ix_lt hq2)) rfl dX4_takeLastOff_29 rfl ?_
      refine v_if_lt (tgt := 43) C dX4_takeLastOff_32 (by decide) rfl (fun h32_2 => ?_) (fun h32_2 => ?_)
      · skip
        exact v_vret E dX4_takeLastOff_43 (by decide) (by decide) ((by simp only [fs_X4_takeLastOff, if_neg h8_1, if_pos h32_2])) rfl
      · skip
        refine v_aload (j := 0) C dX4_takeLastOff_35 rfl rfl ?_
        refine v_geti (c := (31 + (ix (sg (r + 1) (ix ((sg r 5) - 1)))))) C flX4_121 (lt_pc (ix_lt hq2)) (lay_pc (ix_lt hq2)) rfl dX4_takeLastOff_37 rfl ?_
        refine v_if_ge (tgt := 44) C dX4_takeLastOff_40 (by decide) rfl (fun h40_3 => ?_) (fun h40_3 => ?_)
        · skip
          refine v_aload_n (j := 4) C dX4_takeLastOff_44 rfl rfl rfl ?_
          refine v_getr (c := r) C (r + 5) flX4_221 (lt_rg h_r) (lay_rg h_r) rfl dX4_takeLastOff_45 rfl ?_
          refine v_aload (j := 0) C dX4_takeLastOff_48 rfl rfl ?_
          refine v_geti (c := (31 + (ix (sg (r + 1) (ix ((sg r 5) - 1)))))) C flX4_118 (lt_pc (ix_lt hq2)) (lay_pc (ix_lt hq2)) rfl dX4_takeLastOff_50 rfl ?_
          refine v_dup2 C dX4_takeLastOff_53 rfl rfl rfl ?_
          refine v_iald (c := (r + 5)) C (hD.lf (ix_lt hq2) (by assumption)) (lt_ra h_r (by decide)) (lay_r5 h_r) dX4_takeLastOff_54 rfl ?_
          refine v_aload (j := 0) C dX4_takeLastOff_55 rfl rfl ?_
          refine v_geti (c := (31 + (ix (sg (r + 1) (ix ((sg r 5) - 1)))))) C flX4_128 (lt_pc (ix_lt hq2)) (lay_pc (ix_lt hq2)) rfl dX4_takeLastOff_57 rfl ?_
          refine v_isub C dX4_takeLastOff_60 rfl ?_
          refine v_iast (c := (r + 5)) C (hD.lf (ix_lt hq2) (by assumption)) (lt_ra h_r (by decide)) (lay_r5 h_r) dX4_takeLastOff_61 rfl ?_
          refine v_aload_n (j := 4) C dX4_takeLastOff_62 rfl rfl rfl ?_
          refine v_getr (c := r) C (r + 5) flX4_221 (lt_rg h_r) (lay_rg h_r) rfl dX4_takeLastOff_63 rfl ?_
          refine v_aload (j := 0) C dX4_takeLastOff_66 rfl rfl ?_
          refine v_geti (c := (31 + (ix (sg (r + 1) (ix ((sg r 5) - 1)))))) C flX4_121 (lt_pc (ix_lt hq2)) (lay_pc (ix_lt hq2)) rfl dX4_takeLastOff_68 rfl ?_
          refine v_rwi (y := sg (31 + (ix (sg (r + 1) (ix ((sg r 5) - 1))))) 5) ((up_ne _ _ (Or.inl (by omega))).trans rfl) ?_
          refine v_dup2 C dX4_takeLastOff_71 rfl rfl rfl ?_
          refine v_iald (c := (r + 5)) C (hD.rt (ix_lt hq2) (by assumption)) (lt_ra h_r (by decide)) (lay_r5 h_r) dX4_takeLastOff_72 rfl ?_
          refine v_rwi (y := if (ix (sg (31 + (ix (sg (r + 1) (ix ((sg r 5) - 1))))) 5)) = (ix (sg (31 + (ix (sg (r + 1) (ix ((sg r 5) - 1))))) 4)) then ((sg (r + 5) (ix (sg (31 + (ix (sg (r + 1) (ix ((sg r 5) - 1))))) 4))) - (sg (31 + (ix (sg (r + 1) (ix ((sg r 5) - 1))))) 6)) else sg (r + 5) (ix (sg (31 + (ix (sg (r + 1) (ix ((sg r 5) - 1))))) 5))) (up_if rfl) ?_
          refine v_aload (j := 0) C dX4_takeLastOff_73 rfl rfl ?_
          refine v_geti (c := (31 + (ix (sg (r + 1) (ix ((sg r 5) - 1)))))) C flX4_131 (lt_pc (ix_lt hq2)) (lay_pc (ix_lt hq2)) rfl dX4_takeLastOff_75 rfl ?_
          refine v_rwi (y := sg (31 + (ix (sg (r + 1) (ix ((sg r 5) - 1))))) 7) ((up_ne _ _ (Or.inl (by omega))).trans rfl) ?_
          refine v_isub C dX4_takeLastOff_78 rfl ?_
          refine v_iast (c := (r + 5)) C (hD.rt (ix_lt hq2) (by assumption)) (lt_ra h_r (by decide)) (lay_r5 h_r) dX4_takeLastOff_79 rfl ?_
          refine v_aload_n (j := 4) C dX4_takeLastOff_80 rfl rfl rfl ?_
          refine v_dup C dX4_takeLastOff_81 rfl rfl ?_
          refine v_geti (c := r) C flX4_307 (lt_rg h_r) (lay_rg h_r) rfl dX4_takeLastOff_82 rfl ?_
          refine v_rwi (y := sg r 6) ((up_ne _ _ (Or.inl (by omega))).trans ((up_ne _ _ (Or.inl (by omega))).trans rfl)) ?_
          refine v_iconst (v := 1) C dX4_takeLastOff_85 (by decide) rfl ?_
          refine v_iload_n (j := 1) C dX4_takeLastOff_86 rfl rfl rfl ?_
          refine v_ishl C dX4_takeLastOff_87 rfl ?_
          refine v_iconst (v := (-1)) C dX4_takeLastOff_88 (by decide) rfl ?_
          refine v_ixor C dX4_takeLastOff_89 rfl ?_
          refine v_iand C dX4_takeLastOff_90 rfl ?_
          refine v_puti (c := r) C fpX4_307 (lt_rg h_r) (lay_rg h_r) rfl dX4_takeLastOff_91 rfl ?_
          refine v_aload_n (j := 4) C dX4_takeLastOff_94 rfl rfl rfl ?_
          refine v_dup C dX4_takeLastOff_95 rfl rfl ?_
          refine v_geti (c := r) C flX4_273 (lt_rg h_r) (lay_rg h_r) rfl dX4_takeLastOff_96 rfl ?_
          refine v_rwi (y := sg r 7) ((up_ne _ _ (Or.inr (by decide))).trans ((up_ne _ _ (Or.inl (by omega))).trans ((up_ne _ _ (Or.inl (by omega))).trans rfl))) ?_
          refine v_aload (j := 0) C dX4_takeLastOff_99 rfl rfl ?_
          refine v_geti (c := (31 + (ix (sg (r + 1) (ix ((sg r 5) - 1)))))) C flX4_101 (lt_pc (ix_lt hq2)) (lay_pc (ix_lt hq2)) rfl dX4_takeLastOff_101 rfl ?_
          refine v_rwi (y := sg (31 + (ix (sg (r + 1) (ix ((sg r 5) - 1))))) 2) ((up_ne _ _ (Or.inl (by omega))).trans ((up_ne _ _ (Or.inl (by omega))).trans ((up_ne _ _ (Or.inl (by omega))).trans rfl))) ?_
          refine v_isub C dX4_takeLastOff_104 rfl ?_
          refine v_puti (c := r) C fpX4_273 (lt_rg h_r) (lay_rg h_r) rfl dX4_takeLastOff_105 rfl ?_
          refine v_aload_n (j := 4) C dX4_takeLastOff_108 rfl rfl rfl ?_
          refine v_iload_n (j := 2) C dX4_takeLastOff_109 rfl rfl rfl ?_
          refine v_puti (c := r) C fpX4_200 (lt_rg h_r) (lay_rg h_r) rfl dX4_takeLastOff_110 rfl ?_
          exact v_vret E dX4_takeLastOff_113 (by decide) (by decide) ((by simp only [fs_X4_takeLastOff, if_neg h8_1, if_neg h32_2, if_neg h40_3])) rfl
        · skip
          exact v_vret E dX4_takeLastOff_43 (by decide) (by decide) ((by simp only [fs_X4_takeLastOff, if_neg h8_1, if_neg h32_2, if_pos h40_3])) rfl
    · skip
      skip
      exact v_vret E dX4_takeLastOff_11 (by decide) (by decide) ((by simp only [fs_X4_takeLastOff, if_pos h8_1])) rfl
end
