section
-- ===== PART A: goes FIRST, ahead of the names: the tables' words, and 'selects' of the private methods out of them =====
/-- a private method of a class that the tables say can be made, by its rows of tables_1 -/
def lw_okq (q : MethodName × Nat) : Prop := (q.1.cls ≠ "java/lang/invoke/MethodHandle" ∧ q.1.cls ≠ "java/lang/invoke/VarHandle") ∧ Cond.instantiable q.1.cls q.2 ∈ tables_1 ∧ Cond.privateMethod q.1 ∈ tables_1 ∧ Cond.instanceMethod q.1 ∈ tables_1
theorem lw_p0 : lw_okq (⟨"ConfigTexts", "partitionAt", "(I)LConfigTexts$Partition;"⟩, 6) := ⟨⟨by decide +kernel, by decide +kernel⟩, List.mem_of_getElem? (i := 19) (by decide +kernel), List.mem_of_getElem? (i := 222) (by decide +kernel), List.mem_of_getElem? (i := 223) (by decide +kernel)⟩
theorem lw_p1 : lw_okq (⟨"ConfigTexts", "numberOf", "(IIII)I"⟩, 6) := ⟨⟨by decide +kernel, by decide +kernel⟩, List.mem_of_getElem? (i := 19) (by decide +kernel), List.mem_of_getElem? (i := 238) (by decide +kernel), List.mem_of_getElem? (i := 239) (by decide +kernel)⟩
theorem lw_p2 : lw_okq (⟨"ConfigTexts$Rows", "holds", "(II)Z"⟩, 5) := ⟨⟨by decide +kernel, by decide +kernel⟩, List.mem_of_getElem? (i := 79) (by decide +kernel), List.mem_of_getElem? (i := 246) (by decide +kernel), List.mem_of_getElem? (i := 247) (by decide +kernel)⟩
theorem lw_p3 : lw_okq (⟨"ConfigTexts$Words", "spell", "()V"⟩, 9) := ⟨⟨by decide +kernel, by decide +kernel⟩, List.mem_of_getElem? (i := 27) (by decide +kernel), List.mem_of_getElem? (i := 377) (by decide +kernel), List.mem_of_getElem? (i := 378) (by decide +kernel)⟩
theorem lw_p4 : lw_okq (⟨"ConfigTexts$Words", "reckon", "()V"⟩, 9) := ⟨⟨by decide +kernel, by decide +kernel⟩, List.mem_of_getElem? (i := 27) (by decide +kernel), List.mem_of_getElem? (i := 382) (by decide +kernel), List.mem_of_getElem? (i := 383) (by decide +kernel)⟩
theorem lw_p5 : lw_okq (⟨"java/lang/Throwable", "fillInStackTrace", "(I)Ljava/lang/Throwable;"⟩, 6) := ⟨⟨by decide +kernel, by decide +kernel⟩, List.mem_of_getElem? (i := 426) (by decide +kernel), List.mem_of_getElem? (i := 424) (by decide +kernel), List.mem_of_getElem? (i := 425) (by decide +kernel)⟩
theorem lw_p6 : lw_okq (⟨"ConfigTexts$Reader", "openPartition", "()V"⟩, 4) := ⟨⟨by decide +kernel, by decide +kernel⟩, List.mem_of_getElem? (i := 164) (by decide +kernel), List.mem_of_getElem? (i := 489) (by decide +kernel), List.mem_of_getElem? (i := 490) (by decide +kernel)⟩
theorem lw_p7 : lw_okq (⟨"ConfigTexts$Reader", "readSetting", "(Ljava/lang/String;III)I"⟩, 4) := ⟨⟨by decide +kernel, by decide +kernel⟩, List.mem_of_getElem? (i := 164) (by decide +kernel), List.mem_of_getElem? (i := 527) (by decide +kernel), List.mem_of_getElem? (i := 528) (by decide +kernel)⟩
theorem lw_p8 : lw_okq (⟨"ConfigTexts$Reader", "readProcess", "(LConfigTexts$Partition;)V"⟩, 4) := ⟨⟨by decide +kernel, by decide +kernel⟩, List.mem_of_getElem? (i := 164) (by decide +kernel), List.mem_of_getElem? (i := 540) (by decide +kernel), List.mem_of_getElem? (i := 541) (by decide +kernel)⟩
theorem lw_p9 : lw_okq (⟨"ConfigTexts$Reader", "nameThing", "(LConfigTexts$Partition;I)LConfigTexts$Rows;"⟩, 4) := ⟨⟨by decide +kernel, by decide +kernel⟩, List.mem_of_getElem? (i := 164) (by decide +kernel), List.mem_of_getElem? (i := 544) (by decide +kernel), List.mem_of_getElem? (i := 545) (by decide +kernel)⟩
theorem lw_p10 : lw_okq (⟨"ConfigTexts$Reader", "readSemaphore", "(LConfigTexts$Partition;)V"⟩, 4) := ⟨⟨by decide +kernel, by decide +kernel⟩, List.mem_of_getElem? (i := 164) (by decide +kernel), List.mem_of_getElem? (i := 580) (by decide +kernel), List.mem_of_getElem? (i := 581) (by decide +kernel)⟩
theorem lw_p11 : lw_okq (⟨"ConfigTexts$Reader", "readBuffer", "(LConfigTexts$Partition;)V"⟩, 4) := ⟨⟨by decide +kernel, by decide +kernel⟩, List.mem_of_getElem? (i := 164) (by decide +kernel), List.mem_of_getElem? (i := 586) (by decide +kernel), List.mem_of_getElem? (i := 587) (by decide +kernel)⟩
theorem lw_p12 : lw_okq (⟨"ConfigTexts$Reader", "readPort", "(LConfigTexts$Partition;)V"⟩, 4) := ⟨⟨by decide +kernel, by decide +kernel⟩, List.mem_of_getElem? (i := 164) (by decide +kernel), List.mem_of_getElem? (i := 590) (by decide +kernel), List.mem_of_getElem? (i := 591) (by decide +kernel)⟩
theorem lw_p13 : lw_okq (⟨"ConfigTexts$Reader", "readErrors", "(LConfigTexts$Partition;)V"⟩, 4) := ⟨⟨by decide +kernel, by decide +kernel⟩, List.mem_of_getElem? (i := 164) (by decide +kernel), List.mem_of_getElem? (i := 600) (by decide +kernel), List.mem_of_getElem? (i := 601) (by decide +kernel)⟩
theorem lw_p14 : lw_okq (⟨"ConfigTexts$Reader", "readAction", "()I"⟩, 4) := ⟨⟨by decide +kernel, by decide +kernel⟩, List.mem_of_getElem? (i := 164) (by decide +kernel), List.mem_of_getElem? (i := 606) (by decide +kernel), List.mem_of_getElem? (i := 607) (by decide +kernel)⟩
theorem lw_p15 : lw_okq (⟨"ConfigTexts$Reader", "closePartition", "(LConfigTexts$Partition;)V"⟩, 4) := ⟨⟨by decide +kernel, by decide +kernel⟩, List.mem_of_getElem? (i := 164) (by decide +kernel), List.mem_of_getElem? (i := 615) (by decide +kernel), List.mem_of_getElem? (i := 616) (by decide +kernel)⟩
def lw_privs_1 : List (MethodName × Nat) := [(⟨"ConfigTexts", "partitionAt", "(I)LConfigTexts$Partition;"⟩, 6), (⟨"ConfigTexts", "numberOf", "(IIII)I"⟩, 6), (⟨"ConfigTexts$Rows", "holds", "(II)Z"⟩, 5), (⟨"ConfigTexts$Words", "spell", "()V"⟩, 9), (⟨"ConfigTexts$Words", "reckon", "()V"⟩, 9), (⟨"java/lang/Throwable", "fillInStackTrace", "(I)Ljava/lang/Throwable;"⟩, 6), (⟨"ConfigTexts$Reader", "openPartition", "()V"⟩, 4), (⟨"ConfigTexts$Reader", "readSetting", "(Ljava/lang/String;III)I"⟩, 4), (⟨"ConfigTexts$Reader", "readProcess", "(LConfigTexts$Partition;)V"⟩, 4), (⟨"ConfigTexts$Reader", "nameThing", "(LConfigTexts$Partition;I)LConfigTexts$Rows;"⟩, 4), (⟨"ConfigTexts$Reader", "readSemaphore", "(LConfigTexts$Partition;)V"⟩, 4), (⟨"ConfigTexts$Reader", "readBuffer", "(LConfigTexts$Partition;)V"⟩, 4), (⟨"ConfigTexts$Reader", "readPort", "(LConfigTexts$Partition;)V"⟩, 4), (⟨"ConfigTexts$Reader", "readErrors", "(LConfigTexts$Partition;)V"⟩, 4), (⟨"ConfigTexts$Reader", "readAction", "()I"⟩, 4), (⟨"ConfigTexts$Reader", "closePartition", "(LConfigTexts$Partition;)V"⟩, 4)]
theorem lw_r1 : ∀ q ∈ lw_privs_1, lw_okq q := List.forall_mem_cons.mpr ⟨lw_p0, List.forall_mem_cons.mpr ⟨lw_p1, List.forall_mem_cons.mpr ⟨lw_p2, List.forall_mem_cons.mpr ⟨lw_p3, List.forall_mem_cons.mpr ⟨lw_p4, List.forall_mem_cons.mpr ⟨lw_p5, List.forall_mem_cons.mpr ⟨lw_p6, List.forall_mem_cons.mpr ⟨lw_p7, List.forall_mem_cons.mpr ⟨lw_p8, List.forall_mem_cons.mpr ⟨lw_p9, List.forall_mem_cons.mpr ⟨lw_p10, List.forall_mem_cons.mpr ⟨lw_p11, List.forall_mem_cons.mpr ⟨lw_p12, List.forall_mem_cons.mpr ⟨lw_p13, List.forall_mem_cons.mpr ⟨lw_p14, List.forall_mem_cons.mpr ⟨lw_p15, fun _ h => absurd h List.not_mem_nil⟩⟩⟩⟩⟩⟩⟩⟩⟩⟩⟩⟩⟩⟩⟩⟩
theorem lw_p16 : lw_okq (⟨"ConfigTexts$Reader", "readEnd", "(Ljava/lang/String;II)I"⟩, 4) := ⟨⟨by decide +kernel, by decide +kernel⟩, List.mem_of_getElem? (i := 164) (by decide +kernel), List.mem_of_getElem? (i := 630) (by decide +kernel), List.mem_of_getElem? (i := 631) (by decide +kernel)⟩
theorem lw_p17 : lw_okq (⟨"ConfigTexts$Reader", "readPartitionName", "()I"⟩, 4) := ⟨⟨by decide +kernel, by decide +kernel⟩, List.mem_of_getElem? (i := 164) (by decide +kernel), List.mem_of_getElem? (i := 634) (by decide +kernel), List.mem_of_getElem? (i := 635) (by decide +kernel)⟩
theorem lw_p18 : lw_okq (⟨"ConfigTexts$Reader", "readGoals", "(I)V"⟩, 4) := ⟨⟨by decide +kernel, by decide +kernel⟩, List.mem_of_getElem? (i := 164) (by decide +kernel), List.mem_of_getElem? (i := 643) (by decide +kernel), List.mem_of_getElem? (i := 644) (by decide +kernel)⟩
theorem lw_p19 : lw_okq (⟨"ConfigTexts$Reader", "readWindow", "()V"⟩, 4) := ⟨⟨by decide +kernel, by decide +kernel⟩, List.mem_of_getElem? (i := 164) (by decide +kernel), List.mem_of_getElem? (i := 654) (by decide +kernel), List.mem_of_getElem? (i := 655) (by decide +kernel)⟩
theorem lw_p20 : lw_okq (⟨"ConfigTextsModel", "forget", "()V"⟩, 41) := ⟨⟨by decide +kernel, by decide +kernel⟩, List.mem_of_getElem? (i := 662) (by decide +kernel), List.mem_of_getElem? (i := 838) (by decide +kernel), List.mem_of_getElem? (i := 839) (by decide +kernel)⟩
theorem lw_p21 : lw_okq (⟨"ConfigTextsModel", "next", "()V"⟩, 41) := ⟨⟨by decide +kernel, by decide +kernel⟩, List.mem_of_getElem? (i := 662) (by decide +kernel), List.mem_of_getElem? (i := 842) (by decide +kernel), List.mem_of_getElem? (i := 843) (by decide +kernel)⟩
theorem lw_p22 : lw_okq (⟨"ConfigTextsModel", "see", "(I)I"⟩, 41) := ⟨⟨by decide +kernel, by decide +kernel⟩, List.mem_of_getElem? (i := 662) (by decide +kernel), List.mem_of_getElem? (i := 846) (by decide +kernel), List.mem_of_getElem? (i := 847) (by decide +kernel)⟩
theorem lw_p23 : lw_okq (⟨"ConfigTextsModel", "readName", "()V"⟩, 41) := ⟨⟨by decide +kernel, by decide +kernel⟩, List.mem_of_getElem? (i := 662) (by decide +kernel), List.mem_of_getElem? (i := 853) (by decide +kernel), List.mem_of_getElem? (i := 854) (by decide +kernel)⟩
theorem lw_p24 : lw_okq (⟨"ConfigTextsModel", "wordOf", "(J)I"⟩, 41) := ⟨⟨by decide +kernel, by decide +kernel⟩, List.mem_of_getElem? (i := 662) (by decide +kernel), List.mem_of_getElem? (i := 861) (by decide +kernel), List.mem_of_getElem? (i := 862) (by decide +kernel)⟩
theorem lw_p25 : lw_okq (⟨"ConfigTextsModel", "readNumber", "()V"⟩, 41) := ⟨⟨by decide +kernel, by decide +kernel⟩, List.mem_of_getElem? (i := 662) (by decide +kernel), List.mem_of_getElem? (i := 865) (by decide +kernel), List.mem_of_getElem? (i := 866) (by decide +kernel)⟩
theorem lw_p26 : lw_okq (⟨"ConfigTextsModel", "readPartition", "()V"⟩, 41) := ⟨⟨by decide +kernel, by decide +kernel⟩, List.mem_of_getElem? (i := 662) (by decide +kernel), List.mem_of_getElem? (i := 871) (by decide +kernel), List.mem_of_getElem? (i := 872) (by decide +kernel)⟩
theorem lw_p27 : lw_okq (⟨"ConfigTextsModel", "need", "(I)V"⟩, 41) := ⟨⟨by decide +kernel, by decide +kernel⟩, List.mem_of_getElem? (i := 662) (by decide +kernel), List.mem_of_getElem? (i := 875) (by decide +kernel), List.mem_of_getElem? (i := 876) (by decide +kernel)⟩
theorem lw_p28 : lw_okq (⟨"ConfigTextsModel", "isWord", "(I)Z"⟩, 41) := ⟨⟨by decide +kernel, by decide +kernel⟩, List.mem_of_getElem? (i := 662) (by decide +kernel), List.mem_of_getElem? (i := 879) (by decide +kernel), List.mem_of_getElem? (i := 880) (by decide +kernel)⟩
theorem lw_p29 : lw_okq (⟨"ConfigTextsModel", "good", "()Z"⟩, 41) := ⟨⟨by decide +kernel, by decide +kernel⟩, List.mem_of_getElem? (i := 662) (by decide +kernel), List.mem_of_getElem? (i := 883) (by decide +kernel), List.mem_of_getElem? (i := 884) (by decide +kernel)⟩
theorem lw_p30 : lw_okq (⟨"ConfigTextsModel", "bad", "(I)V"⟩, 41) := ⟨⟨by decide +kernel, by decide +kernel⟩, List.mem_of_getElem? (i := 662) (by decide +kernel), List.mem_of_getElem? (i := 887) (by decide +kernel), List.mem_of_getElem? (i := 888) (by decide +kernel)⟩
theorem lw_p31 : lw_okq (⟨"ConfigTextsModel", "fail", "(II)V"⟩, 41) := ⟨⟨by decide +kernel, by decide +kernel⟩, List.mem_of_getElem? (i := 662) (by decide +kernel), List.mem_of_getElem? (i := 891) (by decide +kernel), List.mem_of_getElem? (i := 892) (by decide +kernel)⟩
def lw_privs_2 : List (MethodName × Nat) := [(⟨"ConfigTexts$Reader", "readEnd", "(Ljava/lang/String;II)I"⟩, 4), (⟨"ConfigTexts$Reader", "readPartitionName", "()I"⟩, 4), (⟨"ConfigTexts$Reader", "readGoals", "(I)V"⟩, 4), (⟨"ConfigTexts$Reader", "readWindow", "()V"⟩, 4), (⟨"ConfigTextsModel", "forget", "()V"⟩, 41), (⟨"ConfigTextsModel", "next", "()V"⟩, 41), (⟨"ConfigTextsModel", "see", "(I)I"⟩, 41), (⟨"ConfigTextsModel", "readName", "()V"⟩, 41), (⟨"ConfigTextsModel", "wordOf", "(J)I"⟩, 41), (⟨"ConfigTextsModel", "readNumber", "()V"⟩, 41), (⟨"ConfigTextsModel", "readPartition", "()V"⟩, 41), (⟨"ConfigTextsModel", "need", "(I)V"⟩, 41), (⟨"ConfigTextsModel", "isWord", "(I)Z"⟩, 41), (⟨"ConfigTextsModel", "good", "()Z"⟩, 41), (⟨"ConfigTextsModel", "bad", "(I)V"⟩, 41), (⟨"ConfigTextsModel", "fail", "(II)V"⟩, 41)]
theorem lw_r2 : ∀ q ∈ lw_privs_2, lw_okq q := List.forall_mem_cons.mpr ⟨lw_p16, List.forall_mem_cons.mpr ⟨lw_p17, List.forall_mem_cons.mpr ⟨lw_p18, List.forall_mem_cons.mpr ⟨lw_p19, List.forall_mem_cons.mpr ⟨lw_p20, List.forall_mem_cons.mpr ⟨lw_p21, List.forall_mem_cons.mpr ⟨lw_p22, List.forall_mem_cons.mpr ⟨lw_p23, List.forall_mem_cons.mpr ⟨lw_p24, List.forall_mem_cons.mpr ⟨lw_p25, List.forall_mem_cons.mpr ⟨lw_p26, List.forall_mem_cons.mpr ⟨lw_p27, List.forall_mem_cons.mpr ⟨lw_p28, List.forall_mem_cons.mpr ⟨lw_p29, List.forall_mem_cons.mpr ⟨lw_p30, List.forall_mem_cons.mpr ⟨lw_p31, fun _ h => absurd h List.not_mem_nil⟩⟩⟩⟩⟩⟩⟩⟩⟩⟩⟩⟩⟩⟩⟩⟩
theorem lw_p32 : lw_okq (⟨"ConfigTextsModel", "partitionOf", "(J)I"⟩, 41) := ⟨⟨by decide +kernel, by decide +kernel⟩, List.mem_of_getElem? (i := 662) (by decide +kernel), List.mem_of_getElem? (i := 895) (by decide +kernel), List.mem_of_getElem? (i := 896) (by decide +kernel)⟩
theorem lw_p33 : lw_okq (⟨"ConfigTextsModel", "clear", "(I)V"⟩, 41) := ⟨⟨by decide +kernel, by decide +kernel⟩, List.mem_of_getElem? (i := 662) (by decide +kernel), List.mem_of_getElem? (i := 899) (by decide +kernel), List.mem_of_getElem? (i := 900) (by decide +kernel)⟩
theorem lw_p34 : lw_okq (⟨"ConfigTextsModel", "sign", "(I)V"⟩, 41) := ⟨⟨by decide +kernel, by decide +kernel⟩, List.mem_of_getElem? (i := 662) (by decide +kernel), List.mem_of_getElem? (i := 903) (by decide +kernel), List.mem_of_getElem? (i := 904) (by decide +kernel)⟩
theorem lw_p35 : lw_okq (⟨"ConfigTextsModel", "isSign", "(I)Z"⟩, 41) := ⟨⟨by decide +kernel, by decide +kernel⟩, List.mem_of_getElem? (i := 662) (by decide +kernel), List.mem_of_getElem? (i := 907) (by decide +kernel), List.mem_of_getElem? (i := 908) (by decide +kernel)⟩
theorem lw_p36 : lw_okq (⟨"ConfigTextsModel", "part", "(IIII)I"⟩, 41) := ⟨⟨by decide +kernel, by decide +kernel⟩, List.mem_of_getElem? (i := 662) (by decide +kernel), List.mem_of_getElem? (i := 911) (by decide +kernel), List.mem_of_getElem? (i := 912) (by decide +kernel)⟩
theorem lw_p37 : lw_okq (⟨"ConfigTextsModel", "number", "(III)I"⟩, 41) := ⟨⟨by decide +kernel, by decide +kernel⟩, List.mem_of_getElem? (i := 662) (by decide +kernel), List.mem_of_getElem? (i := 915) (by decide +kernel), List.mem_of_getElem? (i := 916) (by decide +kernel)⟩
theorem lw_p38 : lw_okq (⟨"ConfigTextsModel", "thingOf", "(I)V"⟩, 41) := ⟨⟨by decide +kernel, by decide +kernel⟩, List.mem_of_getElem? (i := 662) (by decide +kernel), List.mem_of_getElem? (i := 919) (by decide +kernel), List.mem_of_getElem? (i := 920) (by decide +kernel)⟩
theorem lw_p39 : lw_okq (⟨"ConfigTextsModel", "readProcess", "(I)V"⟩, 41) := ⟨⟨by decide +kernel, by decide +kernel⟩, List.mem_of_getElem? (i := 662) (by decide +kernel), List.mem_of_getElem? (i := 923) (by decide +kernel), List.mem_of_getElem? (i := 924) (by decide +kernel)⟩
theorem lw_p40 : lw_okq (⟨"ConfigTextsModel", "newThing", "(II)I"⟩, 41) := ⟨⟨by decide +kernel, by decide +kernel⟩, List.mem_of_getElem? (i := 662) (by decide +kernel), List.mem_of_getElem? (i := 927) (by decide +kernel), List.mem_of_getElem? (i := 928) (by decide +kernel)⟩
theorem lw_p41 : lw_okq (⟨"ConfigTextsModel", "find", "(IJ)I"⟩, 41) := ⟨⟨by decide +kernel, by decide +kernel⟩, List.mem_of_getElem? (i := 662) (by decide +kernel), List.mem_of_getElem? (i := 934) (by decide +kernel), List.mem_of_getElem? (i := 935) (by decide +kernel)⟩
theorem lw_p42 : lw_okq (⟨"ConfigTextsModel", "accept", "(I)Z"⟩, 41) := ⟨⟨by decide +kernel, by decide +kernel⟩, List.mem_of_getElem? (i := 662) (by decide +kernel), List.mem_of_getElem? (i := 939) (by decide +kernel), List.mem_of_getElem? (i := 940) (by decide +kernel)⟩
theorem lw_p43 : lw_okq (⟨"ConfigTextsModel", "semaphore", "(I)V"⟩, 41) := ⟨⟨by decide +kernel, by decide +kernel⟩, List.mem_of_getElem? (i := 662) (by decide +kernel), List.mem_of_getElem? (i := 943) (by decide +kernel), List.mem_of_getElem? (i := 944) (by decide +kernel)⟩
theorem lw_p44 : lw_okq (⟨"ConfigTextsModel", "plain", "(II)V"⟩, 41) := ⟨⟨by decide +kernel, by decide +kernel⟩, List.mem_of_getElem? (i := 662) (by decide +kernel), List.mem_of_getElem? (i := 947) (by decide +kernel), List.mem_of_getElem? (i := 948) (by decide +kernel)⟩
theorem lw_p45 : lw_okq (⟨"ConfigTextsModel", "buffer", "(I)V"⟩, 41) := ⟨⟨by decide +kernel, by decide +kernel⟩, List.mem_of_getElem? (i := 662) (by decide +kernel), List.mem_of_getElem? (i := 951) (by decide +kernel), List.mem_of_getElem? (i := 952) (by decide +kernel)⟩
theorem lw_p46 : lw_okq (⟨"ConfigTextsModel", "port", "(I)V"⟩, 41) := ⟨⟨by decide +kernel, by decide +kernel⟩, List.mem_of_getElem? (i := 662) (by decide +kernel), List.mem_of_getElem? (i := 955) (by decide +kernel), List.mem_of_getElem? (i := 956) (by decide +kernel)⟩
theorem lw_p47 : lw_okq (⟨"ConfigTextsModel", "readErrors", "(I)V"⟩, 41) := ⟨⟨by decide +kernel, by decide +kernel⟩, List.mem_of_getElem? (i := 662) (by decide +kernel), List.mem_of_getElem? (i := 959) (by decide +kernel), List.mem_of_getElem? (i := 960) (by decide +kernel)⟩
def lw_privs_3 : List (MethodName × Nat) := [(⟨"ConfigTextsModel", "partitionOf", "(J)I"⟩, 41), (⟨"ConfigTextsModel", "clear", "(I)V"⟩, 41), (⟨"ConfigTextsModel", "sign", "(I)V"⟩, 41), (⟨"ConfigTextsModel", "isSign", "(I)Z"⟩, 41), (⟨"ConfigTextsModel", "part", "(IIII)I"⟩, 41), (⟨"ConfigTextsModel", "number", "(III)I"⟩, 41), (⟨"ConfigTextsModel", "thingOf", "(I)V"⟩, 41), (⟨"ConfigTextsModel", "readProcess", "(I)V"⟩, 41), (⟨"ConfigTextsModel", "newThing", "(II)I"⟩, 41), (⟨"ConfigTextsModel", "find", "(IJ)I"⟩, 41), (⟨"ConfigTextsModel", "accept", "(I)Z"⟩, 41), (⟨"ConfigTextsModel", "semaphore", "(I)V"⟩, 41), (⟨"ConfigTextsModel", "plain", "(II)V"⟩, 41), (⟨"ConfigTextsModel", "buffer", "(I)V"⟩, 41), (⟨"ConfigTextsModel", "port", "(I)V"⟩, 41), (⟨"ConfigTextsModel", "readErrors", "(I)V"⟩, 41)]
theorem lw_r3 : ∀ q ∈ lw_privs_3, lw_okq q := List.forall_mem_cons.mpr ⟨lw_p32, List.forall_mem_cons.mpr ⟨lw_p33, List.forall_mem_cons.mpr ⟨lw_p34, List.forall_mem_cons.mpr ⟨lw_p35, List.forall_mem_cons.mpr ⟨lw_p36, List.forall_mem_cons.mpr ⟨lw_p37, List.forall_mem_cons.mpr ⟨lw_p38, List.forall_mem_cons.mpr ⟨lw_p39, List.forall_mem_cons.mpr ⟨lw_p40, List.forall_mem_cons.mpr ⟨lw_p41, List.forall_mem_cons.mpr ⟨lw_p42, List.forall_mem_cons.mpr ⟨lw_p43, List.forall_mem_cons.mpr ⟨lw_p44, List.forall_mem_cons.mpr ⟨lw_p45, List.forall_mem_cons.mpr ⟨lw_p46, List.forall_mem_cons.mpr ⟨lw_p47, fun _ h => absurd h List.not_mem_nil⟩⟩⟩⟩⟩⟩⟩⟩⟩⟩⟩⟩⟩⟩⟩⟩
theorem lw_p48 : lw_okq (⟨"ConfigTextsModel", "readError", "(I)V"⟩, 41) := ⟨⟨by decide +kernel, by decide +kernel⟩, List.mem_of_getElem? (i := 662) (by decide +kernel), List.mem_of_getElem? (i := 963) (by decide +kernel), List.mem_of_getElem? (i := 964) (by decide +kernel)⟩
theorem lw_p49 : lw_okq (⟨"ConfigTextsModel", "kindHere", "()I"⟩, 41) := ⟨⟨by decide +kernel, by decide +kernel⟩, List.mem_of_getElem? (i := 662) (by decide +kernel), List.mem_of_getElem? (i := 967) (by decide +kernel), List.mem_of_getElem? (i := 968) (by decide +kernel)⟩
theorem lw_p50 : lw_okq (⟨"ConfigTextsModel", "actionHere", "()I"⟩, 41) := ⟨⟨by decide +kernel, by decide +kernel⟩, List.mem_of_getElem? (i := 662) (by decide +kernel), List.mem_of_getElem? (i := 971) (by decide +kernel), List.mem_of_getElem? (i := 972) (by decide +kernel)⟩
theorem lw_p51 : lw_okq (⟨"ConfigTextsModel", "readChannel", "()V"⟩, 41) := ⟨⟨by decide +kernel, by decide +kernel⟩, List.mem_of_getElem? (i := 662) (by decide +kernel), List.mem_of_getElem? (i := 975) (by decide +kernel), List.mem_of_getElem? (i := 976) (by decide +kernel)⟩
theorem lw_p52 : lw_okq (⟨"ConfigTextsModel", "readEnd", "(II)I"⟩, 41) := ⟨⟨by decide +kernel, by decide +kernel⟩, List.mem_of_getElem? (i := 662) (by decide +kernel), List.mem_of_getElem? (i := 979) (by decide +kernel), List.mem_of_getElem? (i := 980) (by decide +kernel)⟩
theorem lw_p53 : lw_okq (⟨"ConfigTextsModel", "frame", "()V"⟩, 41) := ⟨⟨by decide +kernel, by decide +kernel⟩, List.mem_of_getElem? (i := 662) (by decide +kernel), List.mem_of_getElem? (i := 983) (by decide +kernel), List.mem_of_getElem? (i := 984) (by decide +kernel)⟩
theorem lw_p54 : lw_okq (⟨"ConfigTextsModel", "readWindow", "()V"⟩, 41) := ⟨⟨by decide +kernel, by decide +kernel⟩, List.mem_of_getElem? (i := 662) (by decide +kernel), List.mem_of_getElem? (i := 987) (by decide +kernel), List.mem_of_getElem? (i := 988) (by decide +kernel)⟩
theorem lw_p55 : lw_okq (⟨"ConfigTextsModel", "valueOf", "(IIIII)I"⟩, 41) := ⟨⟨by decide +kernel, by decide +kernel⟩, List.mem_of_getElem? (i := 662) (by decide +kernel), List.mem_of_getElem? (i := 1007) (by decide +kernel), List.mem_of_getElem? (i := 1008) (by decide +kernel)⟩
def lw_privs_4 : List (MethodName × Nat) := [(⟨"ConfigTextsModel", "readError", "(I)V"⟩, 41), (⟨"ConfigTextsModel", "kindHere", "()I"⟩, 41), (⟨"ConfigTextsModel", "actionHere", "()I"⟩, 41), (⟨"ConfigTextsModel", "readChannel", "()V"⟩, 41), (⟨"ConfigTextsModel", "readEnd", "(II)I"⟩, 41), (⟨"ConfigTextsModel", "frame", "()V"⟩, 41), (⟨"ConfigTextsModel", "readWindow", "()V"⟩, 41), (⟨"ConfigTextsModel", "valueOf", "(IIIII)I"⟩, 41)]
theorem lw_r4 : ∀ q ∈ lw_privs_4, lw_okq q := List.forall_mem_cons.mpr ⟨lw_p48, List.forall_mem_cons.mpr ⟨lw_p49, List.forall_mem_cons.mpr ⟨lw_p50, List.forall_mem_cons.mpr ⟨lw_p51, List.forall_mem_cons.mpr ⟨lw_p52, List.forall_mem_cons.mpr ⟨lw_p53, List.forall_mem_cons.mpr ⟨lw_p54, List.forall_mem_cons.mpr ⟨lw_p55, fun _ h => absurd h List.not_mem_nil⟩⟩⟩⟩⟩⟩⟩⟩
def lw_privs : List (MethodName × Nat) := lw_privs_1 ++ (lw_privs_2 ++ (lw_privs_3 ++ (lw_privs_4)))
def lw_tbl : List Cond := k2_sels lw_privs ++ tables_1
theorem lw_privs_ok : ∀ q ∈ lw_privs, lw_okq q := by
  show ∀ q ∈ lw_privs_1 ++ (lw_privs_2 ++ (lw_privs_3 ++ (lw_privs_4))), lw_okq q
  exact List.forall_mem_append.mpr ⟨lw_r1, List.forall_mem_append.mpr ⟨lw_r2, List.forall_mem_append.mpr ⟨lw_r3, lw_r4⟩⟩⟩
-- ===== end of PART A; then your names; then what follows =====
end
section
/-! names: classes, their fields, methods; one list of words for every method: xT -/
def R_CF : String := "ConfigTexts$Configuration"
def F_CF : u_T := fun k => match k with
  | 0 => ("ConfigTexts$Configuration", "partitions", "[LConfigTexts$Partition;", true)
  | 1 => ("ConfigTexts$Configuration", "partitionCount", "I", false)
  | 2 => ("ConfigTexts$Configuration", "channels", "LConfigTexts$Rows;", true)
  | 3 => ("ConfigTexts$Configuration", "windows", "LConfigTexts$Rows;", true)
  | 4 => ("ConfigTexts$Configuration", "fromInput", "I", false)
  | 5 => ("ConfigTexts$Configuration", "toOutput", "I", false)
  | _ => ("ConfigTexts$Configuration", "ticks", "I", false)
def t_CF : Nat → FieldType := fun k => match k with
  | 0 => .array (.object "ConfigTexts$Partition")
  | 1 => .int
  | 2 => .object "ConfigTexts$Rows"
  | 3 => .object "ConfigTexts$Rows"
  | 4 => .int
  | 5 => .int
  | _ => .int
theorem n_CF : ∀ a, a < 7 → ∀ b, b < 7 → a ≠ b → (F_CF a).2.1 ≠ (F_CF b).2.1 := by decide +kernel
theorem t_CF_ok : ∀ k, k < 7 → parseFieldDescriptor (F_CF k).2.2.1 = some (t_CF k) := by decide +kernel
def R_PA : String := "ConfigTexts$Partition"
def F_PA : u_T := fun k => match k with
  | 0 => ("ConfigTexts$Partition", "name", "J", false)
  | 1 => ("ConfigTexts$Partition", "memory", "I", false)
  | 2 => ("ConfigTexts$Partition", "handler", "I", false)
  | 3 => ("ConfigTexts$Partition", "actions", "[I", true)
  | _ => ("ConfigTexts$Partition", "things", "[LConfigTexts$Rows;", true)
def t_PA : Nat → FieldType := fun k => match k with
  | 0 => .long
  | 1 => .int
  | 2 => .int
  | 3 => .array .int
  | _ => .array (.object "ConfigTexts$Rows")
theorem n_PA : ∀ a, a < 5 → ∀ b, b < 5 → a ≠ b → (F_PA a).2.1 ≠ (F_PA b).2.1 := by decide +kernel
theorem t_PA_ok : ∀ k, k < 5 → parseFieldDescriptor (F_PA k).2.2.1 = some (t_PA k) := by decide +kernel
def R_RD : String := "ConfigTexts$Reader"
def F_RD : u_T := fun k => match k with
  | 0 => ("ConfigTexts$Reader", "words", "LConfigTexts$Words;", true)
  | 1 => ("ConfigTexts$Reader", "configuration", "LConfigTexts$Configuration;", true)
  | 2 => ("ConfigTexts$Reader", "errorsTold", "Z", false)
  | _ => ("ConfigTexts$Reader", "firstHandle", "I", false)
def t_RD : Nat → FieldType := fun k => match k with
  | 0 => .object "ConfigTexts$Words"
  | 1 => .object "ConfigTexts$Configuration"
  | 2 => .boolean
  | _ => .int
theorem n_RD : ∀ a, a < 4 → ∀ b, b < 4 → a ≠ b → (F_RD a).2.1 ≠ (F_RD b).2.1 := by decide +kernel
theorem t_RD_ok : ∀ k, k < 4 → parseFieldDescriptor (F_RD k).2.2.1 = some (t_RD k) := by decide +kernel
def R_RO : String := "ConfigTexts$Rows"
def F_RO : u_T := fun k => match k with
  | 0 => ("ConfigTexts$Rows", "most", "I", true)
  | 1 => ("ConfigTexts$Rows", "width", "I", true)
  | 2 => ("ConfigTexts$Rows", "names", "[J", true)
  | 3 => ("ConfigTexts$Rows", "numbers", "[I", true)
  | _ => ("ConfigTexts$Rows", "count", "I", false)
def t_RO : Nat → FieldType := fun k => match k with
  | 0 => .int
  | 1 => .int
  | 2 => .array .long
  | 3 => .array .int
  | _ => .int
theorem n_RO : ∀ a, a < 5 → ∀ b, b < 5 → a ≠ b → (F_RO a).2.1 ≠ (F_RO b).2.1 := by decide +kernel
theorem t_RO_ok : ∀ k, k < 5 → parseFieldDescriptor (F_RO k).2.2.1 = some (t_RO k) := by decide +kernel
def R_WO : String := "ConfigTexts$Words"
def F_WO : u_T := fun k => match k with
  | 0 => ("ConfigTexts$Words", "text", "[B", true)
  | 1 => ("ConfigTexts$Words", "end", "I", false)
  | 2 => ("ConfigTexts$Words", "from", "I", false)
  | 3 => ("ConfigTexts$Words", "to", "I", false)
  | 4 => ("ConfigTexts$Words", "kind", "I", false)
  | 5 => ("ConfigTexts$Words", "number", "I", false)
  | 6 => ("ConfigTexts$Words", "name", "J", false)
  | 7 => ("ConfigTexts$Words", "fault", "I", false)
  | _ => ("ConfigTexts$Words", "faultPlace", "I", false)
def t_WO : Nat → FieldType := fun k => match k with
  | 0 => .array .byte
  | 1 => .int
  | 2 => .int
  | 3 => .int
  | 4 => .int
  | 5 => .int
  | 6 => .long
  | 7 => .int
  | _ => .int
theorem n_WO : ∀ a, a < 9 → ∀ b, b < 9 → a ≠ b → (F_WO a).2.1 ≠ (F_WO b).2.1 := by decide +kernel
theorem t_WO_ok : ∀ k, k < 9 → parseFieldDescriptor (F_WO k).2.2.1 = some (t_WO k) := by decide +kernel
def R_CT : String := "ConfigTexts"
def F_CT : u_T := fun k => match k with
  | 0 => ("ConfigTexts", "text", "[B", true)
  | 1 => ("ConfigTexts", "length", "I", false)
  | 2 => ("ConfigTexts", "words", "LConfigTexts$Words;", true)
  | 3 => ("ConfigTexts", "configuration", "LConfigTexts$Configuration;", true)
  | 4 => ("ConfigTexts", "reader", "LConfigTexts$Reader;", true)
  | _ => ("ConfigTexts", "loaded", "Z", false)
def t_CT : Nat → FieldType := fun k => match k with
  | 0 => .array .byte
  | 1 => .int
  | 2 => .object "ConfigTexts$Words"
  | 3 => .object "ConfigTexts$Configuration"
  | 4 => .object "ConfigTexts$Reader"
  | _ => .boolean
theorem n_CT : ∀ a, a < 6 → ∀ b, b < 6 → a ≠ b → (F_CT a).2.1 ≠ (F_CT b).2.1 := by decide +kernel
theorem t_CT_ok : ∀ k, k < 6 → parseFieldDescriptor (F_CT k).2.2.1 = some (t_CT k) := by decide +kernel
def R_MO : String := "ConfigTextsModel"
def F_MO : u_T := fun k => match k with
  | 0 => ("ConfigTextsModel", "thrown", "I", false)
  | 1 => ("ConfigTextsModel", "words", "[J", true)
  | 2 => ("ConfigTextsModel", "kinds", "[J", true)
  | 3 => ("ConfigTextsModel", "actions", "[J", true)
  | 4 => ("ConfigTextsModel", "text", "[B", true)
  | 5 => ("ConfigTextsModel", "size", "I", false)
  | 6 => ("ConfigTextsModel", "from", "I", false)
  | 7 => ("ConfigTextsModel", "to", "I", false)
  | 8 => ("ConfigTextsModel", "token", "I", false)
  | 9 => ("ConfigTextsModel", "word", "I", false)
  | 10 => ("ConfigTextsModel", "value", "J", false)
  | 11 => ("ConfigTextsModel", "fault", "I", false)
  | 12 => ("ConfigTextsModel", "place", "I", false)
  | 13 => ("ConfigTextsModel", "toldFault", "I", false)
  | 14 => ("ConfigTextsModel", "toldPlace", "I", false)
  | 15 => ("ConfigTextsModel", "partitions", "I", false)
  | 16 => ("ConfigTextsModel", "names", "[J", true)
  | 17 => ("ConfigTextsModel", "memory", "[I", true)
  | 18 => ("ConfigTextsModel", "handler", "[I", true)
  | 19 => ("ConfigTextsModel", "handleAt", "[I", true)
  | 20 => ("ConfigTextsModel", "acted", "[I", true)
  | 21 => ("ConfigTextsModel", "counts", "[I", true)
  | 22 => ("ConfigTextsModel", "hasErrors", "[Z", true)
  | 23 => ("ConfigTextsModel", "told", "[Z", true)
  | 24 => ("ConfigTextsModel", "things", "[I", true)
  | 25 => ("ConfigTextsModel", "sort", "[I", true)
  | 26 => ("ConfigTextsModel", "index", "[I", true)
  | 27 => ("ConfigTextsModel", "values", "[I", true)
  | 28 => ("ConfigTextsModel", "thingName", "[J", true)
  | 29 => ("ConfigTextsModel", "channels", "I", false)
  | 30 => ("ConfigTextsModel", "windows", "I", false)
  | 31 => ("ConfigTextsModel", "ticks", "I", false)
  | 32 => ("ConfigTextsModel", "inputs", "I", false)
  | 33 => ("ConfigTextsModel", "outputs", "I", false)
  | 34 => ("ConfigTextsModel", "queuing", "[I", true)
  | 35 => ("ConfigTextsModel", "limit", "[I", true)
  | 36 => ("ConfigTextsModel", "source", "[I", true)
  | 37 => ("ConfigTextsModel", "goals", "[I", true)
  | 38 => ("ConfigTextsModel", "goal", "[I", true)
  | 39 => ("ConfigTextsModel", "windowOf", "[I", true)
  | _ => ("ConfigTextsModel", "windowTicks", "[I", true)
def t_MO : Nat → FieldType := fun k => match k with
  | 0 => .int
  | 1 => .array .long
  | 2 => .array .long
  | 3 => .array .long
  | 4 => .array .byte
  | 5 => .int
  | 6 => .int
  | 7 => .int
  | 8 => .int
  | 9 => .int
  | 10 => .long
  | 11 => .int
  | 12 => .int
  | 13 => .int
  | 14 => .int
  | 15 => .int
  | 16 => .array .long
  | 17 => .array .int
  | 18 => .array .int
  | 19 => .array .int
  | 20 => .array .int
  | 21 => .array .int
  | 22 => .array .boolean
  | 23 => .array .boolean
  | 24 => .array .int
  | 25 => .array .int
  | 26 => .array .int
  | 27 => .array .int
  | 28 => .array .long
  | 29 => .int
  | 30 => .int
  | 31 => .int
  | 32 => .int
  | 33 => .int
  | 34 => .array .int
  | 35 => .array .int
  | 36 => .array .int
  | 37 => .array .int
  | 38 => .array .int
  | 39 => .array .int
  | _ => .array .int
theorem n_MO : ∀ a, a < 41 → ∀ b, b < 41 → a ≠ b → (F_MO a).2.1 ≠ (F_MO b).2.1 := by decide +kernel
theorem t_MO_ok : ∀ k, k < 41 → parseFieldDescriptor (F_MO k).2.2.1 = some (t_MO k) := by decide +kernel
def R_LA : String := "ConfigTextsLaw"
abbrev xcl : List vw_C := [(R_CF, F_CF, 7), (R_PA, F_PA, 5), (R_RD, F_RD, 4), (R_RO, F_RO, 5), (R_WO, F_WO, 9), (R_CT, F_CT, 6), (R_MO, F_MO, 41)]
/-- the words that stay true, all of them -/
def xT : List Cond := lw_tbl.filter goodWord
theorem xT_good : GoodIn xT xT := fun w hw => ⟨hw, good_of_word (List.mem_filter.mp hw).2⟩
theorem xT_of {w : Cond} (i : Nat) (h : tables_1[i]? = some w) (g : goodWord w = true) : w ∈ xT := List.mem_filter.mpr ⟨List.mem_append_right _ (List.mem_of_getElem? h), g⟩
theorem xT_ofp {w : Cond} (i : Nat) (h : (k2_sels lw_privs)[i]? = some w) (g : goodWord w = true) : w ∈ xT := List.mem_filter.mpr ⟨List.mem_append_left _ (List.mem_of_getElem? h), g⟩
set_option maxRecDepth 100000 in
theorem i_CF : ∀ w ∈ u_ws R_CF F_CF 7, w ∈ xT := by decide +kernel
set_option maxRecDepth 100000 in
theorem i_PA : ∀ w ∈ u_ws R_PA F_PA 5, w ∈ xT := by decide +kernel
set_option maxRecDepth 100000 in
theorem i_RD : ∀ w ∈ u_ws R_RD F_RD 4, w ∈ xT := by decide +kernel
set_option maxRecDepth 100000 in
theorem i_RO : ∀ w ∈ u_ws R_RO F_RO 5, w ∈ xT := by decide +kernel
set_option maxRecDepth 100000 in
theorem i_WO : ∀ w ∈ u_ws R_WO F_WO 9, w ∈ xT := by decide +kernel
set_option maxRecDepth 100000 in
theorem i_CT : ∀ w ∈ u_ws R_CT F_CT 6, w ∈ xT := by decide +kernel
set_option maxRecDepth 100000 in
theorem i_MO : ∀ w ∈ u_ws R_MO F_MO 41, w ∈ xT := by decide +kernel
abbrev b_CT_init : ByteArray := prog_1_method_1_code
def y_CT_init : MethodName := ⟨"ConfigTexts", "<init>", "()V"⟩
abbrev b_CT_put : ByteArray := prog_1_method_2_code
def y_CT_put : MethodName := ⟨"ConfigTexts", "put", "(JI)Z"⟩
abbrev b_CT_load : ByteArray := prog_1_method_3_code
def y_CT_load : MethodName := ⟨"ConfigTexts", "load", "()I"⟩
abbrev b_CT_fault : ByteArray := prog_1_method_4_code
def y_CT_fault : MethodName := ⟨"ConfigTexts", "fault", "(I)I"⟩
abbrev b_CT_size : ByteArray := prog_1_method_5_code
def y_CT_size : MethodName := ⟨"ConfigTexts", "size", "(I)I"⟩
abbrev b_CT_partition : ByteArray := prog_1_method_6_code
def y_CT_partition : MethodName := ⟨"ConfigTexts", "partition", "(II)I"⟩
abbrev b_CT_process : ByteArray := prog_1_method_7_code
def y_CT_process : MethodName := ⟨"ConfigTexts", "process", "(III)I"⟩
abbrev b_CT_thing : ByteArray := prog_1_method_8_code
def y_CT_thing : MethodName := ⟨"ConfigTexts", "thing", "(IIII)I"⟩
abbrev b_CT_channel : ByteArray := prog_1_method_9_code
def y_CT_channel : MethodName := ⟨"ConfigTexts", "channel", "(II)I"⟩
abbrev b_CT_window : ByteArray := prog_1_method_10_code
def y_CT_window : MethodName := ⟨"ConfigTexts", "window", "(II)I"⟩
abbrev b_CT_partitionAt : ByteArray := prog_1_method_11_code
def y_CT_partitionAt : MethodName := ⟨"ConfigTexts", "partitionAt", "(I)LConfigTexts$Partition;"⟩
abbrev b_CT_numberOf : ByteArray := prog_1_method_12_code
def y_CT_numberOf : MethodName := ⟨"ConfigTexts", "numberOf", "(IIII)I"⟩
abbrev b_MO_init : ByteArray := prog_8_method_1_code
def y_MO_init : MethodName := ⟨"ConfigTextsModel", "<init>", "()V"⟩
abbrev b_MO_thrown : ByteArray := prog_8_method_2_code
def y_MO_thrown : MethodName := ⟨"ConfigTextsModel", "thrown", "()I"⟩
abbrev b_MO_put : ByteArray := prog_8_method_3_code
def y_MO_put : MethodName := ⟨"ConfigTextsModel", "put", "(JI)Z"⟩
abbrev b_MO_fail : ByteArray := prog_8_method_4_code
def y_MO_fail : MethodName := ⟨"ConfigTextsModel", "fail", "(II)V"⟩
abbrev b_MO_good : ByteArray := prog_8_method_5_code
def y_MO_good : MethodName := ⟨"ConfigTextsModel", "good", "()Z"⟩
abbrev b_MO_see : ByteArray := prog_8_method_6_code
def y_MO_see : MethodName := ⟨"ConfigTextsModel", "see", "(I)I"⟩
abbrev b_MO_isLetter : ByteArray := prog_8_method_7_code
def y_MO_isLetter : MethodName := ⟨"ConfigTextsModel", "isLetter", "(I)Z"⟩
abbrev b_MO_isDigit : ByteArray := prog_8_method_8_code
def y_MO_isDigit : MethodName := ⟨"ConfigTextsModel", "isDigit", "(I)Z"⟩
abbrev b_MO_wordOf : ByteArray := prog_8_method_9_code
def y_MO_wordOf : MethodName := ⟨"ConfigTextsModel", "wordOf", "(J)I"⟩
abbrev b_MO_readName : ByteArray := prog_8_method_10_code
def y_MO_readName : MethodName := ⟨"ConfigTextsModel", "readName", "()V"⟩
abbrev b_MO_readNumber : ByteArray := prog_8_method_11_code
def y_MO_readNumber : MethodName := ⟨"ConfigTextsModel", "readNumber", "()V"⟩
abbrev b_MO_next : ByteArray := prog_8_method_12_code
def y_MO_next : MethodName := ⟨"ConfigTextsModel", "next", "()V"⟩
abbrev b_MO_bad : ByteArray := prog_8_method_13_code
def y_MO_bad : MethodName := ⟨"ConfigTextsModel", "bad", "(I)V"⟩
abbrev b_MO_isSign : ByteArray := prog_8_method_14_code
def y_MO_isSign : MethodName := ⟨"ConfigTextsModel", "isSign", "(I)Z"⟩
abbrev b_MO_isWord : ByteArray := prog_8_method_15_code
def y_MO_isWord : MethodName := ⟨"ConfigTextsModel", "isWord", "(I)Z"⟩
abbrev b_MO_sign : ByteArray := prog_8_method_16_code
def y_MO_sign : MethodName := ⟨"ConfigTextsModel", "sign", "(I)V"⟩
abbrev b_MO_need : ByteArray := prog_8_method_17_code
def y_MO_need : MethodName := ⟨"ConfigTextsModel", "need", "(I)V"⟩
abbrev b_MO_accept : ByteArray := prog_8_method_18_code
def y_MO_accept : MethodName := ⟨"ConfigTextsModel", "accept", "(I)Z"⟩
abbrev b_MO_number : ByteArray := prog_8_method_19_code
def y_MO_number : MethodName := ⟨"ConfigTextsModel", "number", "(III)I"⟩
abbrev b_MO_part : ByteArray := prog_8_method_20_code
def y_MO_part : MethodName := ⟨"ConfigTextsModel", "part", "(IIII)I"⟩
abbrev b_MO_partitionOf : ByteArray := prog_8_method_21_code
def y_MO_partitionOf : MethodName := ⟨"ConfigTextsModel", "partitionOf", "(J)I"⟩
abbrev b_MO_find : ByteArray := prog_8_method_22_code
def y_MO_find : MethodName := ⟨"ConfigTextsModel", "find", "(IJ)I"⟩
abbrev b_MO_most : ByteArray := prog_8_method_23_code
def y_MO_most : MethodName := ⟨"ConfigTextsModel", "most", "(I)I"⟩
abbrev b_MO_newThing : ByteArray := prog_8_method_24_code
def y_MO_newThing : MethodName := ⟨"ConfigTextsModel", "newThing", "(II)I"⟩
abbrev b_MO_readProcess : ByteArray := prog_8_method_25_code
def y_MO_readProcess : MethodName := ⟨"ConfigTextsModel", "readProcess", "(I)V"⟩
abbrev b_MO_semaphore : ByteArray := prog_8_method_26_code
def y_MO_semaphore : MethodName := ⟨"ConfigTextsModel", "semaphore", "(I)V"⟩
abbrev b_MO_buffer : ByteArray := prog_8_method_27_code
def y_MO_buffer : MethodName := ⟨"ConfigTextsModel", "buffer", "(I)V"⟩
abbrev b_MO_plain : ByteArray := prog_8_method_28_code
def y_MO_plain : MethodName := ⟨"ConfigTextsModel", "plain", "(II)V"⟩
abbrev b_MO_port : ByteArray := prog_8_method_29_code
def y_MO_port : MethodName := ⟨"ConfigTextsModel", "port", "(I)V"⟩
abbrev b_MO_kindHere : ByteArray := prog_8_method_30_code
def y_MO_kindHere : MethodName := ⟨"ConfigTextsModel", "kindHere", "()I"⟩
abbrev b_MO_actionHere : ByteArray := prog_8_method_31_code
def y_MO_actionHere : MethodName := ⟨"ConfigTextsModel", "actionHere", "()I"⟩
abbrev b_MO_readError : ByteArray := prog_8_method_32_code
def y_MO_readError : MethodName := ⟨"ConfigTextsModel", "readError", "(I)V"⟩
abbrev b_MO_readErrors : ByteArray := prog_8_method_33_code
def y_MO_readErrors : MethodName := ⟨"ConfigTextsModel", "readErrors", "(I)V"⟩
abbrev b_MO_thingOf : ByteArray := prog_8_method_34_code
def y_MO_thingOf : MethodName := ⟨"ConfigTextsModel", "thingOf", "(I)V"⟩
abbrev b_MO_clear : ByteArray := prog_8_method_35_code
def y_MO_clear : MethodName := ⟨"ConfigTextsModel", "clear", "(I)V"⟩
abbrev b_MO_readPartition : ByteArray := prog_8_method_36_code
def y_MO_readPartition : MethodName := ⟨"ConfigTextsModel", "readPartition", "()V"⟩
abbrev b_MO_readEnd : ByteArray := prog_8_method_37_code
def y_MO_readEnd : MethodName := ⟨"ConfigTextsModel", "readEnd", "(II)I"⟩
abbrev b_MO_readChannel : ByteArray := prog_8_method_38_code
def y_MO_readChannel : MethodName := ⟨"ConfigTextsModel", "readChannel", "()V"⟩
abbrev b_MO_readWindow : ByteArray := prog_8_method_39_code
def y_MO_readWindow : MethodName := ⟨"ConfigTextsModel", "readWindow", "()V"⟩
abbrev b_MO_frame : ByteArray := prog_8_method_40_code
def y_MO_frame : MethodName := ⟨"ConfigTextsModel", "frame", "()V"⟩
abbrev b_MO_forget : ByteArray := prog_8_method_41_code
def y_MO_forget : MethodName := ⟨"ConfigTextsModel", "forget", "()V"⟩
abbrev b_MO_load : ByteArray := prog_8_method_42_code
def y_MO_load : MethodName := ⟨"ConfigTextsModel", "load", "()I"⟩
abbrev b_MO_fault : ByteArray := prog_8_method_43_code
def y_MO_fault : MethodName := ⟨"ConfigTextsModel", "fault", "(I)I"⟩
abbrev b_MO_size : ByteArray := prog_8_method_44_code
def y_MO_size : MethodName := ⟨"ConfigTextsModel", "size", "(I)I"⟩
abbrev b_MO_partition : ByteArray := prog_8_method_45_code
def y_MO_partition : MethodName := ⟨"ConfigTextsModel", "partition", "(II)I"⟩
abbrev b_MO_valueOf : ByteArray := prog_8_method_46_code
def y_MO_valueOf : MethodName := ⟨"ConfigTextsModel", "valueOf", "(IIIII)I"⟩
abbrev b_MO_process : ByteArray := prog_8_method_47_code
def y_MO_process : MethodName := ⟨"ConfigTextsModel", "process", "(III)I"⟩
abbrev b_MO_thing : ByteArray := prog_8_method_48_code
def y_MO_thing : MethodName := ⟨"ConfigTextsModel", "thing", "(IIII)I"⟩
abbrev b_MO_channel : ByteArray := prog_8_method_49_code
def y_MO_channel : MethodName := ⟨"ConfigTextsModel", "channel", "(II)I"⟩
abbrev b_MO_window : ByteArray := prog_8_method_50_code
def y_MO_window : MethodName := ⟨"ConfigTextsModel", "window", "(II)I"⟩
abbrev b_CF_init : ByteArray := prog_2_method_1_code
def y_CF_init : MethodName := ⟨"ConfigTexts$Configuration", "<init>", "()V"⟩
abbrev b_CF_clear : ByteArray := prog_2_method_2_code
def y_CF_clear : MethodName := ⟨"ConfigTexts$Configuration", "clear", "()V"⟩
abbrev b_CF_isFull : ByteArray := prog_2_method_3_code
def y_CF_isFull : MethodName := ⟨"ConfigTexts$Configuration", "isFull", "()Z"⟩
abbrev b_CF_addPartition : ByteArray := prog_2_method_4_code
def y_CF_addPartition : MethodName := ⟨"ConfigTexts$Configuration", "addPartition", "(J)V"⟩
abbrev b_CF_partitionAt : ByteArray := prog_2_method_5_code
def y_CF_partitionAt : MethodName := ⟨"ConfigTexts$Configuration", "partitionAt", "(I)LConfigTexts$Partition;"⟩
abbrev b_CF_findPartition : ByteArray := prog_2_method_6_code
def y_CF_findPartition : MethodName := ⟨"ConfigTexts$Configuration", "findPartition", "(J)I"⟩
abbrev b_CF_count : ByteArray := prog_2_method_7_code
def y_CF_count : MethodName := ⟨"ConfigTexts$Configuration", "count", "(I)I"⟩
abbrev b_PA_init : ByteArray := prog_3_method_1_code
def y_PA_init : MethodName := ⟨"ConfigTexts$Partition", "<init>", "()V"⟩
abbrev b_PA_begin : ByteArray := prog_3_method_2_code
def y_PA_begin : MethodName := ⟨"ConfigTexts$Partition", "begin", "(J)V"⟩
abbrev b_PA_hasThing : ByteArray := prog_3_method_3_code
def y_PA_hasThing : MethodName := ⟨"ConfigTexts$Partition", "hasThing", "(J)Z"⟩
abbrev b_PA_setAction : ByteArray := prog_3_method_4_code
def y_PA_setAction : MethodName := ⟨"ConfigTexts$Partition", "setAction", "(II)V"⟩
abbrev b_PA_get : ByteArray := prog_3_method_5_code
def y_PA_get : MethodName := ⟨"ConfigTexts$Partition", "get", "(I)I"⟩
abbrev b_RD_init : ByteArray := prog_4_method_1_code
def y_RD_init : MethodName := ⟨"ConfigTexts$Reader", "<init>", "(LConfigTexts$Words;LConfigTexts$Configuration;)V"⟩
abbrev b_RD_readPartition : ByteArray := prog_4_method_2_code
def y_RD_readPartition : MethodName := ⟨"ConfigTexts$Reader", "readPartition", "()V"⟩
abbrev b_RD_openPartition : ByteArray := prog_4_method_3_code
def y_RD_openPartition : MethodName := ⟨"ConfigTexts$Reader", "openPartition", "()V"⟩
abbrev b_RD_closePartition : ByteArray := prog_4_method_4_code
def y_RD_closePartition : MethodName := ⟨"ConfigTexts$Reader", "closePartition", "(LConfigTexts$Partition;)V"⟩
abbrev b_RD_nameThing : ByteArray := prog_4_method_5_code
def y_RD_nameThing : MethodName := ⟨"ConfigTexts$Reader", "nameThing", "(LConfigTexts$Partition;I)LConfigTexts$Rows;"⟩
abbrev b_RD_readSetting : ByteArray := prog_4_method_6_code
def y_RD_readSetting : MethodName := ⟨"ConfigTexts$Reader", "readSetting", "(Ljava/lang/String;III)I"⟩
abbrev b_RD_readProcess : ByteArray := prog_4_method_7_code
def y_RD_readProcess : MethodName := ⟨"ConfigTexts$Reader", "readProcess", "(LConfigTexts$Partition;)V"⟩
abbrev b_RD_readSemaphore : ByteArray := prog_4_method_8_code
def y_RD_readSemaphore : MethodName := ⟨"ConfigTexts$Reader", "readSemaphore", "(LConfigTexts$Partition;)V"⟩
abbrev b_RD_readBuffer : ByteArray := prog_4_method_9_code
def y_RD_readBuffer : MethodName := ⟨"ConfigTexts$Reader", "readBuffer", "(LConfigTexts$Partition;)V"⟩
abbrev b_RD_readPort : ByteArray := prog_4_method_10_code
def y_RD_readPort : MethodName := ⟨"ConfigTexts$Reader", "readPort", "(LConfigTexts$Partition;)V"⟩
abbrev b_RD_readErrors : ByteArray := prog_4_method_11_code
def y_RD_readErrors : MethodName := ⟨"ConfigTexts$Reader", "readErrors", "(LConfigTexts$Partition;)V"⟩
abbrev b_RD_readAction : ByteArray := prog_4_method_12_code
def y_RD_readAction : MethodName := ⟨"ConfigTexts$Reader", "readAction", "()I"⟩
abbrev b_RD_readChannel : ByteArray := prog_4_method_13_code
def y_RD_readChannel : MethodName := ⟨"ConfigTexts$Reader", "readChannel", "()V"⟩
abbrev b_RD_readGoals : ByteArray := prog_4_method_14_code
def y_RD_readGoals : MethodName := ⟨"ConfigTexts$Reader", "readGoals", "(I)V"⟩
abbrev b_RD_readEnd : ByteArray := prog_4_method_15_code
def y_RD_readEnd : MethodName := ⟨"ConfigTexts$Reader", "readEnd", "(Ljava/lang/String;II)I"⟩
abbrev b_RD_readPartitionName : ByteArray := prog_4_method_16_code
def y_RD_readPartitionName : MethodName := ⟨"ConfigTexts$Reader", "readPartitionName", "()I"⟩
abbrev b_RD_readFrame : ByteArray := prog_4_method_17_code
def y_RD_readFrame : MethodName := ⟨"ConfigTexts$Reader", "readFrame", "()V"⟩
abbrev b_RD_readWindow : ByteArray := prog_4_method_18_code
def y_RD_readWindow : MethodName := ⟨"ConfigTexts$Reader", "readWindow", "()V"⟩
abbrev b_RO_init : ByteArray := prog_5_method_1_code
def y_RO_init : MethodName := ⟨"ConfigTexts$Rows", "<init>", "(II)V"⟩
abbrev b_RO_clear : ByteArray := prog_5_method_2_code
def y_RO_clear : MethodName := ⟨"ConfigTexts$Rows", "clear", "()V"⟩
abbrev b_RO_isFull : ByteArray := prog_5_method_3_code
def y_RO_isFull : MethodName := ⟨"ConfigTexts$Rows", "isFull", "()Z"⟩
abbrev b_RO_add : ByteArray := prog_5_method_4_code
def y_RO_add : MethodName := ⟨"ConfigTexts$Rows", "add", "(JI)V"⟩
abbrev b_RO_holds : ByteArray := prog_5_method_5_code
def y_RO_holds : MethodName := ⟨"ConfigTexts$Rows", "holds", "(II)Z"⟩
abbrev b_RO_get : ByteArray := prog_5_method_6_code
def y_RO_get : MethodName := ⟨"ConfigTexts$Rows", "get", "(II)I"⟩
abbrev b_RO_set : ByteArray := prog_5_method_7_code
def y_RO_set : MethodName := ⟨"ConfigTexts$Rows", "set", "(III)V"⟩
abbrev b_RO_setLast : ByteArray := prog_5_method_8_code
def y_RO_setLast : MethodName := ⟨"ConfigTexts$Rows", "setLast", "(II)V"⟩
abbrev b_RO_find : ByteArray := prog_5_method_9_code
def y_RO_find : MethodName := ⟨"ConfigTexts$Rows", "find", "(J)I"⟩
abbrev b_WO_init : ByteArray := prog_6_method_1_code
def y_WO_init : MethodName := ⟨"ConfigTexts$Words", "<init>", "([B)V"⟩
abbrev b_WO_begin : ByteArray := prog_6_method_2_code
def y_WO_begin : MethodName := ⟨"ConfigTexts$Words", "begin", "(I)V"⟩
abbrev b_WO_fail : ByteArray := prog_6_method_3_code
def y_WO_fail : MethodName := ⟨"ConfigTexts$Words", "fail", "(I)V"⟩
abbrev b_WO_failAt : ByteArray := prog_6_method_4_code
def y_WO_failAt : MethodName := ⟨"ConfigTexts$Words", "failAt", "(II)V"⟩
abbrev b_WO_next : ByteArray := prog_6_method_5_code
def y_WO_next : MethodName := ⟨"ConfigTexts$Words", "next", "()V"⟩
abbrev b_WO_kindOf : ByteArray := prog_6_method_6_code
def y_WO_kindOf : MethodName := ⟨"ConfigTexts$Words", "kindOf", "(B)I"⟩
abbrev b_WO_spell : ByteArray := prog_6_method_7_code
def y_WO_spell : MethodName := ⟨"ConfigTexts$Words", "spell", "()V"⟩
abbrev b_WO_reckon : ByteArray := prog_6_method_8_code
def y_WO_reckon : MethodName := ⟨"ConfigTexts$Words", "reckon", "()V"⟩
abbrev b_WO_whichOf : ByteArray := prog_6_method_9_code
def y_WO_whichOf : MethodName := ⟨"ConfigTexts$Words", "whichOf", "(Ljava/lang/String;)I"⟩
abbrev b_WO_is : ByteArray := prog_6_method_10_code
def y_WO_is : MethodName := ⟨"ConfigTexts$Words", "is", "(Ljava/lang/String;)Z"⟩
abbrev b_WO_expect : ByteArray := prog_6_method_11_code
def y_WO_expect : MethodName := ⟨"ConfigTexts$Words", "expect", "(Ljava/lang/String;)V"⟩
abbrev b_WO_expectEnd : ByteArray := prog_6_method_12_code
def y_WO_expectEnd : MethodName := ⟨"ConfigTexts$Words", "expectEnd", "()V"⟩
abbrev b_WO_expectOneOf : ByteArray := prog_6_method_13_code
def y_WO_expectOneOf : MethodName := ⟨"ConfigTexts$Words", "expectOneOf", "(Ljava/lang/String;)I"⟩
abbrev b_WO_expectName : ByteArray := prog_6_method_14_code
def y_WO_expectName : MethodName := ⟨"ConfigTexts$Words", "expectName", "()J"⟩
abbrev b_WO_expectNumber : ByteArray := prog_6_method_15_code
def y_WO_expectNumber : MethodName := ⟨"ConfigTexts$Words", "expectNumber", "(III)I"⟩
theorem xT_V {own C : String} {idx : Nat} {y : MethodName} {b : ByteArray} {n : Nat} {r : Option FieldType} (h1 : Cond.methodLink own idx y ∈ xT) (h2 : Cond.instanceMethod y ∈ xT) (h3 : Cond.selects C y y ∈ xT) (h4 : Cond.initialized C ∈ xT) (h5 : Cond.code y b n r ∈ xT) : GoodIn xT (wsV own idx C y (.code y b n r :: xT)) := by
  intro w hw
  rcases List.mem_append.mp hw with h | h
  · simp only [List.mem_cons, List.not_mem_nil, or_false] at h
    rcases h with rfl | rfl | rfl | rfl
    · exact xT_good _ h1
    · exact xT_good _ h2
    · exact xT_good _ h3
    · exact xT_good _ h4
  · rcases List.mem_cons.mp h with rfl | h
    · exact xT_good _ h5
    · exact xT_good _ h
theorem xT_S {own : String} {idx : Nat} {y : MethodName} {b : ByteArray} {n : Nat} {r : Option FieldType} (h1 : Cond.methodLink own idx y ∈ xT) (h2 : Cond.static y ∈ xT) (h4 : Cond.initialized own ∈ xT) (h5 : Cond.code y b n r ∈ xT) : GoodIn xT (wsS own idx y (.code y b n r :: xT)) := by
  intro w hw
  rcases List.mem_append.mp hw with h | h
  · simp only [List.mem_cons, List.not_mem_nil, or_false] at h
    rcases h with rfl | rfl | rfl
    · exact xT_good _ h1
    · exact xT_good _ h2
    · exact xT_good _ h4
  · rcases List.mem_cons.mp h with rfl | h
    · exact xT_good _ h5
    · exact xT_good _ h
theorem xT_I {y : MethodName} {b : ByteArray} {n : Nat} {r : Option FieldType} (h5 : Cond.code y b n r ∈ xT) : GoodIn xT (.code y b n r :: xT) := by
  intro w hw
  rcases List.mem_cons.mp hw with rfl | h
  · exact xT_good _ h5
  · exact xT_good _ h
end
section
/-! WALKS THAT MAY THROW: a contract with two ends (returned, threw), each with its own count of cells and slots; calls of such methods; worlds by index. -/
section XB
variable {p : Program} {l : Launch} {e : Env} {R : Room} {s : State} {m : MethodId} {args : Array Value} {below : List Frame} {meth : Method} {c : Code} {H : Heap} {locs : List Loc} {cells slots : Nat} {Q : State → Prop}
/-- what a contract with two ends says of an end -/
def xQ (Qr : State → Option Value → State → Prop) (Qt : State → Addr → State → Prop) (mc ms tc ts : Nat) (free : Addr → Prop) (st : State) (o : Outcome) (t : State) : Prop :=
  st.WarmedH t.vm ∧ ((∃ v, o = .returned v ∧ Qr st v t ∧ ∃ L, st.sameButNew ({ t with vm := st.vm } : State) L mc ms ∧ ∀ q ∈ L, free q.base) ∨
    (∃ x, o = .threw x ∧ Qt st x t ∧ ∃ L, st.sameButNew ({ t with vm := st.vm } : State) L tc ts ∧ ∀ q ∈ L, free q.base))
/-- a contract with two ends -/
def MetX (l : Launch) (y : MethodName) (ws : List Cond) (rm : Room) (Pc : Array Value → State → Prop) (Qr : State → Option Value → State → Prop) (Qt : State → Addr → State → Prop) (mc ms tc ts : Nat) (free : Addr → Prop) : Prop :=
  MetFree l y (headSpec ws rm) Pc (fun _ _ _ _ _ => True) (fun _ st o t => xQ Qr Qt mc ms tc ts free st o t)
/-- where a walk of such a method must come -/
def XF (below : List Frame) (Qr : State → Option Value → State → Prop) (Qt : State → Addr → State → Prop) (s : State) (mc ms tc ts : Nat) (free : Addr → Prop) : State → Prop := fun t =>
  ∃ o, t.status = .running ∧ Ended t below o ∧ xQ Qr Qt mc ms tc ts free s o t
theorem MetX.ofW {y : MethodName} {ws ws' : List Cond} {rm : Room} {Pc : Array Value → State → Prop} {Qr : State → Option Value → State → Prop} {Qt : State → Addr → State → Prop} {mc ms tc ts : Nat} {free : Addr → Prop} {cc : ByteArray} {maxL : Nat} {ret : Option FieldType}
    (hy : plainName y.cls = true) (hw : ws = Cond.code y cc maxL ret :: ws')
    (body : ∀ p e s m args below meth c s₁, BodyLoose p l y (headSpec ws rm) cc maxL ret e s m args below meth c s₁ → c.maxLocals = maxL → Pc args s →
      W p l e (headSpec ws rm).room s m args below meth c s.heap [] 0 0 (XF below Qr Qt s mc ms tc ts free) (entryFrame m args maxL)) : MetX l y ws rm Pc Qr Qt mc ms tc ts free := by
  refine MetFree.of_bodyS (code := cc) (maxLocals := maxL) (ret := ret) hy ?_ ?_
  · intro args s m h hn
    obtain ⟨meth, c, h1, h2, h3, h4, h5, h6, -, -⟩ := Cond.code_spec hn (atoms_spec (ws := ws) h _ (by rw [hw]; exact List.mem_cons_self))
    exact ⟨meth, c, h1, h2, h3, h4, h5, h6⟩
  · intro p e s m args below meth c s₁ B hml hP _
    have hh0 : s₁.heap = s.heap := by rw [B.state]; rfl
    obtain ⟨t, a1, o, b1, b2, b3⟩ := body p e s m args below meth c s₁ B hml hP s₁ hh0 (Stand.of_body B)
    exact ⟨t, o, a1, b1, b2, b3⟩
theorem W.mono {Q' : State → Prop} {g : JFrame} (h : ∀ t, Q t → Q' t) (k : W p l e R s m args below meth c H locs cells slots Q g) : W p l e R s m args below meth c H locs cells slots Q' g := by
  intro T hT X
  obtain ⟨t, a, b⟩ := k T hT X
  exact ⟨t, a, h t b⟩
/-- a return row of the kit ends such a walk -/
theorem xret {Qr : State → Option Value → State → Prop} {Qt : State → Addr → State → Prop} {mc ms tc ts : Nat} {free : Addr → Prop} {g : JFrame}
    (k : W p l e R s m args below meth c H locs cells slots (MQ below (fun _ st o t => ∃ v, o = .returned v ∧ Qr st v t) args s mc ms free) g) : W p l e R s m args below meth c H locs cells slots (XF below Qr Qt s mc ms tc ts free) g := by
  refine W.mono ?_ k
  rintro t ⟨o, h1, h2, ⟨v, rfl, hq⟩, L, ⟨-, hW, hs⟩, hL⟩
  exact ⟨_, h1, h2, hW, Or.inl ⟨v, rfl, hq, L, hs, hL⟩⟩
/-- the walk with an exception in hand over the frame g -/
def WT (p : Program) (l : Launch) (e : Env) (R : Room) (s : State) (m : MethodId) (args : Array Value) (below : List Frame) (meth : Method) (c : Code) (H : Heap) (locs : List Loc) (cells slots : Nat) (Q : State → Prop) (g : JFrame) (x : Addr) : Prop :=
  ∀ T : State, T.heap = H → Stand p l e R s m args below meth c T locs cells slots → ∃ t, Steps p.tables e below ((T.setTop g).pushFrame (.throwing x)) t ∧ Q t
/-- no handler: the exception leaves -/
theorem xleave {Qr : State → Option Value → State → Prop} {Qt : State → Addr → State → Prop} {mc ms : Nat} {free : Addr → Prop} {pc : Nat} {ls : Array Slot} {st : List Value} {x : Addr}
    (hnh : c.exceptionTable.isEmpty = true) (hlocks : meth.locks = false) (hq : ∀ t : State, t.heap = H → s.WarmedH t.vm → Qt s x t) (hf : ∀ q ∈ locs, free q.base) :
    WT p l e R s m args below meth c H locs cells slots (XF below Qr Qt s mc ms cells slots free) (F0 m pc ls st) x := by
  intro T hT X
  have hout : ∀ y ∈ c.exceptionTable.toList, covers y (F0 m pc ls st).pc = false := by
    intro y hy
    have h0 : c.exceptionTable = #[] := by simpa using hnh
    rw [h0] at hy
    simp at hy
  obtain ⟨h1, h2, h3, h4, h5⟩ := X.leaveThrown x (g := F0 m pc ls st) rfl rfl rfl hout hlocks
  exact ⟨_, h1, _, h2, h3, h4, Or.inr ⟨x, rfl, hq _ hT h4, locs, h5, hf⟩⟩
theorem xcore {y : MethodName} {ws : List Cond} {rm : Room} {Pc : Array Value → State → Prop} {Qf : Array Value → State → Outcome → State → Prop} {bytes : ByteArray} {maxL Wd : Nat} {ret : Option FieldType} {T : State}
    (hM : MetFree l y (headSpec ws rm) Pc (fun _ _ _ _ _ => True) Qf) (hfr : rm.frames + 1 ≤ R.frames) (hlo : Wd + (maxL + 11) + rm.locals ≤ R.locals) (hce : cells + rm.cells ≤ R.cells) (hsl : slots + rm.slots ≤ R.slots)
    (X : Stand p l e R s m args below meth c T locs cells slots) {g : JFrame} (hg : g.method = m) (hsize : g.locals.size = c.maxLocals) {ig : Instr} {len : Nat} (hdg : decode c.code g.pc = .ok (ig, len))
    (hW : 2 * g.monitorRoom + (g.stack.map fun v => v.category).sum ≤ Wd) {mk : MethodId} (hn : T.methodNamed? y = some mk) (a : Array Value)
    (hws : ∀ w ∈ ws, w.before a T = true) (hcode : (Cond.code y bytes maxL ret).before a T = true) (hini : (Cond.initialized y.cls).before a T = true) (hP : Pc a (T.calling g mk a)) :
    ∃ o t, Steps p.tables e below (doInvoke e (T.setTop g) [] mk a).1 t ∧ Ended t (.java g :: below) o ∧ Qf a (T.calling g mk a) o t := by
  obtain ⟨methY, cY, hmY, hcY, -, hlY, -, -, -, -⟩ := Cond.code_spec hn hcode
  obtain ⟨kY, hkY, -⟩ := className_of_methodNamed hn
  have hinitY : kY.init = .initialized := Cond.initialized_spec (findClass_of_methodNamed hn) hkY hini
  have h : At T g.method c below := by rw [hg]; exact X.here
  have happ : (headSpec ws rm).appliesLoose y e.platform (T.calling g mk a) = true :=
    Spec.appliesLoose_calling (g := g) h hdg hn hkY hinitY
      (X.room_calling (g := g) (R' := (headSpec ws rm).room) hsize hmY hcY hfr (by rw [hlY]; show _ + _ + rm.locals ≤ _; omega) hce hsl) (atoms_intro hws)
  obtain ⟨mid, hmid⟩ := h.above
  have hfr' : (T.setTop g).frames = (.java g :: mid) ++ below := by rw [State.frames_setTop' g h.top, hmid]; rfl
  obtain ⟨o, s₂, hsteps, -, hend, hq⟩ := Steps.callFree hM p X.admits X.cas X.clock (acts := []) hfr' happ hP trivial
  rw [State.frames_setTop' g h.top, X.tail] at hend
  exact ⟨o, s₂, hsteps, hend, hq⟩
/-- a call with two ends -/
def xRun (p : Program) (l : Launch) (e : Env) (R : Room) (s : State) (m : MethodId) (args : Array Value) (below : List Frame) (meth : Method) (c : Code) (H : Heap) (locs : List Loc) (cells slots mc ms tc ts : Nat) (g : JFrame) (rest : List Value) (Qr : State → Option Value → State → Prop) (Qt : State → Addr → State → Prop) (free : Addr → Prop) : Prop :=
  ∀ T : State, T.heap = H → Stand p l e R s m args below meth c T locs cells slots →
    (∃ (v : Option Value) (st₀ t T' : State) (L : List Loc), st₀.heap = H ∧ Stand p l e R s m args below meth c T' (locs ++ L) (cells + mc) (slots + ms) ∧ (∀ q ∈ L, free q.base) ∧ T'.heap = t.heap ∧ s.vm.Alike t.vm ∧ Qr st₀ v t ∧
      Goes p e below T g T' { g with pc := g.pc + 3, stack := v.toList ++ rest }) ∨
    (∃ (x : Addr) (st₀ t T' : State) (L : List Loc), st₀.heap = H ∧ Stand p l e R s m args below meth c T' (locs ++ L) (cells + tc) (slots + ts) ∧ (∀ q ∈ L, free q.base) ∧ T'.heap = t.heap ∧ s.vm.Alike t.vm ∧ Qt st₀ x t ∧
      ∀ target, Steps p.tables e below ((T'.setTop { g with stack := rest }).pushFrame (.throwing x)) target → Steps p.tables e below (T.setTop g) target)
theorem xheap (T : State) (g : JFrame) : (T.setTop g).heap = T.heap := by
  simp [State.setFrames, State.setTop, State.modifyTopJava]
theorem xrunV {y : MethodName} {bytes cc : ByteArray} {maxL nL mc ms tc ts kc ks n index : Nat} {ret : Option FieldType} {ws : List Cond} {rm : Room} {Pc : Array Value → State → Prop} {Qr : State → Option Value → State → Prop} {Qt : State → Addr → State → Prop} {free : Addr → Prop} {Ts : List Cond} {own C : String} {b : Addr} {As rest : List Value} {g : JFrame}
    (S : CallFix p m c cc nL s args Ts own) (hM : MetX l y ws rm Pc Qr Qt mc ms tc ts free) (cw : CallW R s args own C index y bytes maxL ret ws rm kc ks n) (hp : PreV s H C b Pc As)
    (hg : g.method = m) (hn : As.length = n) (hsize : g.locals.size = nL) (hstack : g.stack = As.reverse ++ .ref b :: rest) (hW : 2 * g.monitorRoom + (rest.map fun v => v.category).sum ≤ 8) (hdg : decode cc g.pc = .ok (.invokevirtual index, 3)) (hf : cells + kc ≤ R.cells ∧ slots + ks ≤ R.slots) :
    xRun p l e R s m args below meth c H locs cells slots mc ms tc ts g rest Qr Qt free := by
  obtain ⟨⟨hrc, hrs, hfr, hlo, hws, hcw, hcode, hini, hy, hlen, hl⟩, hinst, hsel⟩ := cw
  obtain ⟨hx, hb, hml, ho, -⟩ := S
  obtain ⟨hbl, ⟨cellB, hcB, hoB, hclB⟩, hPc⟩ := hp
  intro T hT X
  obtain ⟨mk, methM, hnamed, hmethM, hstM, habM⟩ := Cond.instanceMethod_spec hinst
  obtain ⟨methM', cM, hmethM', -, -, -, -, -, -, hsigM⟩ := Cond.code_spec hnamed hcode
  cases hmethM.symm.trans hmethM'
  obtain ⟨c2, r2, m2, q1, q2, q3, q4, kP, hkP, hkPi⟩ := Cond.selects_spec hsel
  cases hclB.symm.trans q1
  cases (State.methodFound?_of_named hnamed hy).symm.trans q2
  cases hnamed.symm.trans q3
  have hselP : selectMethod e.platform s.vm cellB.cls mk = .method mk := by rw [Launch.admits_selectMethod X.admits]; exact q4
  have hdg' : decode c.code g.pc = .ok (.invokevirtual index, 3) := by rw [hb]; exact hdg
  obtain ⟨vm₁, X₁, hstep₁⟩ := X.invokevirtual hx ho hl hnamed hmethM hstM hkP hkPi hy (a := b) (cell := cellB) (by rw [hT]; exact hcB)
    (fun z h => by rw [h] at hoB; cases hoB) hselP hmethM habM hkP hkPi (g := g) hg (argsL := As) (rest := rest) (hn.trans (hlen _ hsigM)) hstack hdg'
  obtain ⟨o, t, hst, hend, hWt, hq⟩ := xcore (Wd := 8) (bytes := bytes) (maxL := maxL) (ret := ret) hM hfr hlo (by rw [hrc]; exact hf.1) (by rw [hrs]; exact hf.2) X₁ (g := { g with stack := rest }) hg (hsize.trans hml.symm) hdg' hW (X₁.named hnamed) (Value.ref b :: As).toArray
    (fun w hw => hws w hw _ _ X₁.warmed) (hws _ hcw _ _ X₁.warmed) (word_at X₁.warmed (Or.inl (by first | rfl | simp [Cond.onTables, Cond.keeps, Cond.steady])) hini) (hbl _ _ _ _ (hPc (T.setVm vm₁) hT X₁.warmed))
  rcases hq with ⟨v, rfl, hqr, L, hsame, hL⟩ | ⟨x, rfl, hqt, L, hsame, hL⟩
  · obtain ⟨T', X', hW', hsb, ht⟩ := X₁.outOf (g := { g with stack := rest }) hg hdg' hend hWt hsame
    refine Or.inl ⟨v, (T.setVm vm₁).calling { g with stack := rest } mk (Value.ref b :: As).toArray, t, T', L, hT, X', hL, ?_, ?_, hqr, fun target h => hstep₁ _ fun acts => by rw [doInvoke_state]; exact hst.trans (by rw [ht]; exact h)⟩
    · rw [ht, xheap]
    · exact X₁.warmed.alike.trans hWt.alike
  · obtain ⟨T', X', hW', hsb, ht⟩ := X₁.outOfThrown (g := { g with stack := rest }) hg hend hWt hsame
    refine Or.inr ⟨x, (T.setVm vm₁).calling { g with stack := rest } mk (Value.ref b :: As).toArray, t, T', L, hT, X', hL, ?_, ?_, hqt, fun target h => hstep₁ _ fun acts => by rw [doInvoke_state]; exact hst.trans (by rw [ht]; exact h)⟩
    · rw [ht, Stand.throwing_heap]
    · exact X₁.warmed.alike.trans hWt.alike
/-- behind such a call -/
theorem xgo {A0 : Nat → Prop} {H0 : Heap} {mc ms tc ts pc : Nat} {ls : Array Slot} {rest st0 : List Value} {Qr : State → Option Value → State → Prop} {Qt : State → Addr → State → Prop} {free : Addr → Prop}
    (hr : xRun p l e R s m args below meth c H locs cells slots mc ms tc ts (F0 m pc ls st0) rest Qr Qt free) (hS : va_S A0 H0 H locs) (hfree : ∀ q, free q → A0 q)
    (hFr : ∀ st v t, Qr st v t → va_F A0 st t) (hFt : ∀ st x t, Qt st x t → va_F A0 st t)
    (kr : ∀ (v : Option Value) (st t : State) (H1 : Heap) (locs1 : List Loc), st.heap = H → t.heap = H1 → s.vm.Alike t.vm → Qr st v t → va_S A0 H0 H1 locs1 → W p l e R s m args below meth c H1 locs1 (cells + mc) (slots + ms) Q (F0 m (pc + 3) ls (v.toList ++ rest)))
    (kt : ∀ (x : Addr) (st t : State) (H1 : Heap) (locs1 : List Loc), st.heap = H → t.heap = H1 → s.vm.Alike t.vm → Qt st x t → va_S A0 H0 H1 locs1 → WT p l e R s m args below meth c H1 locs1 (cells + tc) (slots + ts) Q (F0 m pc ls rest) x) :
    W p l e R s m args below meth c H locs cells slots Q (F0 m pc ls st0) := by
  intro T hT X
  have move : ∀ {st t : State} {L : List Loc}, st.heap = H → va_F A0 st t → (∀ q ∈ L, free q.base) → va_S A0 H0 t.heap (locs ++ L) := by
    intro st t L h0 hF hL
    obtain ⟨hz, hk⟩ := hF
    rw [h0] at hz hk
    refine ⟨Nat.le_trans hS.1 hz, fun q h1 h2 => ?_, fun q hq => ?_⟩
    · rw [hk q (Nat.lt_of_lt_of_le h1 hS.1) h2]
      exact hS.2.1 q h1 h2
    · rcases List.mem_append.mp hq with h | h
      · exact hS.2.2 q h
      · exact hfree _ (hL q h)
  rcases hr T hT X with ⟨v, st₀, t, T', L, h0, X', hL, e1, e2, hq, st⟩ | ⟨x, st₀, t, T', L, h0, X', hL, e1, e2, hq, st⟩
  · obtain ⟨t2, a1, b1⟩ := kr v st₀ t t.heap (locs ++ L) h0 rfl e2 hq (move h0 (hFr _ _ _ hq) hL) T' e1 X'
    exact ⟨t2, st t2 a1, b1⟩
  · obtain ⟨t2, a1, b1⟩ := kt x st₀ t t.heap (locs ++ L) h0 rfl e2 hq (move h0 (hFt _ _ _ hq) hL) T' e1 X'
    exact ⟨t2, st t2 a1, b1⟩
end XB
/-! worlds by index -/
def xW (n : Nat) (lay : Nat → Nat) (f : Nat → va_E) : va_W := (List.range n).map fun i => (lay i, f i)
theorem xW_at {n : Nat} {lay : Nat → Nat} {f : Nat → va_E} {i : Nat} {e : va_E} (h : i < n) (he : f i = e) : (xW n lay f)[i]? = some (lay i, e) := by
  simp [xW, h, he]
theorem xW_set {n : Nat} {lay : Nat → Nat} {f g : Nat → va_E} {i : Nat} {e : va_E} (hi : g i = e) (ho : ∀ j, j ≠ i → g j = f j) : (xW n lay f).set i (lay i, e) = xW n lay g := by
  apply List.ext_getElem?
  intro k
  by_cases hk : k = i
  · subst hk
    by_cases hn : k < n
    · rw [List.getElem?_set_self (by simp [xW, hn])]
      simp [xW, hn, hi]
    · rw [List.getElem?_eq_none (by simp [xW]; omega), List.getElem?_eq_none (by simp [xW]; omega)]
  · rw [List.getElem?_set_ne (Ne.symm hk)]
    by_cases hn : k < n
    · simp [xW, hn, ho k hk]
    · rw [List.getElem?_eq_none (by simp [xW]; omega), List.getElem?_eq_none (by simp [xW]; omega)]
def xIn (n : Nat) (lay : Nat → Nat) : Nat → Prop := fun q => ∃ i, i < n ∧ q = lay i
def xInj (n : Nat) (lay : Nat → Nat) : Prop := ∀ i j, i < n → j < n → lay i = lay j → i = j
theorem xW_get {n : Nat} {lay : Nat → Nat} {f : Nat → va_E} {k : Nat} {q : Nat × va_E} (h : (xW n lay f)[k]? = some q) : k < n ∧ q = (lay k, f k) := by
  have hk : k < (xW n lay f).length := (List.getElem?_eq_some_iff.mp h).1
  have hn : k < n := by simpa [xW] using hk
  rw [xW_at hn rfl] at h
  exact ⟨hn, (Option.some.inj h).symm⟩
theorem xW_D {n : Nat} {lay : Nat → Nat} {f : Nat → va_E} (h : xInj n lay) : va_D (xIn n lay) (xW n lay f) := by
  refine ⟨fun i j p q hi hj hpq => ?_, fun k q hk => ?_⟩
  · obtain ⟨h1, rfl⟩ := xW_get hi
    obtain ⟨h2, rfl⟩ := xW_get hj
    exact h i j h1 h2 hpq
  · obtain ⟨h1, rfl⟩ := xW_get hk
    exact ⟨k, h1, rfl⟩
/-! Option's rows, for pure words that may be stuck -/
theorem xg {α : Type} {c : Prop} [Decidable c] {a : Option α} {r : α} (h : (if c then a else none) = some r) : c ∧ a = some r := by
  by_cases hc : c
  · rw [if_pos hc] at h; exact ⟨hc, h⟩
  · rw [if_neg hc] at h; cases h
theorem xb {α β : Type} {a : Option α} {f : α → Option β} {r : β} (h : a.bind f = some r) : ∃ x, a = some x ∧ f x = some r := by
  cases a with
  | none => cases h
  | some x => exact ⟨x, rfl, h⟩
def up2 {α : Type} (z : Nat → Nat → α) (i j : Nat) (v : α) : Nat → Nat → α := fun a b => if a = i ∧ b = j then v else z a b
theorem up2_self {α : Type} (z : Nat → Nat → α) (i j : Nat) (v : α) : up2 z i j v i j = v := by simp [up2]
theorem up2_row {α : Type} (z : Nat → Nat → α) {i a : Nat} (j : Nat) (v : α) (h : a ≠ i) : up2 z i j v a = z a := by funext b; simp [up2, h]
theorem up2_col {α : Type} (z : Nat → Nat → α) (i : Nat) {j b : Nat} (v : α) (h : b ≠ j) : up2 z i j v i b = z i b := by simp [up2, h]
theorem up2_in {α : Type} (z : Nat → Nat → α) (i j : Nat) (v : α) : up2 z i j v i = fun b => if b = j then v else z i b := by funext b; simp [up2]
end
section
/-! the class's world: 180 cells, numbered as they are made: 0 the object, 1 its text, 2 Words, 3 Configuration, 4 the row of partitions; partition k at 5 + 21 k, its actions, its row of Rows, six Rows with names and numbers each; 173 channels, 176 windows, 179 Reader. Its numbers: S.1 (int) and S.2 (long), by cell and place. -/
abbrev XS : Type := (Nat → Nat → Int32) × (Nat → Nat → Int64)
def xgi (S : XS) (i j : Nat) : Int32 := S.1 i j
def xgl (S : XS) (i j : Nat) : Int64 := S.2 i j
def xpi (S : XS) (i j : Nat) (v : Int32) : XS := (up2 S.1 i j v, S.2)
def xpl (S : XS) (i j : Nat) (v : Int64) : XS := (S.1, up2 S.2 i j v)
abbrev xP (i : Nat) : Prop := 5 ≤ i ∧ i < 173 ∧ (i - 5) % 21 = 0
abbrev xR (i : Nat) : Prop := i = 173 ∨ i = 176 ∨ (5 ≤ i ∧ i < 173 ∧ 3 ≤ (i - 5) % 21 ∧ (i - 5) % 21 % 3 = 0)
def xMost (i : Nat) : Nat := if i = 173 ∨ i = 176 then 16 else [8, 4, 4, 4, 4, 8].getD (((i - 5) % 21 - 3) / 3) 0
def xWid (i : Nat) : Nat := if i = 173 then 8 else if i = 176 then 2 else [5, 2, 0, 1, 0, 3].getD (((i - 5) % 21 - 3) / 3) 0
def xcell (lay : Nat → Nat) (cA : Nat → ClassId) (i : Nat) (z : Nat → Int32) (w : Nat → Int64) : va_E :=
  if i = 0 then .inr (5, [.ref (lay 1), .int (z 1), .ref (lay 2), .ref (lay 3), .ref (lay 179), .int (z 5)])
  else if i = 1 then .inl (cA 0, 2000, .inl z)
  else if i = 2 then .inr (4, [.ref (lay 1), .int (z 1), .int (z 2), .int (z 3), .int (z 4), .int (z 5), .long (w 6), .int (z 7), .int (z 8)])
  else if i = 3 then .inr (0, [.ref (lay 4), .int (z 1), .ref (lay 173), .ref (lay 176), .int (z 4), .int (z 5), .int (z 6)])
  else if i = 4 then .inl (cA 3, 8, .inr (.inr (.inr (.inr (fun j => some (lay (5 + 21 * j)))))))
  else if i = 179 then .inr (2, [.ref (lay 2), .ref (lay 3), .int (z 2), .int (z 3)])
  else if xP i then .inr (1, [.long (w 0), .int (z 1), .int (z 2), .ref (lay (i + 1)), .ref (lay (i + 2))])
  else if xP (i - 1) then .inl (cA 2, 4, .inl z)
  else if xP (i - 2) then .inl (cA 4, 6, .inr (.inr (.inr (.inr (fun j => some (lay (i + 1 + 3 * j)))))))
  else if xR i then .inr (3, [.int (z 0), .int (z 1), .ref (lay (i + 1)), .ref (lay (i + 2)), .int (z 4)])
  else if xR (i - 1) then .inl (cA 1, xMost (i - 1), .inr (.inl w))
  else .inl (cA 2, xMost (i - 2) * xWid (i - 2), .inl z)
theorem xc_0 (lay : Nat → Nat) (cA : Nat → ClassId) (z : Nat → Int32) (w : Nat → Int64) : xcell lay cA 0 z w = .inr (5, [.ref (lay 1), .int (z 1), .ref (lay 2), .ref (lay 3), .ref (lay 179), .int (z 5)]) := rfl
theorem xc_1 (lay : Nat → Nat) (cA : Nat → ClassId) (z : Nat → Int32) (w : Nat → Int64) : xcell lay cA 1 z w = .inl (cA 0, 2000, .inl z) := rfl
theorem xc_2 (lay : Nat → Nat) (cA : Nat → ClassId) (z : Nat → Int32) (w : Nat → Int64) : xcell lay cA 2 z w = .inr (4, [.ref (lay 1), .int (z 1), .int (z 2), .int (z 3), .int (z 4), .int (z 5), .long (w 6), .int (z 7), .int (z 8)]) := rfl
theorem xc_3 (lay : Nat → Nat) (cA : Nat → ClassId) (z : Nat → Int32) (w : Nat → Int64) : xcell lay cA 3 z w = .inr (0, [.ref (lay 4), .int (z 1), .ref (lay 173), .ref (lay 176), .int (z 4), .int (z 5), .int (z 6)]) := rfl
theorem xc_4 (lay : Nat → Nat) (cA : Nat → ClassId) (z : Nat → Int32) (w : Nat → Int64) : xcell lay cA 4 z w = .inl (cA 3, 8, .inr (.inr (.inr (.inr (fun j => some (lay (5 + 21 * j))))))) := rfl
theorem xc_179 (lay : Nat → Nat) (cA : Nat → ClassId) (z : Nat → Int32) (w : Nat → Int64) : xcell lay cA 179 z w = .inr (2, [.ref (lay 2), .ref (lay 3), .int (z 2), .int (z 3)]) := rfl
theorem xc_PA (lay : Nat → Nat) (cA : Nat → ClassId) (z : Nat → Int32) (w : Nat → Int64) {i : Nat} (h : xP i) : xcell lay cA i z w = .inr (1, [.long (w 0), .int (z 1), .int (z 2), .ref (lay (i + 1)), .ref (lay (i + 2))]) := by
  unfold xcell
  rw [if_neg (by omega), if_neg (by omega), if_neg (by omega), if_neg (by omega), if_neg (by omega), if_neg (by omega), if_pos h]
theorem xc_PAa (lay : Nat → Nat) (cA : Nat → ClassId) (z : Nat → Int32) (w : Nat → Int64) {i : Nat} (h : xP i) : xcell lay cA (i + 1) z w = .inl (cA 2, 4, .inl z) := by
  unfold xcell
  rw [if_neg (by omega), if_neg (by omega), if_neg (by omega), if_neg (by omega), if_neg (by omega), if_neg (by omega), if_neg (by omega), if_pos (by simpa using h)]
theorem xc_PAt (lay : Nat → Nat) (cA : Nat → ClassId) (z : Nat → Int32) (w : Nat → Int64) {i : Nat} (h : xP i) : xcell lay cA (i + 2) z w = .inl (cA 4, 6, .inr (.inr (.inr (.inr (fun j => some (lay (i + 2 + 1 + 3 * j))))))) := by
  unfold xcell
  rw [if_neg (by omega), if_neg (by omega), if_neg (by omega), if_neg (by omega), if_neg (by omega), if_neg (by omega), if_neg (by omega), if_neg (by omega), if_pos (by simpa using h)]
theorem xc_RO (lay : Nat → Nat) (cA : Nat → ClassId) (z : Nat → Int32) (w : Nat → Int64) {i : Nat} (h : xR i) : xcell lay cA i z w = .inr (3, [.int (z 0), .int (z 1), .ref (lay (i + 1)), .ref (lay (i + 2)), .int (z 4)]) := by
  unfold xcell
  rw [if_neg (by omega), if_neg (by omega), if_neg (by omega), if_neg (by omega), if_neg (by omega), if_neg (by omega), if_neg (by omega), if_neg (by omega), if_neg (by omega), if_pos h]
theorem xc_ROn (lay : Nat → Nat) (cA : Nat → ClassId) (z : Nat → Int32) (w : Nat → Int64) {i : Nat} (h : xR i) : xcell lay cA (i + 1) z w = .inl (cA 1, xMost i, .inr (.inl w)) := by
  unfold xcell
  rw [if_neg (by omega), if_neg (by omega), if_neg (by omega), if_neg (by omega), if_neg (by omega), if_neg (by omega), if_neg (by omega), if_neg (by omega), if_neg (by omega), if_neg (by omega), if_pos (by simpa using h)]
  rfl
theorem xc_ROu (lay : Nat → Nat) (cA : Nat → ClassId) (z : Nat → Int32) (w : Nat → Int64) {i : Nat} (h : xR i) : xcell lay cA (i + 2) z w = .inl (cA 2, xMost i * xWid i, .inl z) := by
  unfold xcell
  rw [if_neg (by omega), if_neg (by omega), if_neg (by omega), if_neg (by omega), if_neg (by omega), if_neg (by omega), if_neg (by omega), if_neg (by omega), if_neg (by omega), if_neg (by omega), if_neg (by omega)]
  rfl
theorem xR_lt {i : Nat} (h : xR i) : i < 180 ∧ i + 1 < 180 ∧ i + 2 < 180 := by omega
theorem xP_lt {i : Nat} (h : xP i) : i < 180 ∧ i + 1 < 180 ∧ i + 2 < 180 := by omega
def xw (lay : Nat → Nat) (cA : Nat → ClassId) (S : XS) : va_W := xW 180 lay (fun i => xcell lay cA i (S.1 i) (S.2 i))
abbrev xI (lay : Nat → Nat) : Nat → Prop := xIn 180 lay
abbrev xtys (cA : Nat → ClassId) : List (ClassId × FieldType) := [(cA 0, .byte), (cA 1, .long), (cA 2, .int), (cA 3, .object "ConfigTexts$Partition"), (cA 4, .object "ConfigTexts$Rows")]
theorem xw_at {lay : Nat → Nat} {cA : Nat → ClassId} {S : XS} {i : Nat} {e : va_E} (h : i < 180) (he : xcell lay cA i (S.1 i) (S.2 i) = e) : (xw lay cA S)[i]? = some (lay i, e) := xW_at h he
theorem xw_pi {lay : Nat → Nat} {cA : Nat → ClassId} {S : XS} {i j : Nat} {v : Int32} {e : va_E} (h : xcell lay cA i (up2 S.1 i j v i) (S.2 i) = e) : (xw lay cA S).set i (lay i, e) = xw lay cA (xpi S i j v) :=
  xW_set h (fun k hk => by show xcell lay cA k (up2 S.1 i j v k) (S.2 k) = _; rw [up2_row _ _ _ hk])
theorem xw_pl {lay : Nat → Nat} {cA : Nat → ClassId} {S : XS} {i j : Nat} {v : Int64} {e : va_E} (h : xcell lay cA i (S.1 i) (up2 S.2 i j v i) = e) : (xw lay cA S).set i (lay i, e) = xw lay cA (xpl S i j v) :=
  xW_set h (fun k hk => by show xcell lay cA k (S.1 k) (up2 S.2 i j v k) = _; rw [up2_row _ _ _ hk])
/-- nest mates' links -/
def xisN : Cond → Bool
  | .fieldLinkNest .. => true
  | _ => false
def xN : List Cond := tables_1.filter xisN
theorem xN_of {w : Cond} (i : Nat) (h : tables_1[i]? = some w) (g : xisN w = true) : w ∈ xN := List.mem_filter.mpr ⟨List.mem_of_getElem? h, g⟩
theorem xN_on {w : Cond} (h : w ∈ xN) : w.onTables = true := by
  have h2 := (List.mem_filter.mp h).2
  cases w <;> first | rfl | (simp [xisN] at h2)
theorem xN_warm {w : Cond} (h : w ∈ xN) {s U : State} (hW : s.WarmedH U.vm) (hs : va_Nw w s) : va_Nw w U := by
  have h2 := (List.mem_filter.mp h).2
  cases w <;> first | exact va_Nw.warmF hW hs | (simp [xisN] at h2)
/-- the literals: lengths and bytes, each by its number; where they stand: owner, entry, text, number -/
abbrev xnl : Nat := 28
def xlen : List Nat := [7, 20, 9, 163, 1, 6, 1, 1, 41, 5, 8, 6, 8, 7, 7, 1, 6, 16, 6, 26, 37, 7, 5, 1, 1, 6, 1, 5]
def xbyt : List (List Int32) := [[123, 125, 59, 58, 46, 44, 62], [116, 104, 101, 32, 116, 101, 120, 116, 32, 104, 97, 115, 32, 97, 32, 102, 97, 117, 108, 116], [112, 97, 114, 116, 105, 116, 105, 111, 110], [112, 97, 114, 116, 105, 116, 105, 111, 110, 32, 109, 101, 109, 111, 114, 121, 32, 112, 114, 111, 99, 101, 115, 115, 32, 101, 110, 116, 114, 121, 32, 112, 114, 105, 111, 114, 105, 116, 121, 32, 112, 101, 114, 105, 111, 100, 32, 100, 101, 97, 100, 108, 105, 110, 101, 32, 104, 97, 110, 100, 108, 101, 114, 32, 115, 116, 111, 112, 112, 101, 100, 32, 115, 101, 109, 97, 112, 104, 111, 114, 101, 32, 101, 118, 101, 110, 116, 32, 98, 117, 102, 102, 101, 114, 32, 98, 111, 97, 114, 100, 32, 112, 111, 114, 116, 32, 105, 110, 32, 111, 117, 116, 32, 101, 114, 114, 111, 114, 115, 32, 99, 104, 97, 110, 110, 101, 108, 32, 115, 97, 109, 112, 108, 105, 110, 103, 32, 113, 117, 101, 117, 105, 110, 103, 32, 105, 110, 112, 117, 116, 32, 111, 117, 116, 112, 117, 116, 32, 102, 114, 97, 109, 101], [123], [109, 101, 109, 111, 114, 121], [59], [125], [112, 114, 111, 99, 101, 115, 115, 32, 115, 101, 109, 97, 112, 104, 111, 114, 101, 32, 101, 118, 101, 110, 116, 32, 98, 117, 102, 102, 101, 114, 32, 98, 111, 97, 114, 100, 32, 112, 111, 114, 116], [101, 110, 116, 114, 121], [112, 114, 105, 111, 114, 105, 116, 121], [112, 101, 114, 105, 111, 100], [100, 101, 97, 100, 108, 105, 110, 101], [104, 97, 110, 100, 108, 101, 114], [115, 116, 111, 112, 112, 101, 100], [58], [105, 110, 32, 111, 117, 116], [115, 97, 109, 112, 108, 105, 110, 103, 32, 113, 117, 101, 117, 105, 110, 103], [101, 114, 114, 111, 114, 115], [105, 108, 108, 101, 103, 97, 108, 32, 109, 101, 109, 111, 114, 121, 32, 108, 97, 116, 101, 32, 114, 97, 105, 115, 101, 100], [115, 107, 105, 112, 32, 115, 116, 111, 112, 32, 97, 103, 97, 105, 110, 32, 119, 97, 114, 109, 32, 99, 111, 108, 100, 32, 105, 100, 108, 101, 32, 104, 97, 110, 100, 108, 101], [99, 104, 97, 110, 110, 101, 108], [105, 110, 112, 117, 116], [46], [62], [111, 117, 116, 112, 117, 116], [44], [102, 114, 97, 109, 101]]
def xlits : List (String × Nat × String × Nat) := [("ConfigTexts$Words", 64, "{};:.,>", 0), ("ConfigTexts$Words", 45, "the text has a fault", 1), ("ConfigTexts", 53, "partition", 2), ("ConfigTexts$Reader", 92, "partition", 2), ("ConfigTexts$Words", 97, "partition memory process entry priority period deadline handler stopped semaphore event buffer board port in out errors channel sampling queuing input output frame", 3), ("ConfigTexts$Reader", 117, "{", 4), ("ConfigTexts$Reader", 39, "memory", 5), ("ConfigTexts$Reader", 80, ";", 6), ("ConfigTexts$Reader", 49, "}", 7), ("ConfigTexts$Reader", 57, "process semaphore event buffer board port", 8), ("ConfigTexts$Reader", 145, "entry", 9), ("ConfigTexts$Reader", 150, "priority", 10), ("ConfigTexts$Reader", 152, "period", 11), ("ConfigTexts$Reader", 155, "deadline", 12), ("ConfigTexts$Reader", 157, "handler", 13), ("ConfigTexts$Reader", 161, "stopped", 14), ("ConfigTexts$Reader", 163, ":", 15), ("ConfigTexts$Reader", 171, "in out", 16), ("ConfigTexts$Reader", 176, "sampling queuing", 17), ("ConfigTexts$Reader", 178, "errors", 18), ("ConfigTexts$Reader", 180, "illegal memory late raised", 19), ("ConfigTexts$Reader", 189, "skip stop again warm cold idle handle", 20), ("ConfigTexts", 62, "channel", 21), ("ConfigTexts$Reader", 198, "channel", 21), ("ConfigTexts$Reader", 200, "input", 22), ("ConfigTexts$Reader", 224, ".", 23), ("ConfigTexts$Reader", 209, ">", 24), ("ConfigTexts$Reader", 214, "output", 25), ("ConfigTexts$Reader", 216, ",", 26), ("ConfigTexts$Reader", 236, "frame", 27)]
abbrev xthrown : List Cond := Bundle.ownAtoms "ConfigTexts$Words" 47 "java/lang/IllegalArgumentException" ["java/lang/RuntimeException", "java/lang/Exception"]
/-- what the first state s0 (the law's own start) is -/
def xF (D : va_G) (lay : Nat → Nat) (cA : Nat → ClassId) (adK adV : Nat → Nat) (s0 : State) : Prop :=
  va_K D xcl (xtys cA) s0 ∧ xInj 180 lay ∧ (∀ i, i < 180 → s0.heap.size ≤ lay i) ∧ (∀ w ∈ xN, va_Nw w s0) ∧
  (∀ i, i < xnl → va_O "java/lang/String" (adK i) (fun q => s0.heap.size ≤ q) s0 s0.heap ∧ va_OF "java/lang/String" "coder" "B" (.int 0) (adK i) (fun q => s0.heap.size ≤ q) s0 s0.heap ∧ va_OF "java/lang/String" "value" "[B" (.ref (adV i)) (adK i) (fun q => s0.heap.size ≤ q) s0 s0.heap ∧ va_T .byte (adV i) (xlen.getD i 0) (fun j => .int ((xbyt.getD i []).getD j 0)) (fun q => s0.heap.size ≤ q) s0 s0.heap) ∧
  (∀ q ∈ xlits, vk_R q.1 q.2.1 q.2.2.1 (adK q.2.2.2) s0) ∧ va_Z "java/lang/String" "COMPACT_STRINGS" "Z" (.int 1) (fun q => s0.heap.size ≤ q) s0 s0.heap ∧ va_Zq "jdk/internal/util/Preconditions" "SIOOBE_FORMATTER" "Ljava/util/function/BiFunction;" (fun q => s0.heap.size ≤ q) s0 s0.heap ∧
  (∀ w ∈ xthrown, w.before #[] s0 = true)
/-- what a state must be, beside the cells: it has come from s0, and nothing old was written -/
def xE (D : va_G) (lay : Nat → Nat) (cA : Nat → ClassId) (adK adV : Nat → Nat) (s0 : State) (U : State) (H : Heap) : Prop :=
  xF D lay cA adK adV s0 ∧ s0.WarmedH U.vm ∧ ∀ q : Nat, q < s0.heap.size → H[q]? = s0.heap[q]?
section XE
variable {D : va_G} {lay : Nat → Nat} {cA : Nat → ClassId} {adK adV : Nat → Nat} {s0 : State} {s U : State} {H H1 : Heap} {locs : List Loc} {S : XS}
theorem xE.K (h : xE D lay cA adK adV s0 U H) : va_K D xcl (xtys cA) U := va_K.moved h.2.1.alike h.1.1
theorem xE.inj (h : xE D lay cA adK adV s0 U H) : xInj 180 lay := h.1.2.1
theorem xE.far (h : xE D lay cA adK adV s0 U H) : ∀ q, xI lay q → s0.heap.size ≤ q := fun q hq => by
  obtain ⟨i, hi, rfl⟩ := hq
  exact h.1.2.2.1 i hi
theorem xE.keep (h : xE D lay cA adK adV s0 U H) : ∀ a : Nat, a < s0.heap.size → ¬ (fun q => s0.heap.size ≤ q) a → H[a]? = s0.heap[a]? := fun a ha _ => h.2.2 a ha
theorem xE.nest (h : xE D lay cA adK adV s0 U H) {w : Cond} (hw : w ∈ xN) {args : Array Value} : w.before args U = true := va_Nw.use (xN_on hw) (xN_warm hw h.2.1 (h.1.2.2.2.1 w hw))
theorem xE.dd (h : xE D lay cA adK adV s0 U H) : va_D (xI lay) (xw lay cA S) := xW_D h.inj
theorem xE.str (h : xE D lay cA adK adV s0 U H) {i : Nat} (hi : i < xnl) : va_O "java/lang/String" (adK i) (xI lay) U H ∧ va_OF "java/lang/String" "coder" "B" (.int 0) (adK i) (xI lay) U H ∧ va_OF "java/lang/String" "value" "[B" (.ref (adV i)) (adK i) (xI lay) U H ∧ va_T .byte (adV i) (xlen.getD i 0) (fun j => .int ((xbyt.getD i []).getD j 0)) (xI lay) U H := by
  obtain ⟨h1, h2, h3, h4⟩ := h.1.2.2.2.2.1 i hi
  exact ⟨((va_O.moved h.2.1.alike h1).kept h.keep).narrow h.far, ((va_OF.moved h.2.1.alike h2).kept h.keep).narrow h.far, ((va_OF.moved h.2.1.alike h3).kept h.keep).narrow h.far, ((va_T.moved h.2.1.alike h4).kept h.keep).narrow h.far⟩
theorem xE.lit (h : xE D lay cA adK adV s0 U H) {own tx : String} {k i : Nat} (hm : (own, k, tx, i) ∈ xlits) : vk_R own k tx (adK i) U := vk_R.warm h.2.1 (h.1.2.2.2.2.2.1 _ hm)
theorem xE.cs (h : xE D lay cA adK adV s0 U H) : va_Z "java/lang/String" "COMPACT_STRINGS" "Z" (.int 1) (xI lay) U H := ((va_Z.moved h.2.1.alike h.1.2.2.2.2.2.2.1).kept h.keep).narrow h.far
theorem xE.sio (h : xE D lay cA adK adV s0 U H) : va_Zq "jdk/internal/util/Preconditions" "SIOOBE_FORMATTER" "Ljava/util/function/BiFunction;" (xI lay) U H := ((va_Zq.moved h.2.1.alike h.1.2.2.2.2.2.2.2.1).kept h.keep).narrow h.far
theorem xE.warm (h : xE D lay cA adK adV s0 s H) (hk : ∀ q : Nat, q < H.size → ¬ xI lay q → H1[q]? = H[q]?) (hW : s.WarmedH U.vm) : xE D lay cA adK adV s0 U H1 := by
  refine ⟨h.1, State.WarmedH.trans h.2.1 hW, fun q hq => ?_⟩
  have h1 := h.2.2 q hq
  have hlt : q < H.size := by
    rcases Nat.lt_or_ge q H.size with z | z
    · exact z
    · rw [Array.getElem?_eq_none z, Array.getElem?_eq_getElem hq] at h1
      cases h1
  rw [hk q hlt (fun z => absurd (h.far q z) (Nat.not_le.mpr hq))]
  exact h1
theorem xE.calling (h : xE D lay cA adK adV s0 U H) (g : JFrame) (mk : MethodId) (a : Array Value) : xE D lay cA adK adV s0 (U.calling g mk a) H := ⟨h.1, h.2.1, h.2.2⟩
end XE
/-- a method's start over the class's world -/
def xPc (D : va_G) (lay : Nat → Nat) (cA : Nat → ClassId) (adK adV : Nat → Nat) (s0 : State) (S : XS) (av : List Value) : Array Value → State → Prop := va_Pc av (fun U => va_P D xcl (xw lay cA S) U.heap ∧ xE D lay cA adK adV s0 U U.heap)
theorem xPc_blind (D : va_G) (lay : Nat → Nat) (cA : Nat → ClassId) (adK adV : Nat → Nat) (s0 : State) (S : XS) (av : List Value) : FrameBlind (xPc D lay cA adK adV s0 S av) := fun a U g mk q => by
  obtain ⟨q0, qP, qE⟩ := q
  exact ⟨q0, qP, qE.calling g mk a⟩
theorem xPc_at {D : va_G} {lay : Nat → Nat} {cA : Nat → ClassId} {adK adV : Nat → Nat} {s0 : State} {S : XS} {s : State} {H : Heap} {locs : List Loc} (av : List Value) (E : xE D lay cA adK adV s0 s s.heap) (hP : va_P D xcl (xw lay cA S) H) (hS : va_S (xI lay) s.heap H locs) : ∀ U : State, U.heap = H → s.WarmedH U.vm → xPc D lay cA adK adV s0 S av av.toArray U :=
  fun U hU hW => ⟨rfl, by rw [hU]; exact hP, by rw [hU]; exact E.warm hS.2.1 hW⟩
/-- ends of methods that do not throw -/
def xqi (D : va_G) (lay : Nat → Nat) (cA : Nat → ClassId) (r : Int32) (S : XS) : Array Value → State → Outcome → State → Prop := va_Qi (fun r' (_ : Unit) => r' = r) (fun _ t => va_P D xcl (xw lay cA S) t.heap) (xI lay)
def xql (D : va_G) (lay : Nat → Nat) (cA : Nat → ClassId) (r : Int64) (S : XS) : Array Value → State → Outcome → State → Prop := va_Ql (fun r' (_ : Unit) => r' = r) (fun _ t => va_P D xcl (xw lay cA S) t.heap) (xI lay)
def xqv (D : va_G) (lay : Nat → Nat) (cA : Nat → ClassId) (S : XS) : Array Value → State → Outcome → State → Prop := va_Qv (fun _ : Unit => True) (fun _ t => va_P D xcl (xw lay cA S) t.heap) (xI lay)
def xqo (D : va_G) (lay : Nat → Nat) (cA : Nat → ClassId) (r : Option Nat) (S : XS) : Array Value → State → Outcome → State → Prop := fun _ st oc t => (oc = .returned (some (va_rf (r.map lay))) ∧ va_P D xcl (xw lay cA S) t.heap) ∧ va_F (xI lay) st t
/-- what a method's walk is given, once -/
def xB (p : Program) (s : State) (m : MethodId) (args : Array Value) (meth : Method) (c : Code) (own : String) (cc : ByteArray) (ret : Option FieldType) (nL : Nat) : Prop :=
  p.tables.exec = Jvm.exec ∧ c.code = cc ∧ meth.sig.returnType = ret ∧ c.maxLocals = nL ∧ s.vm.findClass own = some m.cls ∧ (∀ w ∈ xT, w.before args s = true) ∧ meth.locks = false ∧ c.exceptionTable.isEmpty = true
theorem xB_of {p : Program} {l : Launch} {y : MethodName} {rm : Room} {cc : ByteArray} {nL : Nat} {ret : Option FieldType} {e : Env} {s : State} {m : MethodId} {args : Array Value} {below : List Frame} {meth : Method} {c : Code} {s₁ : State}
    (B : BodyLoose p l y (headSpec (.code y cc nL ret :: xT) rm) cc nL ret e s m args below meth c s₁) (hml : c.maxLocals = nL) : xB p s m args meth c y.cls cc ret nL := by
  have hts := atoms_spec (ws := .code y cc nL ret :: xT) B.pre
  exact ⟨B.exec, B.bytes, B.returns, hml, findClass_of_methodNamed B.named, fun w hw => hts w (List.mem_cons_of_mem _ hw), B.notSynchronized, B.noHandlers (hts _ List.mem_cons_self)⟩
section XC
variable {p : Program} {l : Launch} {e : Env} {R : Room} {s : State} {m : MethodId} {args : Array Value} {below : List Frame} {meth : Method} {c : Code} {H : Heap} {locs : List Loc} {cells slots : Nat} {Q : State → Prop}
variable {pc : Nat} {ls : Array Slot} {rest st0 : List Value} {a : Array Value} {D : va_G} {lay : Nat → Nat} {cA : Nat → ClassId} {adK adV : Nat → Nat} {s0 : State} {S : XS}
/-- behind calls -/
theorem xc_i {r : Int32} (hr : va_Run p l e R s m args below meth c H locs cells slots 0 0 (F0 m pc ls st0) rest (xqi D lay cA r S a) (xI lay)) (hS : va_S (xI lay) s.heap H locs)
    (kk : ∀ (H : Heap) (locs : List Loc), va_P D xcl (xw lay cA S) H → va_S (xI lay) s.heap H locs → W p l e R s m args below meth c H locs cells slots Q (F0 m (pc + 3) ls (.int r :: rest))) : W p l e R s m args below meth c H locs cells slots Q (F0 m pc ls st0) :=
  va_calli hr hS (fun _ _ h => h) (fun _ h => h) (fun r u t H1 locs1 ht _ hw hB _ _ hS1 => by subst hw; rw [ht] at hB; exact kk H1 locs1 hB hS1)
theorem xc_l {r : Int64} (hr : va_Run p l e R s m args below meth c H locs cells slots 0 0 (F0 m pc ls st0) rest (xql D lay cA r S a) (xI lay)) (hS : va_S (xI lay) s.heap H locs)
    (kk : ∀ (H : Heap) (locs : List Loc), va_P D xcl (xw lay cA S) H → va_S (xI lay) s.heap H locs → W p l e R s m args below meth c H locs cells slots Q (F0 m (pc + 3) ls (.long r :: rest))) : W p l e R s m args below meth c H locs cells slots Q (F0 m pc ls st0) :=
  va_calll hr hS (fun _ _ h => h) (fun _ h => h) (fun r u t H1 locs1 ht _ hw hB _ _ hS1 => by subst hw; rw [ht] at hB; exact kk H1 locs1 hB hS1)
theorem xc_v (hr : va_Run p l e R s m args below meth c H locs cells slots 0 0 (F0 m pc ls st0) rest (xqv D lay cA S a) (xI lay)) (hS : va_S (xI lay) s.heap H locs)
    (kk : ∀ (H : Heap) (locs : List Loc), va_P D xcl (xw lay cA S) H → va_S (xI lay) s.heap H locs → W p l e R s m args below meth c H locs cells slots Q (F0 m (pc + 3) ls rest)) : W p l e R s m args below meth c H locs cells slots Q (F0 m pc ls st0) :=
  va_callv hr hS (fun _ _ h => h) (fun _ h => h) (fun u t H1 locs1 ht _ _ hB _ _ hS1 => by rw [ht] at hB; exact kk H1 locs1 hB hS1)
theorem xc_o {r : Option Nat} (hr : va_Run p l e R s m args below meth c H locs cells slots 0 0 (F0 m pc ls st0) rest (xqo D lay cA r S a) (xI lay)) (hS : va_S (xI lay) s.heap H locs)
    (kk : ∀ (H : Heap) (locs : List Loc), va_P D xcl (xw lay cA S) H → va_S (xI lay) s.heap H locs → W p l e R s m args below meth c H locs cells slots Q (F0 m (pc + 3) ls (va_rf (r.map lay) :: rest))) : W p l e R s m args below meth c H locs cells slots Q (F0 m pc ls st0) := by
  intro T hT X
  obtain ⟨v, st₀, t, T', L, h0, X', hL, e1, e2, ⟨⟨hv, hb⟩, hz, hk⟩, st⟩ := hr T hT X
  cases hv
  rw [h0] at hz hk
  rw [← e1] at hb
  obtain ⟨t2, a1, b1⟩ := kk T'.heap (locs ++ L) hb
    ⟨Nat.le_trans hS.1 (by rw [e1]; exact hz), fun q h1 h2 => by rw [e1, hk q (Nat.lt_of_lt_of_le h1 hS.1) h2]; exact hS.2.1 q h1 h2, fun q hq => by
      rcases List.mem_append.mp hq with h | h
      · exact hS.2.2 q h
      · exact hL q h⟩ T' rfl X'
  exact ⟨t2, st t2 a1, b1⟩
/-- a call's start: the receiver, the world -/
theorem xpV {C : String} {T : u_T} {N ci b : Nat} {fs As : List Value} (E : xE D lay cA adK adV s0 s s.heap) (hP : va_P D xcl (xw lay cA S) H) (hS : va_S (xI lay) s.heap H locs) (hb : b < 180) (he : xcell lay cA b (S.1 b) (S.2 b) = .inr (ci, fs)) (hc : xcl[ci]? = some (C, T, N)) :
    PreV s H C (lay b) (xPc D lay cA adK adV s0 S (.ref (lay b) :: As)) As :=
  ⟨xPc_blind D lay cA adK adV s0 S _, va_recv (q := (C, T, N)) E.K hP hc (xw_at hb he), xPc_at (.ref (lay b) :: As) E hP hS⟩
theorem xpS {As : List Value} (E : xE D lay cA adK adV s0 s s.heap) (hP : va_P D xcl (xw lay cA S) H) (hS : va_S (xI lay) s.heap H locs) : PreS s H (xPc D lay cA adK adV s0 S As) As :=
  ⟨xPc_blind D lay cA adK adV s0 S _, xPc_at As E hP hS⟩
theorem xpT {C : String} {b : Nat} {As : List Value} (E : xE D lay cA adK adV s0 s s.heap) (hP : va_P D xcl (xw lay cA S) H) (hS : va_S (xI lay) s.heap H locs) (hb : b < xnl) (hC : C = "java/lang/String") :
    PreV s H C (adK b) (xPc D lay cA adK adV s0 S (.ref (adK b) :: As)) As := by
  subst hC
  obtain ⟨cell, h1, h2, h3, h4⟩ := (E.str hb).1
  exact ⟨xPc_blind D lay cA adK adV s0 S _, ⟨cell, by rw [hS.2.1 _ (Array.getElem?_eq_some_iff.mp h1).1 h4]; exact h1, h2, h3⟩, xPc_at (.ref (adK b) :: As) E hP hS⟩
/-- ends of methods that may throw: the word's value says which -/
def xri (D : va_G) (lay : Nat → Nat) (cA : Nat → ClassId) (q : (Int32 × XS) ⊕ XS) : State → Option Value → State → Prop := fun st v t => (∃ r S', q = .inl (r, S') ∧ v = some (.int r) ∧ va_P D xcl (xw lay cA S') t.heap) ∧ va_F (xI lay) st t
def xrl (D : va_G) (lay : Nat → Nat) (cA : Nat → ClassId) (q : (Int64 × XS) ⊕ XS) : State → Option Value → State → Prop := fun st v t => (∃ r S', q = .inl (r, S') ∧ v = some (.long r) ∧ va_P D xcl (xw lay cA S') t.heap) ∧ va_F (xI lay) st t
def xrr (D : va_G) (lay : Nat → Nat) (cA : Nat → ClassId) (q : (Nat × XS) ⊕ XS) : State → Option Value → State → Prop := fun st v t => (∃ r S', q = .inl (r, S') ∧ v = some (.ref (lay r)) ∧ va_P D xcl (xw lay cA S') t.heap) ∧ va_F (xI lay) st t
def xrv (D : va_G) (lay : Nat → Nat) (cA : Nat → ClassId) (q : (Unit × XS) ⊕ XS) : State → Option Value → State → Prop := fun st v t => (∃ r S', q = .inl (r, S') ∧ v = none ∧ va_P D xcl (xw lay cA S') t.heap) ∧ va_F (xI lay) st t
def xex (x : Nat) (vm : Vm) (H : Heap) : Prop := ∃ ce : Cell, H[x]? = some ce ∧ ce.vm = .none ∧ vm.findClass "java/lang/IllegalArgumentException" = some ce.cls
def xrt {α : Type} (D : va_G) (lay : Nat → Nat) (cA : Nat → ClassId) (q : (α × XS) ⊕ XS) : State → Addr → State → Prop := fun st x t => (∃ S', q = .inr S' ∧ va_P D xcl (xw lay cA S') t.heap ∧ xex x t.vm t.heap) ∧ va_F (xI lay) st t
theorem xkt {α β : Type} {q : (α × XS) ⊕ XS} {q' : (β × XS) ⊕ XS} {Qr : State → Option Value → State → Prop} {x : Addr} {st t : State} {H1 : Heap} {locs1 : List Loc} (hnh : c.exceptionTable.isEmpty = true) (hlk : meth.locks = false) (he : ∀ S', q = .inr S' → q' = .inr S') (ha : s.vm.Alike t.vm) (hq : xrt D lay cA q st x t) (ht : t.heap = H1) (hS : va_S (xI lay) s.heap H1 locs1) :
    WT p l e R s m args below meth c H1 locs1 (0 + 1) (0 + 6) (XF below Qr (xrt D lay cA q') s 0 0 1 6 (xI lay)) (F0 m pc ls rest) x := by
  obtain ⟨⟨S', e1, hp, ce, h1, h2, h3⟩, -⟩ := hq
  refine xleave (cells := 1) (slots := 6) hnh hlk (fun t' ht' hW => ⟨⟨S', he S' e1, ?_, ce, ?_, h2, ?_⟩, ⟨by rw [ht']; exact hS.1, fun z hz hn => by rw [ht']; exact hS.2.1 z hz hn⟩⟩) hS.2.2
  · rw [ht', ← ht]; exact hp
  · rw [ht', ← ht]; exact h1
  · rw [hW.alike.findClass, ← ha.findClass]; exact h3
end XC
section XK
variable {p : Program} {l : Launch} {e : Env} {R : Room} {s : State} {m : MethodId} {args : Array Value} {below : List Frame} {meth : Method} {c : Code} {H : Heap} {locs : List Loc} {pc : Nat} {ls : Array Slot} {rest st0 : List Value} {D : va_G} {lay : Nat → Nat} {cA : Nat → ClassId} {β : Type} {q' : (β × XS) ⊕ XS} {Qr : State → Option Value → State → Prop}
theorem xk_i {q : (Int32 × XS) ⊕ XS} (hr : xRun p l e R s m args below meth c H locs 0 0 0 0 1 6 (F0 m pc ls st0) rest (xri D lay cA q) (xrt D lay cA q) (xI lay)) (hS : va_S (xI lay) s.heap H locs) (hnh : c.exceptionTable.isEmpty = true) (hlk : meth.locks = false) (he : ∀ S', q = .inr S' → q' = .inr S')
    (kk : ∀ (r : Int32) (S' : XS), q = .inl (r, S') → ∀ (H : Heap) (locs : List Loc), va_P D xcl (xw lay cA S') H → va_S (xI lay) s.heap H locs → W p l e R s m args below meth c H locs 0 0 (XF below Qr (xrt D lay cA q') s 0 0 1 6 (xI lay)) (F0 m (pc + 3) ls (.int r :: rest))) :
    W p l e R s m args below meth c H locs 0 0 (XF below Qr (xrt D lay cA q') s 0 0 1 6 (xI lay)) (F0 m pc ls st0) :=
  xgo hr hS (fun _ h => h) (fun _ _ _ h => h.2) (fun _ _ _ h => h.2) (fun v st t H1 locs1 _ ht _ hq hS1 => by
    obtain ⟨⟨r, S', e1, rfl, hp⟩, -⟩ := hq
    rw [ht] at hp
    exact kk r S' e1 H1 locs1 hp hS1) (fun x st t H1 locs1 _ ht ha hq hS1 => xkt hnh hlk he ha hq ht hS1)
theorem xk_l {q : (Int64 × XS) ⊕ XS} (hr : xRun p l e R s m args below meth c H locs 0 0 0 0 1 6 (F0 m pc ls st0) rest (xrl D lay cA q) (xrt D lay cA q) (xI lay)) (hS : va_S (xI lay) s.heap H locs) (hnh : c.exceptionTable.isEmpty = true) (hlk : meth.locks = false) (he : ∀ S', q = .inr S' → q' = .inr S')
    (kk : ∀ (r : Int64) (S' : XS), q = .inl (r, S') → ∀ (H : Heap) (locs : List Loc), va_P D xcl (xw lay cA S') H → va_S (xI lay) s.heap H locs → W p l e R s m args below meth c H locs 0 0 (XF below Qr (xrt D lay cA q') s 0 0 1 6 (xI lay)) (F0 m (pc + 3) ls (.long r :: rest))) :
    W p l e R s m args below meth c H locs 0 0 (XF below Qr (xrt D lay cA q') s 0 0 1 6 (xI lay)) (F0 m pc ls st0) :=
  xgo hr hS (fun _ h => h) (fun _ _ _ h => h.2) (fun _ _ _ h => h.2) (fun v st t H1 locs1 _ ht _ hq hS1 => by
    obtain ⟨⟨r, S', e1, rfl, hp⟩, -⟩ := hq
    rw [ht] at hp
    exact kk r S' e1 H1 locs1 hp hS1) (fun x st t H1 locs1 _ ht ha hq hS1 => xkt hnh hlk he ha hq ht hS1)
theorem xk_r {q : (Nat × XS) ⊕ XS} (hr : xRun p l e R s m args below meth c H locs 0 0 0 0 1 6 (F0 m pc ls st0) rest (xrr D lay cA q) (xrt D lay cA q) (xI lay)) (hS : va_S (xI lay) s.heap H locs) (hnh : c.exceptionTable.isEmpty = true) (hlk : meth.locks = false) (he : ∀ S', q = .inr S' → q' = .inr S')
    (kk : ∀ (r : Nat) (S' : XS), q = .inl (r, S') → ∀ (H : Heap) (locs : List Loc), va_P D xcl (xw lay cA S') H → va_S (xI lay) s.heap H locs → W p l e R s m args below meth c H locs 0 0 (XF below Qr (xrt D lay cA q') s 0 0 1 6 (xI lay)) (F0 m (pc + 3) ls (.ref (lay r) :: rest))) :
    W p l e R s m args below meth c H locs 0 0 (XF below Qr (xrt D lay cA q') s 0 0 1 6 (xI lay)) (F0 m pc ls st0) :=
  xgo hr hS (fun _ h => h) (fun _ _ _ h => h.2) (fun _ _ _ h => h.2) (fun v st t H1 locs1 _ ht _ hq hS1 => by
    obtain ⟨⟨r, S', e1, rfl, hp⟩, -⟩ := hq
    rw [ht] at hp
    exact kk r S' e1 H1 locs1 hp hS1) (fun x st t H1 locs1 _ ht ha hq hS1 => xkt hnh hlk he ha hq ht hS1)
theorem xk_v {q : (Unit × XS) ⊕ XS} (hr : xRun p l e R s m args below meth c H locs 0 0 0 0 1 6 (F0 m pc ls st0) rest (xrv D lay cA q) (xrt D lay cA q) (xI lay)) (hS : va_S (xI lay) s.heap H locs) (hnh : c.exceptionTable.isEmpty = true) (hlk : meth.locks = false) (he : ∀ S', q = .inr S' → q' = .inr S')
    (kk : ∀ (r : Unit) (S' : XS), q = .inl (r, S') → ∀ (H : Heap) (locs : List Loc), va_P D xcl (xw lay cA S') H → va_S (xI lay) s.heap H locs → W p l e R s m args below meth c H locs 0 0 (XF below Qr (xrt D lay cA q') s 0 0 1 6 (xI lay)) (F0 m (pc + 3) ls rest)) :
    W p l e R s m args below meth c H locs 0 0 (XF below Qr (xrt D lay cA q') s 0 0 1 6 (xI lay)) (F0 m pc ls st0) :=
  xgo hr hS (fun _ h => h) (fun _ _ _ h => h.2) (fun _ _ _ h => h.2) (fun v st t H1 locs1 _ ht _ hq hS1 => by
    obtain ⟨⟨r, S', e1, rfl, hp⟩, -⟩ := hq
    rw [ht] at hp
    exact kk r S' e1 H1 locs1 hp hS1) (fun x st t H1 locs1 _ ht ha hq hS1 => xkt hnh hlk he ha hq ht hS1)
end XK
def xT2 {α β : Type} (k : α → XS → Option ((β × XS) ⊕ XS)) : ((α × XS) ⊕ XS) → Option ((β × XS) ⊕ XS)
  | .inl q => k q.1 q.2
  | .inr S => some (.inr S)
theorem xif_t {α : Type} {c : Prop} [Decidable c] {a b : Option α} {r : α} (hc : c) (h : (if c then a else b) = some r) : a = some r := by rwa [if_pos hc] at h
theorem xif_f {α : Type} {c : Prop} [Decidable c] {a b : Option α} {r : α} (hc : ¬ c) (h : (if c then a else b) = some r) : b = some r := by rwa [if_neg hc] at h
end
section
/-! words that the walks use, each by its place -/
theorem wd_3 : (Jvm.Cond.initialized "ConfigTexts$Configuration") ∈ xT := xT_of 3 (by decide +kernel) (by decide +kernel)
theorem wd_4 : (Jvm.Cond.initialized "ConfigTexts$Partition") ∈ xT := xT_of 4 (by decide +kernel) (by decide +kernel)
theorem wd_5 : (Jvm.Cond.initialized "ConfigTexts$Rows") ∈ xT := xT_of 5 (by decide +kernel) (by decide +kernel)
theorem wd_8 : (Jvm.Cond.initialized "java/lang/Math") ∈ xT := xT_of 8 (by decide +kernel) (by decide +kernel)
theorem wd_9 : (Jvm.Cond.initialized "java/lang/String") ∈ xT := xT_of 9 (by decide +kernel) (by decide +kernel)
theorem wd_10 : (Jvm.Cond.initialized "java/lang/StringLatin1") ∈ xT := xT_of 10 (by decide +kernel) (by decide +kernel)
theorem wd_12 : (Jvm.Cond.initialized "jdk/internal/util/Preconditions") ∈ xT := xT_of 12 (by decide +kernel) (by decide +kernel)
theorem wd_88 : (Jvm.Cond.fieldLink "ConfigTexts$Rows" (9 : Nat) "ConfigTexts$Rows" "most" "I") ∈ xT := xT_of 88 (by decide +kernel) (by decide +kernel)
theorem wd_89 : (Jvm.Cond.fieldLink "ConfigTexts$Rows" (15 : Nat) "ConfigTexts$Rows" "width" "I") ∈ xT := xT_of 89 (by decide +kernel) (by decide +kernel)
theorem wd_90 : (Jvm.Cond.fieldLink "ConfigTexts$Rows" (18 : Nat) "ConfigTexts$Rows" "names" "[J") ∈ xT := xT_of 90 (by decide +kernel) (by decide +kernel)
theorem wd_91 : (Jvm.Cond.fieldLink "ConfigTexts$Rows" (22 : Nat) "ConfigTexts$Rows" "numbers" "[I") ∈ xT := xT_of 91 (by decide +kernel) (by decide +kernel)
theorem wd_92 : (Jvm.Cond.fieldLink "ConfigTexts$Rows" (26 : Nat) "ConfigTexts$Rows" "count" "I") ∈ xT := xT_of 92 (by decide +kernel) (by decide +kernel)
theorem wd_109 : (Jvm.Cond.fieldLink "ConfigTexts$Partition" (30 : Nat) "ConfigTexts$Partition" "name" "J") ∈ xT := xT_of 109 (by decide +kernel) (by decide +kernel)
theorem wd_111 : (Jvm.Cond.fieldLink "ConfigTexts$Partition" (34 : Nat) "ConfigTexts$Partition" "memory" "I") ∈ xT := xT_of 111 (by decide +kernel) (by decide +kernel)
theorem wd_113 : (Jvm.Cond.fieldLink "ConfigTexts$Partition" (38 : Nat) "ConfigTexts$Partition" "handler" "I") ∈ xT := xT_of 113 (by decide +kernel) (by decide +kernel)
theorem wd_115 : (Jvm.Cond.fieldLink "ConfigTexts$Partition" (9 : Nat) "ConfigTexts$Partition" "actions" "[I") ∈ xT := xT_of 115 (by decide +kernel) (by decide +kernel)
theorem wd_116 : (Jvm.Cond.fieldLink "ConfigTexts$Partition" (17 : Nat) "ConfigTexts$Partition" "things" "[LConfigTexts$Rows;") ∈ xT := xT_of 116 (by decide +kernel) (by decide +kernel)
theorem wd_132 : (Jvm.Cond.fieldLink "ConfigTexts$Configuration" (11 : Nat) "ConfigTexts$Configuration" "partitions" "[LConfigTexts$Partition;") ∈ xT := xT_of 132 (by decide +kernel) (by decide +kernel)
theorem wd_133 : (Jvm.Cond.fieldLink "ConfigTexts$Configuration" (30 : Nat) "ConfigTexts$Configuration" "partitionCount" "I") ∈ xT := xT_of 133 (by decide +kernel) (by decide +kernel)
theorem wd_136 : (Jvm.Cond.fieldLink "ConfigTexts$Configuration" (23 : Nat) "ConfigTexts$Configuration" "channels" "LConfigTexts$Rows;") ∈ xT := xT_of 136 (by decide +kernel) (by decide +kernel)
theorem wd_139 : (Jvm.Cond.fieldLink "ConfigTexts$Configuration" (27 : Nat) "ConfigTexts$Configuration" "windows" "LConfigTexts$Rows;") ∈ xT := xT_of 139 (by decide +kernel) (by decide +kernel)
theorem wd_142 : (Jvm.Cond.fieldLink "ConfigTexts$Configuration" (37 : Nat) "ConfigTexts$Configuration" "fromInput" "I") ∈ xT := xT_of 142 (by decide +kernel) (by decide +kernel)
theorem wd_144 : (Jvm.Cond.fieldLink "ConfigTexts$Configuration" (40 : Nat) "ConfigTexts$Configuration" "toOutput" "I") ∈ xT := xT_of 144 (by decide +kernel) (by decide +kernel)
theorem wd_146 : (Jvm.Cond.fieldLink "ConfigTexts$Configuration" (43 : Nat) "ConfigTexts$Configuration" "ticks" "I") ∈ xT := xT_of 146 (by decide +kernel) (by decide +kernel)
theorem wd_245 : (Jvm.Cond.methodLink "ConfigTexts$Rows" (33 : Nat) ({ cls := "ConfigTexts$Rows", name := "holds", desc := "(II)Z" } : Jvm.MethodName)) ∈ xT := xT_of 245 (by decide +kernel) (by decide +kernel)
theorem wd_247 : (Jvm.Cond.instanceMethod ({ cls := "ConfigTexts$Rows", name := "holds", desc := "(II)Z" } : Jvm.MethodName)) ∈ xT := xT_of 247 (by decide +kernel) (by decide +kernel)
theorem wd_248 : (Jvm.Cond.code ({ cls := "ConfigTexts$Rows", name := "holds", desc := "(II)Z" } : Jvm.MethodName) prog_5_method_5_code (3 : Nat) (Option.some Jvm.ClassFile.FieldType.boolean)) ∈ xT := xT_of 248 (by decide +kernel) (by decide +kernel)
theorem wd_273 : (Jvm.Cond.methodLink "ConfigTexts$Configuration" (34 : Nat) ({ cls := "ConfigTexts$Rows", name := "clear", desc := "()V" } : Jvm.MethodName)) ∈ xT := xT_of 273 (by decide +kernel) (by decide +kernel)
theorem wd_274 : (Jvm.Cond.instanceMethod ({ cls := "ConfigTexts$Rows", name := "clear", desc := "()V" } : Jvm.MethodName)) ∈ xT := xT_of 274 (by decide +kernel) (by decide +kernel)
theorem wd_275 : (Jvm.Cond.selects "ConfigTexts$Rows" ({ cls := "ConfigTexts$Rows", name := "clear", desc := "()V" } : Jvm.MethodName) ({ cls := "ConfigTexts$Rows", name := "clear", desc := "()V" } : Jvm.MethodName)) ∈ xT := xT_of 275 (by decide +kernel) (by decide +kernel)
theorem wd_276 : (Jvm.Cond.code ({ cls := "ConfigTexts$Rows", name := "clear", desc := "()V" } : Jvm.MethodName) prog_5_method_2_code (1 : Nat) (Option.none : Option Jvm.ClassFile.FieldType)) ∈ xT := xT_of 276 (by decide +kernel) (by decide +kernel)
theorem wd_282 : (Jvm.Cond.static ({ cls := "java/lang/Math", name := "min", desc := "(II)I" } : Jvm.MethodName)) ∈ xT := xT_of 282 (by decide +kernel) (by decide +kernel)
theorem wd_283 : (Jvm.Cond.code ({ cls := "java/lang/Math", name := "min", desc := "(II)I" } : Jvm.MethodName) prog_12_method_69_code (2 : Nat) (Option.some Jvm.ClassFile.FieldType.int)) ∈ xT := xT_of 283 (by decide +kernel) (by decide +kernel)
theorem wd_296 : (Jvm.Cond.methodLink "java/lang/String" (633 : Nat) ({ cls := "java/lang/String", name := "indexOf", desc := "(II)I" } : Jvm.MethodName)) ∈ xT := xT_of 296 (by decide +kernel) (by decide +kernel)
theorem wd_297 : (Jvm.Cond.instanceMethod ({ cls := "java/lang/String", name := "indexOf", desc := "(II)I" } : Jvm.MethodName)) ∈ xT := xT_of 297 (by decide +kernel) (by decide +kernel)
theorem wd_298 : (Jvm.Cond.selects "java/lang/String" ({ cls := "java/lang/String", name := "indexOf", desc := "(II)I" } : Jvm.MethodName) ({ cls := "java/lang/String", name := "indexOf", desc := "(II)I" } : Jvm.MethodName)) ∈ xT := xT_of 298 (by decide +kernel) (by decide +kernel)
theorem wd_299 : (Jvm.Cond.code ({ cls := "java/lang/String", name := "indexOf", desc := "(II)I" } : Jvm.MethodName) prog_14_method_80_code (3 : Nat) (Option.some Jvm.ClassFile.FieldType.int)) ∈ xT := xT_of 299 (by decide +kernel) (by decide +kernel)
theorem wd_300 : (Jvm.Cond.methodLink "java/lang/String" (492 : Nat) ({ cls := "java/lang/String", name := "isLatin1", desc := "()Z" } : Jvm.MethodName)) ∈ xT := xT_of 300 (by decide +kernel) (by decide +kernel)
theorem wd_301 : (Jvm.Cond.instanceMethod ({ cls := "java/lang/String", name := "isLatin1", desc := "()Z" } : Jvm.MethodName)) ∈ xT := xT_of 301 (by decide +kernel) (by decide +kernel)
theorem wd_302 : (Jvm.Cond.selects "java/lang/String" ({ cls := "java/lang/String", name := "isLatin1", desc := "()Z" } : Jvm.MethodName) ({ cls := "java/lang/String", name := "isLatin1", desc := "()Z" } : Jvm.MethodName)) ∈ xT := xT_of 302 (by decide +kernel) (by decide +kernel)
theorem wd_303 : (Jvm.Cond.code ({ cls := "java/lang/String", name := "isLatin1", desc := "()Z" } : Jvm.MethodName) prog_14_method_154_code (1 : Nat) (Option.some Jvm.ClassFile.FieldType.boolean)) ∈ xT := xT_of 303 (by decide +kernel) (by decide +kernel)
theorem wd_304 : (Jvm.Cond.fieldLink "java/lang/String" (38 : Nat) "java/lang/String" "COMPACT_STRINGS" "Z") ∈ xT := xT_of 304 (by decide +kernel) (by decide +kernel)
theorem wd_306 : (Jvm.Cond.methodLink "java/lang/String" (505 : Nat) ({ cls := "java/lang/String", name := "length", desc := "()I" } : Jvm.MethodName)) ∈ xT := xT_of 306 (by decide +kernel) (by decide +kernel)
theorem wd_307 : (Jvm.Cond.instanceMethod ({ cls := "java/lang/String", name := "length", desc := "()I" } : Jvm.MethodName)) ∈ xT := xT_of 307 (by decide +kernel) (by decide +kernel)
theorem wd_308 : (Jvm.Cond.selects "java/lang/String" ({ cls := "java/lang/String", name := "length", desc := "()I" } : Jvm.MethodName) ({ cls := "java/lang/String", name := "length", desc := "()I" } : Jvm.MethodName)) ∈ xT := xT_of 308 (by decide +kernel) (by decide +kernel)
theorem wd_309 : (Jvm.Cond.code ({ cls := "java/lang/String", name := "length", desc := "()I" } : Jvm.MethodName) prog_14_method_54_code (1 : Nat) (Option.some Jvm.ClassFile.FieldType.int)) ∈ xT := xT_of 309 (by decide +kernel) (by decide +kernel)
theorem wd_310 : (Jvm.Cond.methodLink "java/lang/String" (335 : Nat) ({ cls := "java/lang/String", name := "coder", desc := "()B" } : Jvm.MethodName)) ∈ xT := xT_of 310 (by decide +kernel) (by decide +kernel)
theorem wd_311 : (Jvm.Cond.instanceMethod ({ cls := "java/lang/String", name := "coder", desc := "()B" } : Jvm.MethodName)) ∈ xT := xT_of 311 (by decide +kernel) (by decide +kernel)
theorem wd_312 : (Jvm.Cond.selects "java/lang/String" ({ cls := "java/lang/String", name := "coder", desc := "()B" } : Jvm.MethodName) ({ cls := "java/lang/String", name := "coder", desc := "()B" } : Jvm.MethodName)) ∈ xT := xT_of 312 (by decide +kernel) (by decide +kernel)
theorem wd_313 : (Jvm.Cond.code ({ cls := "java/lang/String", name := "coder", desc := "()B" } : Jvm.MethodName) prog_14_method_152_code (1 : Nat) (Option.some Jvm.ClassFile.FieldType.byte)) ∈ xT := xT_of 313 (by decide +kernel) (by decide +kernel)
theorem wd_314 : (Jvm.Cond.methodLink "java/lang/String" (637 : Nat) ({ cls := "java/lang/StringLatin1", name := "indexOf", desc := "([BIII)I" } : Jvm.MethodName)) ∈ xT := xT_of 314 (by decide +kernel) (by decide +kernel)
theorem wd_315 : (Jvm.Cond.static ({ cls := "java/lang/StringLatin1", name := "indexOf", desc := "([BIII)I" } : Jvm.MethodName)) ∈ xT := xT_of 315 (by decide +kernel) (by decide +kernel)
theorem wd_316 : (Jvm.Cond.code ({ cls := "java/lang/StringLatin1", name := "indexOf", desc := "([BIII)I" } : Jvm.MethodName) prog_15_method_22_code (4 : Nat) (Option.some Jvm.ClassFile.FieldType.int)) ∈ xT := xT_of 316 (by decide +kernel) (by decide +kernel)
theorem wd_317 : (Jvm.Cond.methodLink "java/lang/StringLatin1" (88 : Nat) ({ cls := "java/lang/StringLatin1", name := "canEncode", desc := "(I)Z" } : Jvm.MethodName)) ∈ xT := xT_of 317 (by decide +kernel) (by decide +kernel)
theorem wd_318 : (Jvm.Cond.static ({ cls := "java/lang/StringLatin1", name := "canEncode", desc := "(I)Z" } : Jvm.MethodName)) ∈ xT := xT_of 318 (by decide +kernel) (by decide +kernel)
theorem wd_319 : (Jvm.Cond.code ({ cls := "java/lang/StringLatin1", name := "canEncode", desc := "(I)Z" } : Jvm.MethodName) prog_15_method_4_code (1 : Nat) (Option.some Jvm.ClassFile.FieldType.boolean)) ∈ xT := xT_of 319 (by decide +kernel) (by decide +kernel)
theorem wd_320 : (Jvm.Cond.methodLink "java/lang/StringLatin1" (92 : Nat) ({ cls := "java/lang/Math", name := "max", desc := "(II)I" } : Jvm.MethodName)) ∈ xT := xT_of 320 (by decide +kernel) (by decide +kernel)
theorem wd_321 : (Jvm.Cond.static ({ cls := "java/lang/Math", name := "max", desc := "(II)I" } : Jvm.MethodName)) ∈ xT := xT_of 321 (by decide +kernel) (by decide +kernel)
theorem wd_322 : (Jvm.Cond.code ({ cls := "java/lang/Math", name := "max", desc := "(II)I" } : Jvm.MethodName) prog_12_method_65_code (2 : Nat) (Option.some Jvm.ClassFile.FieldType.int)) ∈ xT := xT_of 322 (by decide +kernel) (by decide +kernel)
theorem wd_323 : (Jvm.Cond.methodLink "java/lang/StringLatin1" (38 : Nat) ({ cls := "java/lang/Math", name := "min", desc := "(II)I" } : Jvm.MethodName)) ∈ xT := xT_of 323 (by decide +kernel) (by decide +kernel)
theorem wd_324 : (Jvm.Cond.methodLink "java/lang/StringLatin1" (95 : Nat) ({ cls := "java/lang/StringLatin1", name := "indexOfChar", desc := "([BIII)I" } : Jvm.MethodName)) ∈ xT := xT_of 324 (by decide +kernel) (by decide +kernel)
theorem wd_325 : (Jvm.Cond.static ({ cls := "java/lang/StringLatin1", name := "indexOfChar", desc := "([BIII)I" } : Jvm.MethodName)) ∈ xT := xT_of 325 (by decide +kernel) (by decide +kernel)
theorem wd_326 : (Jvm.Cond.code ({ cls := "java/lang/StringLatin1", name := "indexOfChar", desc := "([BIII)I" } : Jvm.MethodName) prog_15_method_23_code (6 : Nat) (Option.some Jvm.ClassFile.FieldType.int)) ∈ xT := xT_of 326 (by decide +kernel) (by decide +kernel)
theorem wd_345 : (Jvm.Cond.fieldLink "java/lang/String" (1053 : Nat) "jdk/internal/util/Preconditions" "SIOOBE_FORMATTER" "Ljava/util/function/BiFunction;") ∈ xT := xT_of 345 (by decide +kernel) (by decide +kernel)
theorem wd_468 : (Jvm.Cond.methodLink "java/lang/String" (495 : Nat) ({ cls := "java/lang/StringLatin1", name := "charAt", desc := "([BI)C" } : Jvm.MethodName)) ∈ xT := xT_of 468 (by decide +kernel) (by decide +kernel)
theorem wd_469 : (Jvm.Cond.static ({ cls := "java/lang/StringLatin1", name := "charAt", desc := "([BI)C" } : Jvm.MethodName)) ∈ xT := xT_of 469 (by decide +kernel) (by decide +kernel)
theorem wd_470 : (Jvm.Cond.code ({ cls := "java/lang/StringLatin1", name := "charAt", desc := "([BI)C" } : Jvm.MethodName) prog_15_method_2_code (2 : Nat) (Option.some Jvm.ClassFile.FieldType.char)) ∈ xT := xT_of 470 (by decide +kernel) (by decide +kernel)
theorem wd_471 : (Jvm.Cond.methodLink "java/lang/StringLatin1" (9 : Nat) ({ cls := "java/lang/String", name := "checkIndex", desc := "(II)V" } : Jvm.MethodName)) ∈ xT := xT_of 471 (by decide +kernel) (by decide +kernel)
theorem wd_472 : (Jvm.Cond.static ({ cls := "java/lang/String", name := "checkIndex", desc := "(II)V" } : Jvm.MethodName)) ∈ xT := xT_of 472 (by decide +kernel) (by decide +kernel)
theorem wd_473 : (Jvm.Cond.code ({ cls := "java/lang/String", name := "checkIndex", desc := "(II)V" } : Jvm.MethodName) prog_14_method_155_code (2 : Nat) (Option.none : Option Jvm.ClassFile.FieldType)) ∈ xT := xT_of 473 (by decide +kernel) (by decide +kernel)
theorem wd_474 : (Jvm.Cond.methodLink "java/lang/String" (1059 : Nat) ({ cls := "jdk/internal/util/Preconditions", name := "checkIndex", desc := "(IILjava/util/function/BiFunction;)I" } : Jvm.MethodName)) ∈ xT := xT_of 474 (by decide +kernel) (by decide +kernel)
theorem wd_475 : (Jvm.Cond.static ({ cls := "jdk/internal/util/Preconditions", name := "checkIndex", desc := "(IILjava/util/function/BiFunction;)I" } : Jvm.MethodName)) ∈ xT := xT_of 475 (by decide +kernel) (by decide +kernel)
theorem wd_476 : (Jvm.Cond.code ({ cls := "jdk/internal/util/Preconditions", name := "checkIndex", desc := "(IILjava/util/function/BiFunction;)I" } : Jvm.MethodName) prog_18_method_11_code (3 : Nat) (Option.some Jvm.ClassFile.FieldType.int)) ∈ xT := xT_of 476 (by decide +kernel) (by decide +kernel)
theorem wd_499 : (Jvm.Cond.instanceMethod ({ cls := "ConfigTexts$Configuration", name := "isFull", desc := "()Z" } : Jvm.MethodName)) ∈ xT := xT_of 499 (by decide +kernel) (by decide +kernel)
theorem wd_500 : (Jvm.Cond.selects "ConfigTexts$Configuration" ({ cls := "ConfigTexts$Configuration", name := "isFull", desc := "()Z" } : Jvm.MethodName) ({ cls := "ConfigTexts$Configuration", name := "isFull", desc := "()Z" } : Jvm.MethodName)) ∈ xT := xT_of 500 (by decide +kernel) (by decide +kernel)
theorem wd_501 : (Jvm.Cond.code ({ cls := "ConfigTexts$Configuration", name := "isFull", desc := "()Z" } : Jvm.MethodName) prog_2_method_3_code (1 : Nat) (Option.some Jvm.ClassFile.FieldType.boolean)) ∈ xT := xT_of 501 (by decide +kernel) (by decide +kernel)
theorem wd_516 : (Jvm.Cond.methodLink "ConfigTexts$Configuration" (46 : Nat) ({ cls := "ConfigTexts$Configuration", name := "isFull", desc := "()Z" } : Jvm.MethodName)) ∈ xT := xT_of 516 (by decide +kernel) (by decide +kernel)
theorem wd_517 : (Jvm.Cond.methodLink "ConfigTexts$Configuration" (50 : Nat) ({ cls := "ConfigTexts$Partition", name := "begin", desc := "(J)V" } : Jvm.MethodName)) ∈ xT := xT_of 517 (by decide +kernel) (by decide +kernel)
theorem wd_518 : (Jvm.Cond.instanceMethod ({ cls := "ConfigTexts$Partition", name := "begin", desc := "(J)V" } : Jvm.MethodName)) ∈ xT := xT_of 518 (by decide +kernel) (by decide +kernel)
theorem wd_519 : (Jvm.Cond.selects "ConfigTexts$Partition" ({ cls := "ConfigTexts$Partition", name := "begin", desc := "(J)V" } : Jvm.MethodName) ({ cls := "ConfigTexts$Partition", name := "begin", desc := "(J)V" } : Jvm.MethodName)) ∈ xT := xT_of 519 (by decide +kernel) (by decide +kernel)
theorem wd_520 : (Jvm.Cond.code ({ cls := "ConfigTexts$Partition", name := "begin", desc := "(J)V" } : Jvm.MethodName) prog_3_method_2_code (4 : Nat) (Option.none : Option Jvm.ClassFile.FieldType)) ∈ xT := xT_of 520 (by decide +kernel) (by decide +kernel)
theorem wd_521 : (Jvm.Cond.methodLink "ConfigTexts$Partition" (41 : Nat) ({ cls := "ConfigTexts$Rows", name := "clear", desc := "()V" } : Jvm.MethodName)) ∈ xT := xT_of 521 (by decide +kernel) (by decide +kernel)
theorem wd_548 : (Jvm.Cond.instanceMethod ({ cls := "ConfigTexts$Rows", name := "isFull", desc := "()Z" } : Jvm.MethodName)) ∈ xT := xT_of 548 (by decide +kernel) (by decide +kernel)
theorem wd_549 : (Jvm.Cond.selects "ConfigTexts$Rows" ({ cls := "ConfigTexts$Rows", name := "isFull", desc := "()Z" } : Jvm.MethodName) ({ cls := "ConfigTexts$Rows", name := "isFull", desc := "()Z" } : Jvm.MethodName)) ∈ xT := xT_of 549 (by decide +kernel) (by decide +kernel)
theorem wd_550 : (Jvm.Cond.code ({ cls := "ConfigTexts$Rows", name := "isFull", desc := "()Z" } : Jvm.MethodName) prog_5_method_3_code (1 : Nat) (Option.some Jvm.ClassFile.FieldType.boolean)) ∈ xT := xT_of 550 (by decide +kernel) (by decide +kernel)
theorem wd_555 : (Jvm.Cond.methodLink "ConfigTexts$Partition" (44 : Nat) ({ cls := "ConfigTexts$Rows", name := "find", desc := "(J)I" } : Jvm.MethodName)) ∈ xT := xT_of 555 (by decide +kernel) (by decide +kernel)
theorem wd_556 : (Jvm.Cond.instanceMethod ({ cls := "ConfigTexts$Rows", name := "find", desc := "(J)I" } : Jvm.MethodName)) ∈ xT := xT_of 556 (by decide +kernel) (by decide +kernel)
theorem wd_557 : (Jvm.Cond.selects "ConfigTexts$Rows" ({ cls := "ConfigTexts$Rows", name := "find", desc := "(J)I" } : Jvm.MethodName) ({ cls := "ConfigTexts$Rows", name := "find", desc := "(J)I" } : Jvm.MethodName)) ∈ xT := xT_of 557 (by decide +kernel) (by decide +kernel)
theorem wd_558 : (Jvm.Cond.code ({ cls := "ConfigTexts$Rows", name := "find", desc := "(J)I" } : Jvm.MethodName) prog_5_method_9_code (4 : Nat) (Option.some Jvm.ClassFile.FieldType.int)) ∈ xT := xT_of 558 (by decide +kernel) (by decide +kernel)
theorem wd_563 : (Jvm.Cond.methodLink "ConfigTexts$Rows" (29 : Nat) ({ cls := "ConfigTexts$Rows", name := "isFull", desc := "()Z" } : Jvm.MethodName)) ∈ xT := xT_of 563 (by decide +kernel) (by decide +kernel)
theorem wd_569 : (Jvm.Cond.methodLink "ConfigTexts$Rows" (37 : Nat) ({ cls := "ConfigTexts$Rows", name := "set", desc := "(III)V" } : Jvm.MethodName)) ∈ xT := xT_of 569 (by decide +kernel) (by decide +kernel)
theorem wd_570 : (Jvm.Cond.instanceMethod ({ cls := "ConfigTexts$Rows", name := "set", desc := "(III)V" } : Jvm.MethodName)) ∈ xT := xT_of 570 (by decide +kernel) (by decide +kernel)
theorem wd_571 : (Jvm.Cond.selects "ConfigTexts$Rows" ({ cls := "ConfigTexts$Rows", name := "set", desc := "(III)V" } : Jvm.MethodName) ({ cls := "ConfigTexts$Rows", name := "set", desc := "(III)V" } : Jvm.MethodName)) ∈ xT := xT_of 571 (by decide +kernel) (by decide +kernel)
theorem wd_572 : (Jvm.Cond.code ({ cls := "ConfigTexts$Rows", name := "set", desc := "(III)V" } : Jvm.MethodName) prog_5_method_7_code (4 : Nat) (Option.none : Option Jvm.ClassFile.FieldType)) ∈ xT := xT_of 572 (by decide +kernel) (by decide +kernel)
theorem wd_1024 : (Jvm.Cond.fieldLink "java/lang/String" (15 : Nat) "java/lang/String" "coder" "B") ∈ xT := xT_of 1024 (by decide +kernel) (by decide +kernel)
theorem wd_1025 : (Jvm.Cond.fieldLink "java/lang/String" (9 : Nat) "java/lang/String" "value" "[B") ∈ xT := xT_of 1025 (by decide +kernel) (by decide +kernel)
theorem wp_2 : (Jvm.Cond.selects "ConfigTexts$Rows" ({ cls := "ConfigTexts$Rows", name := "holds", desc := "(II)Z" } : Jvm.MethodName) ({ cls := "ConfigTexts$Rows", name := "holds", desc := "(II)Z" } : Jvm.MethodName)) ∈ xT := xT_ofp 2 (by decide +kernel) (by decide +kernel)
theorem wn_93 : (Jvm.Cond.fieldLinkNest "ConfigTexts$Partition" (48 : Nat) "ConfigTexts$Rows" "count" "I" "ConfigTexts") ∈ xN := xN_of 93 (by decide +kernel) (by decide +kernel)
theorem wn_94 : (Jvm.Cond.fieldLinkNest "ConfigTexts$Configuration" (58 : Nat) "ConfigTexts$Rows" "count" "I" "ConfigTexts") ∈ xN := xN_of 94 (by decide +kernel) (by decide +kernel)
theorem wn_110 : (Jvm.Cond.fieldLinkNest "ConfigTexts$Configuration" (54 : Nat) "ConfigTexts$Partition" "name" "J" "ConfigTexts") ∈ xN := xN_of 110 (by decide +kernel) (by decide +kernel)
end
section
/-! fields and arrays of the class's world: a row each -/
theorem xput_CF_1 {p : Program} {l : Launch} {e : Env} {R : Room} {s : State} {m : MethodId} {args : Array Value} {below : List Frame} {meth : Method} {c : Code} {H : Heap} {locs : List Loc} {cells slots : Nat} {Q : State → Prop} {cc : ByteArray} {pc : Nat} {ls : Array Slot} {rest : List Value} {D : va_G} {lay : Nat → Nat} {cA : Nat → ClassId} {adK adV : Nat → Nat} {s0 : State} {S : XS} {own : String} {index : Nat} {v : Int32} (hx : p.tables.exec = Jvm.exec) (hb : c.code = cc) (hts : ∀ w ∈ xT, w.before args s = true) (hown : s.vm.findClass own = some m.cls) (E : xE D lay cA adK adV s0 s s.heap) (hP : va_P D xcl (xw lay cA S) H) (hS : va_S (xI lay) s.heap H locs) (hlink : (Cond.fieldLink own index "ConfigTexts$Configuration" "partitionCount" "I").before args s = true) (hdg : decode cc pc = .ok (.putfield index, 3))
    (kk : ∀ (H : Heap) (locs : List Loc), va_P D xcl (xw lay cA (xpi S 3 1 v)) H → va_S (xI lay) s.heap H locs → W p l e R s m args below meth c H locs cells slots Q (F0 m (pc + 3) ls rest)) : W p l e R s m args below meth c H locs cells slots Q (F0 m pc ls (.int v :: .ref (lay 3) :: rest)) :=
  va_put (v := .int v) (ty := .int) (C := R_CF) (T := F_CF) (N := 7) hx hb hts i_CF t_CF t_CF_ok n_CF hown E.K hP E.dd hS 3 (xw_at (by decide) (xc_3 _ _ _ _)) rfl 1 (by decide) hlink (fun _ h9 => h9) rfl (by decide +kernel) rfl rfl (Nat.le_of_ble_eq_true rfl) hdg (fun H1 locs1 hP1 _ hS1 => kk H1 locs1 (by rw [xw_pi (j := 1) (v := v) (by rw [xc_3]; simp [up2])] at hP1; exact hP1) hS1)
theorem xput_CF_4 {p : Program} {l : Launch} {e : Env} {R : Room} {s : State} {m : MethodId} {args : Array Value} {below : List Frame} {meth : Method} {c : Code} {H : Heap} {locs : List Loc} {cells slots : Nat} {Q : State → Prop} {cc : ByteArray} {pc : Nat} {ls : Array Slot} {rest : List Value} {D : va_G} {lay : Nat → Nat} {cA : Nat → ClassId} {adK adV : Nat → Nat} {s0 : State} {S : XS} {own : String} {index : Nat} {v : Int32} (hx : p.tables.exec = Jvm.exec) (hb : c.code = cc) (hts : ∀ w ∈ xT, w.before args s = true) (hown : s.vm.findClass own = some m.cls) (E : xE D lay cA adK adV s0 s s.heap) (hP : va_P D xcl (xw lay cA S) H) (hS : va_S (xI lay) s.heap H locs) (hlink : (Cond.fieldLink own index "ConfigTexts$Configuration" "fromInput" "I").before args s = true) (hdg : decode cc pc = .ok (.putfield index, 3))
    (kk : ∀ (H : Heap) (locs : List Loc), va_P D xcl (xw lay cA (xpi S 3 4 v)) H → va_S (xI lay) s.heap H locs → W p l e R s m args below meth c H locs cells slots Q (F0 m (pc + 3) ls rest)) : W p l e R s m args below meth c H locs cells slots Q (F0 m pc ls (.int v :: .ref (lay 3) :: rest)) :=
  va_put (v := .int v) (ty := .int) (C := R_CF) (T := F_CF) (N := 7) hx hb hts i_CF t_CF t_CF_ok n_CF hown E.K hP E.dd hS 3 (xw_at (by decide) (xc_3 _ _ _ _)) rfl 4 (by decide) hlink (fun _ h9 => h9) rfl (by decide +kernel) rfl rfl (Nat.le_of_ble_eq_true rfl) hdg (fun H1 locs1 hP1 _ hS1 => kk H1 locs1 (by rw [xw_pi (j := 4) (v := v) (by rw [xc_3]; simp [up2])] at hP1; exact hP1) hS1)
theorem xput_CF_5 {p : Program} {l : Launch} {e : Env} {R : Room} {s : State} {m : MethodId} {args : Array Value} {below : List Frame} {meth : Method} {c : Code} {H : Heap} {locs : List Loc} {cells slots : Nat} {Q : State → Prop} {cc : ByteArray} {pc : Nat} {ls : Array Slot} {rest : List Value} {D : va_G} {lay : Nat → Nat} {cA : Nat → ClassId} {adK adV : Nat → Nat} {s0 : State} {S : XS} {own : String} {index : Nat} {v : Int32} (hx : p.tables.exec = Jvm.exec) (hb : c.code = cc) (hts : ∀ w ∈ xT, w.before args s = true) (hown : s.vm.findClass own = some m.cls) (E : xE D lay cA adK adV s0 s s.heap) (hP : va_P D xcl (xw lay cA S) H) (hS : va_S (xI lay) s.heap H locs) (hlink : (Cond.fieldLink own index "ConfigTexts$Configuration" "toOutput" "I").before args s = true) (hdg : decode cc pc = .ok (.putfield index, 3))
    (kk : ∀ (H : Heap) (locs : List Loc), va_P D xcl (xw lay cA (xpi S 3 5 v)) H → va_S (xI lay) s.heap H locs → W p l e R s m args below meth c H locs cells slots Q (F0 m (pc + 3) ls rest)) : W p l e R s m args below meth c H locs cells slots Q (F0 m pc ls (.int v :: .ref (lay 3) :: rest)) :=
  va_put (v := .int v) (ty := .int) (C := R_CF) (T := F_CF) (N := 7) hx hb hts i_CF t_CF t_CF_ok n_CF hown E.K hP E.dd hS 3 (xw_at (by decide) (xc_3 _ _ _ _)) rfl 5 (by decide) hlink (fun _ h9 => h9) rfl (by decide +kernel) rfl rfl (Nat.le_of_ble_eq_true rfl) hdg (fun H1 locs1 hP1 _ hS1 => kk H1 locs1 (by rw [xw_pi (j := 5) (v := v) (by rw [xc_3]; simp [up2])] at hP1; exact hP1) hS1)
theorem xput_CF_6 {p : Program} {l : Launch} {e : Env} {R : Room} {s : State} {m : MethodId} {args : Array Value} {below : List Frame} {meth : Method} {c : Code} {H : Heap} {locs : List Loc} {cells slots : Nat} {Q : State → Prop} {cc : ByteArray} {pc : Nat} {ls : Array Slot} {rest : List Value} {D : va_G} {lay : Nat → Nat} {cA : Nat → ClassId} {adK adV : Nat → Nat} {s0 : State} {S : XS} {own : String} {index : Nat} {v : Int32} (hx : p.tables.exec = Jvm.exec) (hb : c.code = cc) (hts : ∀ w ∈ xT, w.before args s = true) (hown : s.vm.findClass own = some m.cls) (E : xE D lay cA adK adV s0 s s.heap) (hP : va_P D xcl (xw lay cA S) H) (hS : va_S (xI lay) s.heap H locs) (hlink : (Cond.fieldLink own index "ConfigTexts$Configuration" "ticks" "I").before args s = true) (hdg : decode cc pc = .ok (.putfield index, 3))
    (kk : ∀ (H : Heap) (locs : List Loc), va_P D xcl (xw lay cA (xpi S 3 6 v)) H → va_S (xI lay) s.heap H locs → W p l e R s m args below meth c H locs cells slots Q (F0 m (pc + 3) ls rest)) : W p l e R s m args below meth c H locs cells slots Q (F0 m pc ls (.int v :: .ref (lay 3) :: rest)) :=
  va_put (v := .int v) (ty := .int) (C := R_CF) (T := F_CF) (N := 7) hx hb hts i_CF t_CF t_CF_ok n_CF hown E.K hP E.dd hS 3 (xw_at (by decide) (xc_3 _ _ _ _)) rfl 6 (by decide) hlink (fun _ h9 => h9) rfl (by decide +kernel) rfl rfl (Nat.le_of_ble_eq_true rfl) hdg (fun H1 locs1 hP1 _ hS1 => kk H1 locs1 (by rw [xw_pi (j := 6) (v := v) (by rw [xc_3]; simp [up2])] at hP1; exact hP1) hS1)
theorem xput_PA_0 {p : Program} {l : Launch} {e : Env} {R : Room} {s : State} {m : MethodId} {args : Array Value} {below : List Frame} {meth : Method} {c : Code} {H : Heap} {locs : List Loc} {cells slots : Nat} {Q : State → Prop} {cc : ByteArray} {pc : Nat} {ls : Array Slot} {rest : List Value} {D : va_G} {lay : Nat → Nat} {cA : Nat → ClassId} {adK adV : Nat → Nat} {s0 : State} {S : XS} {own : String} {index : Nat} {i : Nat} {v : Int64} (hx : p.tables.exec = Jvm.exec) (hb : c.code = cc) (hts : ∀ w ∈ xT, w.before args s = true) (hown : s.vm.findClass own = some m.cls) (E : xE D lay cA adK adV s0 s s.heap) (hP : va_P D xcl (xw lay cA S) H) (hS : va_S (xI lay) s.heap H locs) (hi : xP i) (hlink : (Cond.fieldLink own index "ConfigTexts$Partition" "name" "J").before args s = true) (hdg : decode cc pc = .ok (.putfield index, 3))
    (kk : ∀ (H : Heap) (locs : List Loc), va_P D xcl (xw lay cA (xpl S i 0 v)) H → va_S (xI lay) s.heap H locs → W p l e R s m args below meth c H locs cells slots Q (F0 m (pc + 3) ls rest)) : W p l e R s m args below meth c H locs cells slots Q (F0 m pc ls (.long v :: .ref (lay i) :: rest)) :=
  va_put (v := .long v) (ty := .long) (C := R_PA) (T := F_PA) (N := 5) hx hb hts i_PA t_PA t_PA_ok n_PA hown E.K hP E.dd hS i (xw_at (xP_lt hi).1 (xc_PA _ _ _ _ hi)) rfl 0 (by decide) hlink (fun _ h9 => h9) rfl (by decide +kernel) rfl rfl (Nat.le_of_ble_eq_true rfl) hdg (fun H1 locs1 hP1 _ hS1 => kk H1 locs1 (by rw [xw_pl (j := 0) (v := v) (by rw [xc_PA _ _ _ _ hi]; simp [up2])] at hP1; exact hP1) hS1)
theorem xput_PA_1 {p : Program} {l : Launch} {e : Env} {R : Room} {s : State} {m : MethodId} {args : Array Value} {below : List Frame} {meth : Method} {c : Code} {H : Heap} {locs : List Loc} {cells slots : Nat} {Q : State → Prop} {cc : ByteArray} {pc : Nat} {ls : Array Slot} {rest : List Value} {D : va_G} {lay : Nat → Nat} {cA : Nat → ClassId} {adK adV : Nat → Nat} {s0 : State} {S : XS} {own : String} {index : Nat} {i : Nat} {v : Int32} (hx : p.tables.exec = Jvm.exec) (hb : c.code = cc) (hts : ∀ w ∈ xT, w.before args s = true) (hown : s.vm.findClass own = some m.cls) (E : xE D lay cA adK adV s0 s s.heap) (hP : va_P D xcl (xw lay cA S) H) (hS : va_S (xI lay) s.heap H locs) (hi : xP i) (hlink : (Cond.fieldLink own index "ConfigTexts$Partition" "memory" "I").before args s = true) (hdg : decode cc pc = .ok (.putfield index, 3))
    (kk : ∀ (H : Heap) (locs : List Loc), va_P D xcl (xw lay cA (xpi S i 1 v)) H → va_S (xI lay) s.heap H locs → W p l e R s m args below meth c H locs cells slots Q (F0 m (pc + 3) ls rest)) : W p l e R s m args below meth c H locs cells slots Q (F0 m pc ls (.int v :: .ref (lay i) :: rest)) :=
  va_put (v := .int v) (ty := .int) (C := R_PA) (T := F_PA) (N := 5) hx hb hts i_PA t_PA t_PA_ok n_PA hown E.K hP E.dd hS i (xw_at (xP_lt hi).1 (xc_PA _ _ _ _ hi)) rfl 1 (by decide) hlink (fun _ h9 => h9) rfl (by decide +kernel) rfl rfl (Nat.le_of_ble_eq_true rfl) hdg (fun H1 locs1 hP1 _ hS1 => kk H1 locs1 (by rw [xw_pi (j := 1) (v := v) (by rw [xc_PA _ _ _ _ hi]; simp [up2])] at hP1; exact hP1) hS1)
theorem xput_PA_2 {p : Program} {l : Launch} {e : Env} {R : Room} {s : State} {m : MethodId} {args : Array Value} {below : List Frame} {meth : Method} {c : Code} {H : Heap} {locs : List Loc} {cells slots : Nat} {Q : State → Prop} {cc : ByteArray} {pc : Nat} {ls : Array Slot} {rest : List Value} {D : va_G} {lay : Nat → Nat} {cA : Nat → ClassId} {adK adV : Nat → Nat} {s0 : State} {S : XS} {own : String} {index : Nat} {i : Nat} {v : Int32} (hx : p.tables.exec = Jvm.exec) (hb : c.code = cc) (hts : ∀ w ∈ xT, w.before args s = true) (hown : s.vm.findClass own = some m.cls) (E : xE D lay cA adK adV s0 s s.heap) (hP : va_P D xcl (xw lay cA S) H) (hS : va_S (xI lay) s.heap H locs) (hi : xP i) (hlink : (Cond.fieldLink own index "ConfigTexts$Partition" "handler" "I").before args s = true) (hdg : decode cc pc = .ok (.putfield index, 3))
    (kk : ∀ (H : Heap) (locs : List Loc), va_P D xcl (xw lay cA (xpi S i 2 v)) H → va_S (xI lay) s.heap H locs → W p l e R s m args below meth c H locs cells slots Q (F0 m (pc + 3) ls rest)) : W p l e R s m args below meth c H locs cells slots Q (F0 m pc ls (.int v :: .ref (lay i) :: rest)) :=
  va_put (v := .int v) (ty := .int) (C := R_PA) (T := F_PA) (N := 5) hx hb hts i_PA t_PA t_PA_ok n_PA hown E.K hP E.dd hS i (xw_at (xP_lt hi).1 (xc_PA _ _ _ _ hi)) rfl 2 (by decide) hlink (fun _ h9 => h9) rfl (by decide +kernel) rfl rfl (Nat.le_of_ble_eq_true rfl) hdg (fun H1 locs1 hP1 _ hS1 => kk H1 locs1 (by rw [xw_pi (j := 2) (v := v) (by rw [xc_PA _ _ _ _ hi]; simp [up2])] at hP1; exact hP1) hS1)
theorem xput_RO_4 {p : Program} {l : Launch} {e : Env} {R : Room} {s : State} {m : MethodId} {args : Array Value} {below : List Frame} {meth : Method} {c : Code} {H : Heap} {locs : List Loc} {cells slots : Nat} {Q : State → Prop} {cc : ByteArray} {pc : Nat} {ls : Array Slot} {rest : List Value} {D : va_G} {lay : Nat → Nat} {cA : Nat → ClassId} {adK adV : Nat → Nat} {s0 : State} {S : XS} {own : String} {index : Nat} {i : Nat} {v : Int32} (hx : p.tables.exec = Jvm.exec) (hb : c.code = cc) (hts : ∀ w ∈ xT, w.before args s = true) (hown : s.vm.findClass own = some m.cls) (E : xE D lay cA adK adV s0 s s.heap) (hP : va_P D xcl (xw lay cA S) H) (hS : va_S (xI lay) s.heap H locs) (hi : xR i) (hlink : (Cond.fieldLink own index "ConfigTexts$Rows" "count" "I").before args s = true) (hdg : decode cc pc = .ok (.putfield index, 3))
    (kk : ∀ (H : Heap) (locs : List Loc), va_P D xcl (xw lay cA (xpi S i 4 v)) H → va_S (xI lay) s.heap H locs → W p l e R s m args below meth c H locs cells slots Q (F0 m (pc + 3) ls rest)) : W p l e R s m args below meth c H locs cells slots Q (F0 m pc ls (.int v :: .ref (lay i) :: rest)) :=
  va_put (v := .int v) (ty := .int) (C := R_RO) (T := F_RO) (N := 5) hx hb hts i_RO t_RO t_RO_ok n_RO hown E.K hP E.dd hS i (xw_at (xR_lt hi).1 (xc_RO _ _ _ _ hi)) rfl 4 (by decide) hlink (fun _ h9 => h9) rfl (by decide +kernel) rfl rfl (Nat.le_of_ble_eq_true rfl) hdg (fun H1 locs1 hP1 _ hS1 => kk H1 locs1 (by rw [xw_pi (j := 4) (v := v) (by rw [xc_RO _ _ _ _ hi]; simp [up2])] at hP1; exact hP1) hS1)
theorem xal_tx {p : Program} {l : Launch} {e : Env} {R : Room} {s : State} {m : MethodId} {args : Array Value} {below : List Frame} {meth : Method} {c : Code} {H : Heap} {locs : List Loc} {cells slots : Nat} {Q : State → Prop} {cc : ByteArray} {pc : Nat} {ls : Array Slot} {rest : List Value} {D : va_G} {lay : Nat → Nat} {cA : Nat → ClassId} {adK adV : Nat → Nat} {s0 : State} {S : XS} (hx : p.tables.exec = Jvm.exec) (hb : c.code = cc) (E : xE D lay cA adK adV s0 s s.heap) (hP : va_P D xcl (xw lay cA S) H) {k : Int32} (hin : ¬ (k < 0 ∨ 2000 ≤ k.toNatClampNeg)) (hdg : decode cc pc = .ok (.baload, 1)) (kk : W p l e R s m args below meth c H locs cells slots Q (F0 m (pc + 1) ls (.int (xgi S 1 k.toNatClampNeg) :: rest))) : W p l e R s m args below meth c H locs cells slots Q (F0 m pc ls (.int k :: .ref (lay 1) :: rest)) :=
  va_bald hx hb E.K hP 1 0 (xw_at (by decide) (xc_1 _ _ _ _)) rfl hin hdg kk
theorem xas_tx {p : Program} {l : Launch} {e : Env} {R : Room} {s : State} {m : MethodId} {args : Array Value} {below : List Frame} {meth : Method} {c : Code} {H : Heap} {locs : List Loc} {cells slots : Nat} {Q : State → Prop} {cc : ByteArray} {pc : Nat} {ls : Array Slot} {rest : List Value} {D : va_G} {lay : Nat → Nat} {cA : Nat → ClassId} {adK adV : Nat → Nat} {s0 : State} {S : XS} (hx : p.tables.exec = Jvm.exec) (hb : c.code = cc) (E : xE D lay cA adK adV s0 s s.heap) (hP : va_P D xcl (xw lay cA S) H) (hS : va_S (xI lay) s.heap H locs) {k : Int32} {x : Int32} (hin : ¬ (k < 0 ∨ 2000 ≤ k.toNatClampNeg)) (hdg : decode cc pc = .ok (.bastore, 1)) (kk : ∀ (H : Heap) (locs : List Loc), va_P D xcl (xw lay cA (xpi S 1 k.toNatClampNeg (vp_nar .byte x))) H → va_S (xI lay) s.heap H locs → W p l e R s m args below meth c H locs cells slots Q (F0 m (pc + 1) ls rest)) : W p l e R s m args below meth c H locs cells slots Q (F0 m pc ls (.int x :: .int k :: .ref (lay 1) :: rest)) :=
  va_bast hx hb E.K hP E.dd hS 1 0 (xw_at (by decide) (xc_1 _ _ _ _)) rfl hin hdg (fun H1 locs1 hP1 _ hS1 => kk H1 locs1 (by rw [xw_pi (j := k.toNatClampNeg) (v := (vp_nar .byte x)) (by rw [xc_1, up2_in]; rfl)] at hP1; exact hP1) hS1)
theorem xal_PAA {p : Program} {l : Launch} {e : Env} {R : Room} {s : State} {m : MethodId} {args : Array Value} {below : List Frame} {meth : Method} {c : Code} {H : Heap} {locs : List Loc} {cells slots : Nat} {Q : State → Prop} {cc : ByteArray} {pc : Nat} {ls : Array Slot} {rest : List Value} {D : va_G} {lay : Nat → Nat} {cA : Nat → ClassId} {adK adV : Nat → Nat} {s0 : State} {S : XS} (hx : p.tables.exec = Jvm.exec) (hb : c.code = cc) (E : xE D lay cA adK adV s0 s s.heap) (hP : va_P D xcl (xw lay cA S) H) {i : Nat} (hi : xP i) {k : Int32} (hin : ¬ (k < 0 ∨ 4 ≤ k.toNatClampNeg)) (hdg : decode cc pc = .ok (.iaload, 1)) (kk : W p l e R s m args below meth c H locs cells slots Q (F0 m (pc + 1) ls (.int (xgi S (i + 1) k.toNatClampNeg) :: rest))) : W p l e R s m args below meth c H locs cells slots Q (F0 m pc ls (.int k :: .ref (lay (i + 1)) :: rest)) :=
  va_iald hx hb E.K hP (i + 1) 2 (xw_at (xP_lt hi).2.1 (xc_PAa _ _ _ _ hi)) rfl hin hdg kk
theorem xas_PAA {p : Program} {l : Launch} {e : Env} {R : Room} {s : State} {m : MethodId} {args : Array Value} {below : List Frame} {meth : Method} {c : Code} {H : Heap} {locs : List Loc} {cells slots : Nat} {Q : State → Prop} {cc : ByteArray} {pc : Nat} {ls : Array Slot} {rest : List Value} {D : va_G} {lay : Nat → Nat} {cA : Nat → ClassId} {adK adV : Nat → Nat} {s0 : State} {S : XS} (hx : p.tables.exec = Jvm.exec) (hb : c.code = cc) (E : xE D lay cA adK adV s0 s s.heap) (hP : va_P D xcl (xw lay cA S) H) (hS : va_S (xI lay) s.heap H locs) {i : Nat} (hi : xP i) {k : Int32} {x : Int32} (hin : ¬ (k < 0 ∨ 4 ≤ k.toNatClampNeg)) (hdg : decode cc pc = .ok (.iastore, 1)) (kk : ∀ (H : Heap) (locs : List Loc), va_P D xcl (xw lay cA (xpi S (i + 1) k.toNatClampNeg x)) H → va_S (xI lay) s.heap H locs → W p l e R s m args below meth c H locs cells slots Q (F0 m (pc + 1) ls rest)) : W p l e R s m args below meth c H locs cells slots Q (F0 m pc ls (.int x :: .int k :: .ref (lay (i + 1)) :: rest)) :=
  va_iast hx hb E.K hP E.dd hS (i + 1) 2 (xw_at (xP_lt hi).2.1 (xc_PAa _ _ _ _ hi)) rfl hin hdg (fun H1 locs1 hP1 _ hS1 => kk H1 locs1 (by rw [xw_pi (j := k.toNatClampNeg) (v := x) (by rw [xc_PAa _ _ _ _ hi, up2_in]; rfl)] at hP1; exact hP1) hS1)
theorem xal_RON {p : Program} {l : Launch} {e : Env} {R : Room} {s : State} {m : MethodId} {args : Array Value} {below : List Frame} {meth : Method} {c : Code} {H : Heap} {locs : List Loc} {cells slots : Nat} {Q : State → Prop} {cc : ByteArray} {pc : Nat} {ls : Array Slot} {rest : List Value} {D : va_G} {lay : Nat → Nat} {cA : Nat → ClassId} {adK adV : Nat → Nat} {s0 : State} {S : XS} (hx : p.tables.exec = Jvm.exec) (hb : c.code = cc) (E : xE D lay cA adK adV s0 s s.heap) (hP : va_P D xcl (xw lay cA S) H) {i : Nat} (hi : xR i) {k : Int32} (hin : ¬ (k < 0 ∨ xMost i ≤ k.toNatClampNeg)) (hdg : decode cc pc = .ok (.laload, 1)) (kk : W p l e R s m args below meth c H locs cells slots Q (F0 m (pc + 1) ls (.long (xgl S (i + 1) k.toNatClampNeg) :: rest))) : W p l e R s m args below meth c H locs cells slots Q (F0 m pc ls (.int k :: .ref (lay (i + 1)) :: rest)) :=
  va_lald hx hb E.K hP (i + 1) 1 (xw_at (xR_lt hi).2.1 (xc_ROn _ _ _ _ hi)) rfl hin hdg kk
theorem xas_RON {p : Program} {l : Launch} {e : Env} {R : Room} {s : State} {m : MethodId} {args : Array Value} {below : List Frame} {meth : Method} {c : Code} {H : Heap} {locs : List Loc} {cells slots : Nat} {Q : State → Prop} {cc : ByteArray} {pc : Nat} {ls : Array Slot} {rest : List Value} {D : va_G} {lay : Nat → Nat} {cA : Nat → ClassId} {adK adV : Nat → Nat} {s0 : State} {S : XS} (hx : p.tables.exec = Jvm.exec) (hb : c.code = cc) (E : xE D lay cA adK adV s0 s s.heap) (hP : va_P D xcl (xw lay cA S) H) (hS : va_S (xI lay) s.heap H locs) {i : Nat} (hi : xR i) {k : Int32} {x : Int64} (hin : ¬ (k < 0 ∨ xMost i ≤ k.toNatClampNeg)) (hdg : decode cc pc = .ok (.lastore, 1)) (kk : ∀ (H : Heap) (locs : List Loc), va_P D xcl (xw lay cA (xpl S (i + 1) k.toNatClampNeg x)) H → va_S (xI lay) s.heap H locs → W p l e R s m args below meth c H locs cells slots Q (F0 m (pc + 1) ls rest)) : W p l e R s m args below meth c H locs cells slots Q (F0 m pc ls (.long x :: .int k :: .ref (lay (i + 1)) :: rest)) :=
  va_last hx hb E.K hP E.dd hS (i + 1) 1 (xw_at (xR_lt hi).2.1 (xc_ROn _ _ _ _ hi)) rfl hin hdg (fun H1 locs1 hP1 _ hS1 => kk H1 locs1 (by rw [xw_pl (j := k.toNatClampNeg) (v := x) (by rw [xc_ROn _ _ _ _ hi, up2_in]; rfl)] at hP1; exact hP1) hS1)
theorem xal_ROU {p : Program} {l : Launch} {e : Env} {R : Room} {s : State} {m : MethodId} {args : Array Value} {below : List Frame} {meth : Method} {c : Code} {H : Heap} {locs : List Loc} {cells slots : Nat} {Q : State → Prop} {cc : ByteArray} {pc : Nat} {ls : Array Slot} {rest : List Value} {D : va_G} {lay : Nat → Nat} {cA : Nat → ClassId} {adK adV : Nat → Nat} {s0 : State} {S : XS} (hx : p.tables.exec = Jvm.exec) (hb : c.code = cc) (E : xE D lay cA adK adV s0 s s.heap) (hP : va_P D xcl (xw lay cA S) H) {i : Nat} (hi : xR i) {k : Int32} (hin : ¬ (k < 0 ∨ xMost i * xWid i ≤ k.toNatClampNeg)) (hdg : decode cc pc = .ok (.iaload, 1)) (kk : W p l e R s m args below meth c H locs cells slots Q (F0 m (pc + 1) ls (.int (xgi S (i + 2) k.toNatClampNeg) :: rest))) : W p l e R s m args below meth c H locs cells slots Q (F0 m pc ls (.int k :: .ref (lay (i + 2)) :: rest)) :=
  va_iald hx hb E.K hP (i + 2) 2 (xw_at (xR_lt hi).2.2 (xc_ROu _ _ _ _ hi)) rfl hin hdg kk
theorem xas_ROU {p : Program} {l : Launch} {e : Env} {R : Room} {s : State} {m : MethodId} {args : Array Value} {below : List Frame} {meth : Method} {c : Code} {H : Heap} {locs : List Loc} {cells slots : Nat} {Q : State → Prop} {cc : ByteArray} {pc : Nat} {ls : Array Slot} {rest : List Value} {D : va_G} {lay : Nat → Nat} {cA : Nat → ClassId} {adK adV : Nat → Nat} {s0 : State} {S : XS} (hx : p.tables.exec = Jvm.exec) (hb : c.code = cc) (E : xE D lay cA adK adV s0 s s.heap) (hP : va_P D xcl (xw lay cA S) H) (hS : va_S (xI lay) s.heap H locs) {i : Nat} (hi : xR i) {k : Int32} {x : Int32} (hin : ¬ (k < 0 ∨ xMost i * xWid i ≤ k.toNatClampNeg)) (hdg : decode cc pc = .ok (.iastore, 1)) (kk : ∀ (H : Heap) (locs : List Loc), va_P D xcl (xw lay cA (xpi S (i + 2) k.toNatClampNeg x)) H → va_S (xI lay) s.heap H locs → W p l e R s m args below meth c H locs cells slots Q (F0 m (pc + 1) ls rest)) : W p l e R s m args below meth c H locs cells slots Q (F0 m pc ls (.int x :: .int k :: .ref (lay (i + 2)) :: rest)) :=
  va_iast hx hb E.K hP E.dd hS (i + 2) 2 (xw_at (xR_lt hi).2.2 (xc_ROu _ _ _ _ hi)) rfl hin hdg (fun H1 locs1 hP1 _ hS1 => kk H1 locs1 (by rw [xw_pi (j := k.toNatClampNeg) (v := x) (by rw [xc_ROu _ _ _ _ hi, up2_in]; rfl)] at hP1; exact hP1) hS1)
theorem xal_PAT {p : Program} {l : Launch} {e : Env} {R : Room} {s : State} {m : MethodId} {args : Array Value} {below : List Frame} {meth : Method} {c : Code} {H : Heap} {locs : List Loc} {cells slots : Nat} {Q : State → Prop} {cc : ByteArray} {pc : Nat} {ls : Array Slot} {rest : List Value} {D : va_G} {lay : Nat → Nat} {cA : Nat → ClassId} {adK adV : Nat → Nat} {s0 : State} {S : XS} (hx : p.tables.exec = Jvm.exec) (hb : c.code = cc) (E : xE D lay cA adK adV s0 s s.heap) (hP : va_P D xcl (xw lay cA S) H) {i : Nat} (hi : xP i) {k : Int32} (hin : ¬ (k < 0 ∨ 6 ≤ k.toNatClampNeg)) (hdg : decode cc pc = .ok (.aaload, 1)) (kk : W p l e R s m args below meth c H locs cells slots Q (F0 m (pc + 1) ls (.ref (lay (i + 2 + 1 + 3 * k.toNatClampNeg)) :: rest))) : W p l e R s m args below meth c H locs cells slots Q (F0 m pc ls (.int k :: .ref (lay (i + 2)) :: rest)) :=
  va_aldq hx hb E.K hP (i + 2) 4 (xw_at (xP_lt hi).2.2 (xc_PAt _ _ _ _ hi)) rfl hin hdg kk
theorem xal_PS {p : Program} {l : Launch} {e : Env} {R : Room} {s : State} {m : MethodId} {args : Array Value} {below : List Frame} {meth : Method} {c : Code} {H : Heap} {locs : List Loc} {cells slots : Nat} {Q : State → Prop} {cc : ByteArray} {pc : Nat} {ls : Array Slot} {rest : List Value} {D : va_G} {lay : Nat → Nat} {cA : Nat → ClassId} {adK adV : Nat → Nat} {s0 : State} {S : XS} (hx : p.tables.exec = Jvm.exec) (hb : c.code = cc) (E : xE D lay cA adK adV s0 s s.heap) (hP : va_P D xcl (xw lay cA S) H) {k : Int32} (hin : ¬ (k < 0 ∨ 8 ≤ k.toNatClampNeg)) (hdg : decode cc pc = .ok (.aaload, 1)) (kk : W p l e R s m args below meth c H locs cells slots Q (F0 m (pc + 1) ls (.ref (lay (5 + 21 * k.toNatClampNeg)) :: rest))) : W p l e R s m args below meth c H locs cells slots Q (F0 m pc ls (.int k :: .ref (lay 4) :: rest)) :=
  va_aldq hx hb E.K hP 4 3 (xw_at (by decide) (xc_4 _ _ _ _)) rfl hin hdg kk
end
section
/-! ConfigTexts$Rows.clear()V -/
def rm_RO_clear : Room := { frames := 0, cells := 0, slots := 0, locals := 0 }
theorem d_RO_clear_0 : decode b_RO_clear 0 = .ok (.aload_n 0, 1) := by decide +kernel
theorem d_RO_clear_1 : decode b_RO_clear 1 = .ok (.iconst 0, 1) := by decide +kernel
theorem d_RO_clear_2 : decode b_RO_clear 2 = .ok (.putfield 26, 3) := by decide +kernel
theorem d_RO_clear_5 : decode b_RO_clear 5 = .ok (.return_, 1) := by decide +kernel
def f_RO_clear (S : XS) (a0 : Nat) : Option (XS) :=
  if xR a0 then (some (xpi S a0 4 (0 : Int32))) else none
set_option maxHeartbeats 4000000 in
set_option maxRecDepth 100000 in
theorem k_RO_clear (l : Launch) {p : Program} {e : Env} {s : State} {m : MethodId} {args : Array Value} {below : List Frame} {meth : Method} {c : Code} {D : va_G} {lay : Nat → Nat} {cA : Nat → ClassId} {adK adV : Nat → Nat} {s0 : State} (C : xB p s m args meth c R_RO b_RO_clear ((Option.none : Option Jvm.ClassFile.FieldType)) 1) (E : xE D lay cA adK adV s0 s s.heap) : ∀ (S : XS) (a0 : Nat) (r : XS) (_ : f_RO_clear S a0 = some r) (H : Heap) (locs : List Loc) (ls : Array Slot), va_P D xcl (xw lay cA S) H → va_S (xI lay) s.heap H locs → lv_has ls 1 [(0, .ref (lay a0))] → W p l e rm_RO_clear s m args below meth c H locs 0 0 (MQ below (xqv D lay cA r) args s 0 0 (xI lay)) (F0 m 0 ls []) := by
  obtain ⟨hx, hb, hr, hml, hown, hts, hlk, hnh⟩ := id C
  have hK := E.K
  intro S a0 r h H locs ls hP hS hl
  unfold f_RO_clear at h
  refine lv_aload_n hx hb d_RO_clear_0 rfl (lv_at hl 0 rfl) ?_
  refine lv_iconst (v := (0 : Int32)) hx hb d_RO_clear_1 (by decide) ?_
  obtain ⟨hk1, h⟩ := xg h
  refine xput_RO_4 hx hb hts hown E hP hS hk1 (hts _ wd_92) d_RO_clear_2 (fun H locs hP hS => ?_)
  have h9 := Option.some.inj h
  subst h9
  exact W.vret hx hb hr (fun t ht hW => ⟨⟨(), rfl, trivial, by show va_P D xcl _ t.heap; rw [ht]; exact hP⟩, hS.F ht⟩) hS.2.2 d_RO_clear_5
theorem c_RO_clear (l : Launch) (D : va_G) (lay : Nat → Nat) (cA : Nat → ClassId) (adK adV : Nat → Nat) (s0 : State) (S : XS) (a0 : Nat) (r : XS) (h : f_RO_clear S a0 = some r) : Met l y_RO_clear (.code y_RO_clear b_RO_clear 1 ((Option.none : Option Jvm.ClassFile.FieldType)) :: xT) rm_RO_clear (xPc D lay cA adK adV s0 S [.ref (lay a0)]) (xqv D lay cA r) 0 0 (xI lay) := by
  refine Met.ofW (cc := b_RO_clear) (maxL := 1) (ret := (Option.none : Option Jvm.ClassFile.FieldType)) (by decide +kernel) rfl ?_
  intro p e s m args below meth c s₁ B hml hv
  obtain ⟨rfl, hP, E⟩ := hv
  have C := xB_of B hml
  have hl := lv_entry ([.ref (lay a0)]) (n := 1) (Nat.le_of_ble_eq_true rfl)
  rw [lg_entry_eq]
  generalize (lg_sl ([.ref (lay a0)]) ++ List.replicate (1 - (lg_sl ([.ref (lay a0)])).length) Slot.unset).toArray = ls at hl ⊢
  exact k_RO_clear l C E S a0 r h s.heap [] ls hP va_S.rf hl
/-! ConfigTexts$Rows.isFull()Z -/
def rm_RO_isFull : Room := { frames := 0, cells := 0, slots := 0, locals := 0 }
theorem d_RO_isFull_0 : decode b_RO_isFull 0 = .ok (.aload_n 0, 1) := by decide +kernel
theorem d_RO_isFull_1 : decode b_RO_isFull 1 = .ok (.getfield 26, 3) := by decide +kernel
theorem d_RO_isFull_4 : decode b_RO_isFull 4 = .ok (.aload_n 0, 1) := by decide +kernel
theorem d_RO_isFull_5 : decode b_RO_isFull 5 = .ok (.getfield 9, 3) := by decide +kernel
theorem d_RO_isFull_8 : decode b_RO_isFull 8 = .ok (.if_icmp .lt 7, 3) := by decide +kernel
theorem d_RO_isFull_11 : decode b_RO_isFull 11 = .ok (.iconst 1, 1) := by decide +kernel
theorem d_RO_isFull_12 : decode b_RO_isFull 12 = .ok (.goto 4, 3) := by decide +kernel
theorem d_RO_isFull_15 : decode b_RO_isFull 15 = .ok (.iconst 0, 1) := by decide +kernel
theorem d_RO_isFull_16 : decode b_RO_isFull 16 = .ok (.ireturn, 1) := by decide +kernel
def f_RO_isFull (S : XS) (a0 : Nat) : Option (Int32) :=
  if xR a0 then (if (xgi S a0 4) < (xgi S a0 0) then (some (0 : Int32)) else (some (1 : Int32))) else none
set_option maxHeartbeats 4000000 in
set_option maxRecDepth 100000 in
theorem k_RO_isFull (l : Launch) {p : Program} {e : Env} {s : State} {m : MethodId} {args : Array Value} {below : List Frame} {meth : Method} {c : Code} {D : va_G} {lay : Nat → Nat} {cA : Nat → ClassId} {adK adV : Nat → Nat} {s0 : State} (C : xB p s m args meth c R_RO b_RO_isFull ((Option.some Jvm.ClassFile.FieldType.boolean)) 1) (E : xE D lay cA adK adV s0 s s.heap) : ∀ (S : XS) (a0 : Nat) (r : Int32) (_ : f_RO_isFull S a0 = some r) (H : Heap) (locs : List Loc) (ls : Array Slot), va_P D xcl (xw lay cA S) H → va_S (xI lay) s.heap H locs → lv_has ls 1 [(0, .ref (lay a0))] → W p l e rm_RO_isFull s m args below meth c H locs 0 0 (MQ below (xqi D lay cA r S) args s 0 0 (xI lay)) (F0 m 0 ls []) := by
  obtain ⟨hx, hb, hr, hml, hown, hts, hlk, hnh⟩ := id C
  have hK := E.K
  intro S a0 r h H locs ls hP hS hl
  unfold f_RO_isFull at h
  refine lv_aload_n hx hb d_RO_isFull_0 rfl (lv_at hl 0 rfl) ?_
  obtain ⟨hk1, h⟩ := xg h
  refine va_get (v := .int (xgi S a0 4)) (C := R_RO) (T := F_RO) (N := 5) hx hb hts i_RO hown hK hP a0 (xw_at (xR_lt hk1).1 (xc_RO _ _ _ _ hk1)) rfl 4 (by decide) (hts _ wd_92) (fun _ h9 => h9) rfl d_RO_isFull_1 ?_
  refine lv_aload_n hx hb d_RO_isFull_4 rfl (lv_at hl 0 rfl) ?_
  refine va_get (v := .int (xgi S a0 0)) (C := R_RO) (T := F_RO) (N := 5) hx hb hts i_RO hown hK hP a0 (xw_at (xR_lt hk1).1 (xc_RO _ _ _ _ hk1)) rfl 0 (by decide) (hts _ wd_88) (fun _ h9 => h9) rfl d_RO_isFull_5 ?_
  refine lv_icmp_lt (tgt := 15) hx hb d_RO_isFull_8 (by decide) (fun c_2 => ?_) (fun c_2 => ?_)
  · have h := xif_t c_2 h
    refine lv_iconst (v := (0 : Int32)) hx hb d_RO_isFull_15 (by decide) ?_
    have h9 := Option.some.inj h
    subst h9
    exact W.zret (v := (0 : Int32)) hx hb hr (by decide) (fun t ht hW => ⟨⟨(0 : Int32), (), rfl, rfl, by show va_P D xcl _ t.heap; rw [ht]; exact hP⟩, hS.F ht⟩) hS.2.2 d_RO_isFull_16
  · have h := xif_f c_2 h
    refine lv_iconst (v := (1 : Int32)) hx hb d_RO_isFull_11 (by decide) ?_
    refine lv_goto (tgt := 16) hx hb d_RO_isFull_12 (by decide) ?_
    have h9 := Option.some.inj h
    subst h9
    exact W.zret (v := (1 : Int32)) hx hb hr (by decide) (fun t ht hW => ⟨⟨(1 : Int32), (), rfl, rfl, by show va_P D xcl _ t.heap; rw [ht]; exact hP⟩, hS.F ht⟩) hS.2.2 d_RO_isFull_16
theorem c_RO_isFull (l : Launch) (D : va_G) (lay : Nat → Nat) (cA : Nat → ClassId) (adK adV : Nat → Nat) (s0 : State) (S : XS) (a0 : Nat) (r : Int32) (h : f_RO_isFull S a0 = some r) : Met l y_RO_isFull (.code y_RO_isFull b_RO_isFull 1 ((Option.some Jvm.ClassFile.FieldType.boolean)) :: xT) rm_RO_isFull (xPc D lay cA adK adV s0 S [.ref (lay a0)]) (xqi D lay cA r S) 0 0 (xI lay) := by
  refine Met.ofW (cc := b_RO_isFull) (maxL := 1) (ret := (Option.some Jvm.ClassFile.FieldType.boolean)) (by decide +kernel) rfl ?_
  intro p e s m args below meth c s₁ B hml hv
  obtain ⟨rfl, hP, E⟩ := hv
  have C := xB_of B hml
  have hl := lv_entry ([.ref (lay a0)]) (n := 1) (Nat.le_of_ble_eq_true rfl)
  rw [lg_entry_eq]
  generalize (lg_sl ([.ref (lay a0)]) ++ List.replicate (1 - (lg_sl ([.ref (lay a0)])).length) Slot.unset).toArray = ls at hl ⊢
  exact k_RO_isFull l C E S a0 r h s.heap [] ls hP va_S.rf hl
/-! ConfigTexts$Rows.add(JI)V -/
def rm_RO_add : Room := { frames := 1, cells := 0, slots := 0, locals := 20 }
theorem d_RO_add_0 : decode b_RO_add 0 = .ok (.aload_n 0, 1) := by decide +kernel
theorem d_RO_add_1 : decode b_RO_add 1 = .ok (.invokevirtual 29, 3) := by decide +kernel
theorem d_RO_add_4 : decode b_RO_add 4 = .ok (.ifCond .eq 4, 3) := by decide +kernel
theorem d_RO_add_7 : decode b_RO_add 7 = .ok (.return_, 1) := by decide +kernel
theorem d_RO_add_8 : decode b_RO_add 8 = .ok (.aload_n 0, 1) := by decide +kernel
theorem d_RO_add_9 : decode b_RO_add 9 = .ok (.getfield 18, 3) := by decide +kernel
theorem d_RO_add_12 : decode b_RO_add 12 = .ok (.aload_n 0, 1) := by decide +kernel
theorem d_RO_add_13 : decode b_RO_add 13 = .ok (.getfield 26, 3) := by decide +kernel
theorem d_RO_add_16 : decode b_RO_add 16 = .ok (.lload_n 1, 1) := by decide +kernel
theorem d_RO_add_17 : decode b_RO_add 17 = .ok (.lastore, 1) := by decide +kernel
theorem d_RO_add_18 : decode b_RO_add 18 = .ok (.iconst 0, 1) := by decide +kernel
theorem d_RO_add_19 : decode b_RO_add 19 = .ok (.istore 4, 2) := by decide +kernel
theorem d_RO_add_21 : decode b_RO_add 21 = .ok (.iload 4, 2) := by decide +kernel
theorem d_RO_add_23 : decode b_RO_add 23 = .ok (.aload_n 0, 1) := by decide +kernel
theorem d_RO_add_24 : decode b_RO_add 24 = .ok (.getfield 15, 3) := by decide +kernel
theorem d_RO_add_27 : decode b_RO_add 27 = .ok (.if_icmp .ge 27, 3) := by decide +kernel
theorem d_RO_add_30 : decode b_RO_add 30 = .ok (.aload_n 0, 1) := by decide +kernel
theorem d_RO_add_31 : decode b_RO_add 31 = .ok (.getfield 22, 3) := by decide +kernel
theorem d_RO_add_34 : decode b_RO_add 34 = .ok (.aload_n 0, 1) := by decide +kernel
theorem d_RO_add_35 : decode b_RO_add 35 = .ok (.getfield 26, 3) := by decide +kernel
theorem d_RO_add_38 : decode b_RO_add 38 = .ok (.aload_n 0, 1) := by decide +kernel
theorem d_RO_add_39 : decode b_RO_add 39 = .ok (.getfield 15, 3) := by decide +kernel
theorem d_RO_add_42 : decode b_RO_add 42 = .ok (.imul, 1) := by decide +kernel
theorem d_RO_add_43 : decode b_RO_add 43 = .ok (.iload 4, 2) := by decide +kernel
theorem d_RO_add_45 : decode b_RO_add 45 = .ok (.iadd, 1) := by decide +kernel
theorem d_RO_add_46 : decode b_RO_add 46 = .ok (.iload_n 3, 1) := by decide +kernel
theorem d_RO_add_47 : decode b_RO_add 47 = .ok (.iastore, 1) := by decide +kernel
theorem d_RO_add_48 : decode b_RO_add 48 = .ok (.iinc 4 1, 3) := by decide +kernel
theorem d_RO_add_51 : decode b_RO_add 51 = .ok (.goto (-30), 3) := by decide +kernel
theorem d_RO_add_54 : decode b_RO_add 54 = .ok (.aload_n 0, 1) := by decide +kernel
theorem d_RO_add_55 : decode b_RO_add 55 = .ok (.dup, 1) := by decide +kernel
theorem d_RO_add_56 : decode b_RO_add 56 = .ok (.getfield 26, 3) := by decide +kernel
theorem d_RO_add_59 : decode b_RO_add 59 = .ok (.iconst 1, 1) := by decide +kernel
theorem d_RO_add_60 : decode b_RO_add 60 = .ok (.iadd, 1) := by decide +kernel
theorem d_RO_add_61 : decode b_RO_add 61 = .ok (.putfield 26, 3) := by decide +kernel
theorem d_RO_add_64 : decode b_RO_add 64 = .ok (.return_, 1) := by decide +kernel
def f_RO_add_21 : Nat → XS → Nat → Int32 → Int32 → Option (XS)
  | 0, _, _, _, _ => none
  | n + 1, S, a0, a3, a4 =>
    if xR a0 then (if (xgi S a0 1) ≤ a4 then (some (xpi S a0 4 ((xgi S a0 4) + (1 : Int32)))) else (if ¬ ((((xgi S a0 4) * (xgi S a0 1)) + a4) < 0 ∨ xMost a0 * xWid a0 ≤ (((xgi S a0 4) * (xgi S a0 1)) + a4).toNatClampNeg) then (f_RO_add_21 n (xpi S (a0 + 2) (((xgi S a0 4) * (xgi S a0 1)) + a4).toNatClampNeg a3) a0 a3 (a4 + (1 : Int32))) else none)) else none
set_option maxHeartbeats 4000000 in
set_option maxRecDepth 100000 in
theorem k_RO_add_21 (l : Launch) {p : Program} {e : Env} {s : State} {m : MethodId} {args : Array Value} {below : List Frame} {meth : Method} {c : Code} {D : va_G} {lay : Nat → Nat} {cA : Nat → ClassId} {adK adV : Nat → Nat} {s0 : State} (C : xB p s m args meth c R_RO b_RO_add ((Option.none : Option Jvm.ClassFile.FieldType)) 5) (E : xE D lay cA adK adV s0 s s.heap) : ∀ (n : Nat) (S : XS) (a0 : Nat) (a3 : Int32) (a4 : Int32) (r : XS) (_ : f_RO_add_21 n S a0 a3 a4 = some r) (H : Heap) (locs : List Loc) (ls : Array Slot), va_P D xcl (xw lay cA S) H → va_S (xI lay) s.heap H locs → lv_has ls 5 [(0, .ref (lay a0)), (3, .int a3), (4, .int a4)] → W p l e rm_RO_add s m args below meth c H locs 0 0 (MQ below (xqv D lay cA r) args s 0 0 (xI lay)) (F0 m 21 ls []) := by
  obtain ⟨hx, hb, hr, hml, hown, hts, hlk, hnh⟩ := id C
  have hK := E.K
  intro n
  induction n with
  | zero => intro S a0 a3 a4 r h; rw [f_RO_add_21] at h; cases h
  | succ n ih =>
    intro S a0 a3 a4 r h H locs ls hP hS hl
    rw [f_RO_add_21] at h
    refine lv_iload hx hb d_RO_add_21 (lv_at hl 2 rfl) ?_
    refine lv_aload_n hx hb d_RO_add_23 rfl (lv_at hl 0 rfl) ?_
    obtain ⟨hk6, h⟩ := xg h
    refine va_get (v := .int (xgi S a0 1)) (C := R_RO) (T := F_RO) (N := 5) hx hb hts i_RO hown hK hP a0 (xw_at (xR_lt hk6).1 (xc_RO _ _ _ _ hk6)) rfl 1 (by decide) (hts _ wd_89) (fun _ h9 => h9) rfl d_RO_add_24 ?_
    refine lv_icmp_ge (tgt := 54) hx hb d_RO_add_27 (by decide) (fun c_8 => ?_) (fun c_8 => ?_)
    · have h := xif_t c_8 h
      refine lv_aload_n hx hb d_RO_add_54 rfl (lv_at hl 0 rfl) ?_
      refine lv_dup hx hb d_RO_add_55 rfl ?_
      refine va_get (v := .int (xgi S a0 4)) (C := R_RO) (T := F_RO) (N := 5) hx hb hts i_RO hown hK hP a0 (xw_at (xR_lt hk6).1 (xc_RO _ _ _ _ hk6)) rfl 4 (by decide) (hts _ wd_92) (fun _ h9 => h9) rfl d_RO_add_56 ?_
      refine lv_iconst (v := (1 : Int32)) hx hb d_RO_add_59 (by decide) ?_
      refine lv_iadd hx hb d_RO_add_60 ?_
      refine xput_RO_4 hx hb hts hown E hP hS hk6 (hts _ wd_92) d_RO_add_61 (fun H locs hP hS => ?_)
      have h9 := Option.some.inj h
      subst h9
      exact W.vret hx hb hr (fun t ht hW => ⟨⟨(), rfl, trivial, by show va_P D xcl _ t.heap; rw [ht]; exact hP⟩, hS.F ht⟩) hS.2.2 d_RO_add_64
    · have h := xif_f c_8 h
      refine lv_aload_n hx hb d_RO_add_30 rfl (lv_at hl 0 rfl) ?_
      refine va_get (v := .ref (lay (a0 + 2))) (C := R_RO) (T := F_RO) (N := 5) hx hb hts i_RO hown hK hP a0 (xw_at (xR_lt hk6).1 (xc_RO _ _ _ _ hk6)) rfl 3 (by decide) (hts _ wd_91) (fun _ h9 => h9) rfl d_RO_add_31 ?_
      refine lv_aload_n hx hb d_RO_add_34 rfl (lv_at hl 0 rfl) ?_
      refine va_get (v := .int (xgi S a0 4)) (C := R_RO) (T := F_RO) (N := 5) hx hb hts i_RO hown hK hP a0 (xw_at (xR_lt hk6).1 (xc_RO _ _ _ _ hk6)) rfl 4 (by decide) (hts _ wd_92) (fun _ h9 => h9) rfl d_RO_add_35 ?_
      refine lv_aload_n hx hb d_RO_add_38 rfl (lv_at hl 0 rfl) ?_
      refine va_get (v := .int (xgi S a0 1)) (C := R_RO) (T := F_RO) (N := 5) hx hb hts i_RO hown hK hP a0 (xw_at (xR_lt hk6).1 (xc_RO _ _ _ _ hk6)) rfl 1 (by decide) (hts _ wd_89) (fun _ h9 => h9) rfl d_RO_add_39 ?_
      refine lv_imul hx hb d_RO_add_42 ?_
      refine lv_iload hx hb d_RO_add_43 (lv_at hl 2 rfl) ?_
      refine lv_iadd hx hb d_RO_add_45 ?_
      refine lv_iload_n hx hb d_RO_add_46 rfl (lv_at hl 1 rfl) ?_
      obtain ⟨hg7, h⟩ := xg h
      refine xas_ROU hx hb E hP hS hk6 hg7 d_RO_add_47 (fun H locs hP hS => ?_)
      refine lv_iinc (v := a4 + (1 : Int32)) (lv' := [(4, .int (a4 + (1 : Int32))), (0, .ref (lay a0)), (3, .int a3)]) hx hb d_RO_add_48 hl (k := 2) rfl (by rfl) (by decide) rfl (fun ls hl => ?_)
      refine lv_goto (tgt := 21) hx hb d_RO_add_51 (by decide) ?_
      exact ih (xpi S (a0 + 2) (((xgi S a0 4) * (xgi S a0 1)) + a4).toNatClampNeg a3) a0 a3 (a4 + (1 : Int32)) _ h H locs ls hP hS (lv_sub hl [1, 2, 0] rfl)
def f_RO_add (S : XS) (a0 : Nat) (a1 : Int64) (a3 : Int32) : Option (XS) :=
  if xR a0 then ((f_RO_isFull S a0).bind fun q3 => if q3 = 0 then (if ¬ ((xgi S a0 4) < 0 ∨ xMost a0 ≤ (xgi S a0 4).toNatClampNeg) then (f_RO_add_21 4096 (xpl S (a0 + 1) (xgi S a0 4).toNatClampNeg a1) a0 a3 (0 : Int32)) else none) else (some S)) else none
set_option maxHeartbeats 4000000 in
set_option maxRecDepth 100000 in
theorem k_RO_add (l : Launch) {p : Program} {e : Env} {s : State} {m : MethodId} {args : Array Value} {below : List Frame} {meth : Method} {c : Code} {D : va_G} {lay : Nat → Nat} {cA : Nat → ClassId} {adK adV : Nat → Nat} {s0 : State} (C : xB p s m args meth c R_RO b_RO_add ((Option.none : Option Jvm.ClassFile.FieldType)) 5) (E : xE D lay cA adK adV s0 s s.heap) : ∀ (S : XS) (a0 : Nat) (a1 : Int64) (a3 : Int32) (r : XS) (_ : f_RO_add S a0 a1 a3 = some r) (H : Heap) (locs : List Loc) (ls : Array Slot), va_P D xcl (xw lay cA S) H → va_S (xI lay) s.heap H locs → lv_has ls 5 [(0, .ref (lay a0)), (1, .long a1), (3, .int a3)] → W p l e rm_RO_add s m args below meth c H locs 0 0 (MQ below (xqv D lay cA r) args s 0 0 (xI lay)) (F0 m 0 ls []) := by
  obtain ⟨hx, hb, hr, hml, hown, hts, hlk, hnh⟩ := id C
  have hK := E.K
  intro S a0 a1 a3 r h H locs ls hP hS hl
  unfold f_RO_add at h
  refine lv_aload_n hx hb d_RO_add_0 rfl (lv_at hl 0 rfl) ?_
  obtain ⟨hk1, h⟩ := xg h
  obtain ⟨q3, e2, h⟩ := xb h
  refine xc_i (va_runV (As := []) (rest := []) ⟨hx, hb, hml, hown, hts⟩ (c_RO_isFull l D lay cA adK adV s0 S a0 q3 e2) (cwV 0 hts (xT_V wd_563 wd_548 wd_549 wd_5 wd_550) rfl rfl rfl (by decide +kernel) ⟨Nat.le_of_ble_eq_true rfl, Nat.le_of_ble_eq_true rfl⟩) (xpV E hP hS (xR_lt hk1).1 (xc_RO _ _ _ _ hk1) rfl) rfl rfl hl.1 rfl (lv_room (Nat.le_of_ble_eq_true rfl)) d_RO_add_1 ⟨Nat.le_of_ble_eq_true rfl, Nat.le_of_ble_eq_true rfl⟩) hS (fun H locs hP hS => ?_)
  refine lv_if_eq (tgt := 8) hx hb d_RO_add_4 (by decide) (fun c_5 => ?_) (fun c_5 => ?_)
  · have h := xif_t c_5 h
    refine lv_aload_n hx hb d_RO_add_8 rfl (lv_at hl 0 rfl) ?_
    refine va_get (v := .ref (lay (a0 + 1))) (C := R_RO) (T := F_RO) (N := 5) hx hb hts i_RO hown hK hP a0 (xw_at (xR_lt hk1).1 (xc_RO _ _ _ _ hk1)) rfl 2 (by decide) (hts _ wd_90) (fun _ h9 => h9) rfl d_RO_add_9 ?_
    refine lv_aload_n hx hb d_RO_add_12 rfl (lv_at hl 0 rfl) ?_
    refine va_get (v := .int (xgi S a0 4)) (C := R_RO) (T := F_RO) (N := 5) hx hb hts i_RO hown hK hP a0 (xw_at (xR_lt hk1).1 (xc_RO _ _ _ _ hk1)) rfl 4 (by decide) (hts _ wd_92) (fun _ h9 => h9) rfl d_RO_add_13 ?_
    refine lv_lload_n hx hb d_RO_add_16 rfl (lv_at hl 1 rfl) ?_
    obtain ⟨hg4, h⟩ := xg h
    refine xas_RON hx hb E hP hS hk1 hg4 d_RO_add_17 (fun H locs hP hS => ?_)
    refine lv_iconst (v := (0 : Int32)) hx hb d_RO_add_18 (by decide) ?_
    refine lv_istore (lv' := [(4, .int (0 : Int32)), (0, .ref (lay a0)), (1, .long a1), (3, .int a3)]) hx hb d_RO_add_19 hl (by decide) rfl (fun ls hl => ?_)
    exact k_RO_add_21 l C E 4096 (xpl S (a0 + 1) (xgi S a0 4).toNatClampNeg a1) a0 a3 (0 : Int32) _ h H locs ls hP hS (lv_sub hl [1, 3, 0] rfl)
  · have h := xif_f c_5 h
    have h9 := Option.some.inj h
    subst h9
    exact W.vret hx hb hr (fun t ht hW => ⟨⟨(), rfl, trivial, by show va_P D xcl _ t.heap; rw [ht]; exact hP⟩, hS.F ht⟩) hS.2.2 d_RO_add_7
theorem c_RO_add (l : Launch) (D : va_G) (lay : Nat → Nat) (cA : Nat → ClassId) (adK adV : Nat → Nat) (s0 : State) (S : XS) (a0 : Nat) (a1 : Int64) (a3 : Int32) (r : XS) (h : f_RO_add S a0 a1 a3 = some r) : Met l y_RO_add (.code y_RO_add b_RO_add 5 ((Option.none : Option Jvm.ClassFile.FieldType)) :: xT) rm_RO_add (xPc D lay cA adK adV s0 S [.ref (lay a0), .long a1, .int a3]) (xqv D lay cA r) 0 0 (xI lay) := by
  refine Met.ofW (cc := b_RO_add) (maxL := 5) (ret := (Option.none : Option Jvm.ClassFile.FieldType)) (by decide +kernel) rfl ?_
  intro p e s m args below meth c s₁ B hml hv
  obtain ⟨rfl, hP, E⟩ := hv
  have C := xB_of B hml
  have hl := lv_entry ([.ref (lay a0), .long a1, .int a3]) (n := 5) (Nat.le_of_ble_eq_true rfl)
  rw [lg_entry_eq]
  generalize (lg_sl ([.ref (lay a0), .long a1, .int a3]) ++ List.replicate (5 - (lg_sl ([.ref (lay a0), .long a1, .int a3])).length) Slot.unset).toArray = ls at hl ⊢
  exact k_RO_add l C E S a0 a1 a3 r h s.heap [] ls hP va_S.rf hl
/-! ConfigTexts$Rows.holds(II)Z -/
def rm_RO_holds : Room := { frames := 0, cells := 0, slots := 0, locals := 0 }
theorem d_RO_holds_0 : decode b_RO_holds 0 = .ok (.iload_n 1, 1) := by decide +kernel
theorem d_RO_holds_1 : decode b_RO_holds 1 = .ok (.ifCond .lt 27, 3) := by decide +kernel
theorem d_RO_holds_4 : decode b_RO_holds 4 = .ok (.iload_n 1, 1) := by decide +kernel
theorem d_RO_holds_5 : decode b_RO_holds 5 = .ok (.aload_n 0, 1) := by decide +kernel
theorem d_RO_holds_6 : decode b_RO_holds 6 = .ok (.getfield 26, 3) := by decide +kernel
theorem d_RO_holds_9 : decode b_RO_holds 9 = .ok (.if_icmp .ge 19, 3) := by decide +kernel
theorem d_RO_holds_12 : decode b_RO_holds 12 = .ok (.iload_n 2, 1) := by decide +kernel
theorem d_RO_holds_13 : decode b_RO_holds 13 = .ok (.ifCond .lt 15, 3) := by decide +kernel
theorem d_RO_holds_16 : decode b_RO_holds 16 = .ok (.iload_n 2, 1) := by decide +kernel
theorem d_RO_holds_17 : decode b_RO_holds 17 = .ok (.aload_n 0, 1) := by decide +kernel
theorem d_RO_holds_18 : decode b_RO_holds 18 = .ok (.getfield 15, 3) := by decide +kernel
theorem d_RO_holds_21 : decode b_RO_holds 21 = .ok (.if_icmp .ge 7, 3) := by decide +kernel
theorem d_RO_holds_24 : decode b_RO_holds 24 = .ok (.iconst 1, 1) := by decide +kernel
theorem d_RO_holds_25 : decode b_RO_holds 25 = .ok (.goto 4, 3) := by decide +kernel
theorem d_RO_holds_28 : decode b_RO_holds 28 = .ok (.iconst 0, 1) := by decide +kernel
theorem d_RO_holds_29 : decode b_RO_holds 29 = .ok (.ireturn, 1) := by decide +kernel
def f_RO_holds (S : XS) (a0 : Nat) (a1 : Int32) (a2 : Int32) : Option (Int32) :=
  if a1 < 0 then (some (0 : Int32)) else (if xR a0 then (if (xgi S a0 4) ≤ a1 then (some (0 : Int32)) else (if a2 < 0 then (some (0 : Int32)) else (if (xgi S a0 1) ≤ a2 then (some (0 : Int32)) else (some (1 : Int32))))) else none)
set_option maxHeartbeats 4000000 in
set_option maxRecDepth 100000 in
theorem k_RO_holds (l : Launch) {p : Program} {e : Env} {s : State} {m : MethodId} {args : Array Value} {below : List Frame} {meth : Method} {c : Code} {D : va_G} {lay : Nat → Nat} {cA : Nat → ClassId} {adK adV : Nat → Nat} {s0 : State} (C : xB p s m args meth c R_RO b_RO_holds ((Option.some Jvm.ClassFile.FieldType.boolean)) 3) (E : xE D lay cA adK adV s0 s s.heap) : ∀ (S : XS) (a0 : Nat) (a1 : Int32) (a2 : Int32) (r : Int32) (_ : f_RO_holds S a0 a1 a2 = some r) (H : Heap) (locs : List Loc) (ls : Array Slot), va_P D xcl (xw lay cA S) H → va_S (xI lay) s.heap H locs → lv_has ls 3 [(0, .ref (lay a0)), (1, .int a1), (2, .int a2)] → W p l e rm_RO_holds s m args below meth c H locs 0 0 (MQ below (xqi D lay cA r S) args s 0 0 (xI lay)) (F0 m 0 ls []) := by
  obtain ⟨hx, hb, hr, hml, hown, hts, hlk, hnh⟩ := id C
  have hK := E.K
  intro S a0 a1 a2 r h H locs ls hP hS hl
  unfold f_RO_holds at h
  refine lv_iload_n hx hb d_RO_holds_0 rfl (lv_at hl 1 rfl) ?_
  refine lv_if_lt (tgt := 28) hx hb d_RO_holds_1 (by decide) (fun c_5 => ?_) (fun c_5 => ?_)
  · have h := xif_t c_5 h
    refine lv_iconst (v := (0 : Int32)) hx hb d_RO_holds_28 (by decide) ?_
    have h9 := Option.some.inj h
    subst h9
    exact W.zret (v := (0 : Int32)) hx hb hr (by decide) (fun t ht hW => ⟨⟨(0 : Int32), (), rfl, rfl, by show va_P D xcl _ t.heap; rw [ht]; exact hP⟩, hS.F ht⟩) hS.2.2 d_RO_holds_29
  · have h := xif_f c_5 h
    refine lv_iload_n hx hb d_RO_holds_4 rfl (lv_at hl 1 rfl) ?_
    refine lv_aload_n hx hb d_RO_holds_5 rfl (lv_at hl 0 rfl) ?_
    obtain ⟨hk1, h⟩ := xg h
    refine va_get (v := .int (xgi S a0 4)) (C := R_RO) (T := F_RO) (N := 5) hx hb hts i_RO hown hK hP a0 (xw_at (xR_lt hk1).1 (xc_RO _ _ _ _ hk1)) rfl 4 (by decide) (hts _ wd_92) (fun _ h9 => h9) rfl d_RO_holds_6 ?_
    refine lv_icmp_ge (tgt := 28) hx hb d_RO_holds_9 (by decide) (fun c_4 => ?_) (fun c_4 => ?_)
    · have h := xif_t c_4 h
      refine lv_iconst (v := (0 : Int32)) hx hb d_RO_holds_28 (by decide) ?_
      have h9 := Option.some.inj h
      subst h9
      exact W.zret (v := (0 : Int32)) hx hb hr (by decide) (fun t ht hW => ⟨⟨(0 : Int32), (), rfl, rfl, by show va_P D xcl _ t.heap; rw [ht]; exact hP⟩, hS.F ht⟩) hS.2.2 d_RO_holds_29
    · have h := xif_f c_4 h
      refine lv_iload_n hx hb d_RO_holds_12 rfl (lv_at hl 2 rfl) ?_
      refine lv_if_lt (tgt := 28) hx hb d_RO_holds_13 (by decide) (fun c_3 => ?_) (fun c_3 => ?_)
      · have h := xif_t c_3 h
        refine lv_iconst (v := (0 : Int32)) hx hb d_RO_holds_28 (by decide) ?_
        have h9 := Option.some.inj h
        subst h9
        exact W.zret (v := (0 : Int32)) hx hb hr (by decide) (fun t ht hW => ⟨⟨(0 : Int32), (), rfl, rfl, by show va_P D xcl _ t.heap; rw [ht]; exact hP⟩, hS.F ht⟩) hS.2.2 d_RO_holds_29
      · have h := xif_f c_3 h
        refine lv_iload_n hx hb d_RO_holds_16 rfl (lv_at hl 2 rfl) ?_
        refine lv_aload_n hx hb d_RO_holds_17 rfl (lv_at hl 0 rfl) ?_
        refine va_get (v := .int (xgi S a0 1)) (C := R_RO) (T := F_RO) (N := 5) hx hb hts i_RO hown hK hP a0 (xw_at (xR_lt hk1).1 (xc_RO _ _ _ _ hk1)) rfl 1 (by decide) (hts _ wd_89) (fun _ h9 => h9) rfl d_RO_holds_18 ?_
        refine lv_icmp_ge (tgt := 28) hx hb d_RO_holds_21 (by decide) (fun c_2 => ?_) (fun c_2 => ?_)
        · have h := xif_t c_2 h
          refine lv_iconst (v := (0 : Int32)) hx hb d_RO_holds_28 (by decide) ?_
          have h9 := Option.some.inj h
          subst h9
          exact W.zret (v := (0 : Int32)) hx hb hr (by decide) (fun t ht hW => ⟨⟨(0 : Int32), (), rfl, rfl, by show va_P D xcl _ t.heap; rw [ht]; exact hP⟩, hS.F ht⟩) hS.2.2 d_RO_holds_29
        · have h := xif_f c_2 h
          refine lv_iconst (v := (1 : Int32)) hx hb d_RO_holds_24 (by decide) ?_
          refine lv_goto (tgt := 29) hx hb d_RO_holds_25 (by decide) ?_
          have h9 := Option.some.inj h
          subst h9
          exact W.zret (v := (1 : Int32)) hx hb hr (by decide) (fun t ht hW => ⟨⟨(1 : Int32), (), rfl, rfl, by show va_P D xcl _ t.heap; rw [ht]; exact hP⟩, hS.F ht⟩) hS.2.2 d_RO_holds_29
theorem c_RO_holds (l : Launch) (D : va_G) (lay : Nat → Nat) (cA : Nat → ClassId) (adK adV : Nat → Nat) (s0 : State) (S : XS) (a0 : Nat) (a1 : Int32) (a2 : Int32) (r : Int32) (h : f_RO_holds S a0 a1 a2 = some r) : Met l y_RO_holds (.code y_RO_holds b_RO_holds 3 ((Option.some Jvm.ClassFile.FieldType.boolean)) :: xT) rm_RO_holds (xPc D lay cA adK adV s0 S [.ref (lay a0), .int a1, .int a2]) (xqi D lay cA r S) 0 0 (xI lay) := by
  refine Met.ofW (cc := b_RO_holds) (maxL := 3) (ret := (Option.some Jvm.ClassFile.FieldType.boolean)) (by decide +kernel) rfl ?_
  intro p e s m args below meth c s₁ B hml hv
  obtain ⟨rfl, hP, E⟩ := hv
  have C := xB_of B hml
  have hl := lv_entry ([.ref (lay a0), .int a1, .int a2]) (n := 3) (Nat.le_of_ble_eq_true rfl)
  rw [lg_entry_eq]
  generalize (lg_sl ([.ref (lay a0), .int a1, .int a2]) ++ List.replicate (3 - (lg_sl ([.ref (lay a0), .int a1, .int a2])).length) Slot.unset).toArray = ls at hl ⊢
  exact k_RO_holds l C E S a0 a1 a2 r h s.heap [] ls hP va_S.rf hl
/-! ConfigTexts$Rows.get(II)I -/
def rm_RO_get : Room := { frames := 1, cells := 0, slots := 0, locals := 22 }
theorem d_RO_get_0 : decode b_RO_get 0 = .ok (.aload_n 0, 1) := by decide +kernel
theorem d_RO_get_1 : decode b_RO_get 1 = .ok (.iload_n 1, 1) := by decide +kernel
theorem d_RO_get_2 : decode b_RO_get 2 = .ok (.iload_n 2, 1) := by decide +kernel
theorem d_RO_get_3 : decode b_RO_get 3 = .ok (.invokevirtual 33, 3) := by decide +kernel
theorem d_RO_get_6 : decode b_RO_get 6 = .ok (.ifCond .eq 19, 3) := by decide +kernel
theorem d_RO_get_9 : decode b_RO_get 9 = .ok (.aload_n 0, 1) := by decide +kernel
theorem d_RO_get_10 : decode b_RO_get 10 = .ok (.getfield 22, 3) := by decide +kernel
theorem d_RO_get_13 : decode b_RO_get 13 = .ok (.iload_n 1, 1) := by decide +kernel
theorem d_RO_get_14 : decode b_RO_get 14 = .ok (.aload_n 0, 1) := by decide +kernel
theorem d_RO_get_15 : decode b_RO_get 15 = .ok (.getfield 15, 3) := by decide +kernel
theorem d_RO_get_18 : decode b_RO_get 18 = .ok (.imul, 1) := by decide +kernel
theorem d_RO_get_19 : decode b_RO_get 19 = .ok (.iload_n 2, 1) := by decide +kernel
theorem d_RO_get_20 : decode b_RO_get 20 = .ok (.iadd, 1) := by decide +kernel
theorem d_RO_get_21 : decode b_RO_get 21 = .ok (.iaload, 1) := by decide +kernel
theorem d_RO_get_22 : decode b_RO_get 22 = .ok (.goto 4, 3) := by decide +kernel
theorem d_RO_get_25 : decode b_RO_get 25 = .ok (.iconst (-1), 1) := by decide +kernel
theorem d_RO_get_26 : decode b_RO_get 26 = .ok (.ireturn, 1) := by decide +kernel
def f_RO_get (S : XS) (a0 : Nat) (a1 : Int32) (a2 : Int32) : Option (Int32) :=
  if xR a0 then ((f_RO_holds S a0 a1 a2).bind fun q3 => if q3 = 0 then (some (-1 : Int32)) else (if ¬ (((a1 * (xgi S a0 1)) + a2) < 0 ∨ xMost a0 * xWid a0 ≤ ((a1 * (xgi S a0 1)) + a2).toNatClampNeg) then (some (xgi S (a0 + 2) ((a1 * (xgi S a0 1)) + a2).toNatClampNeg)) else none)) else none
set_option maxHeartbeats 4000000 in
set_option maxRecDepth 100000 in
theorem k_RO_get (l : Launch) {p : Program} {e : Env} {s : State} {m : MethodId} {args : Array Value} {below : List Frame} {meth : Method} {c : Code} {D : va_G} {lay : Nat → Nat} {cA : Nat → ClassId} {adK adV : Nat → Nat} {s0 : State} (C : xB p s m args meth c R_RO b_RO_get ((Option.some Jvm.ClassFile.FieldType.int)) 3) (E : xE D lay cA adK adV s0 s s.heap) : ∀ (S : XS) (a0 : Nat) (a1 : Int32) (a2 : Int32) (r : Int32) (_ : f_RO_get S a0 a1 a2 = some r) (H : Heap) (locs : List Loc) (ls : Array Slot), va_P D xcl (xw lay cA S) H → va_S (xI lay) s.heap H locs → lv_has ls 3 [(0, .ref (lay a0)), (1, .int a1), (2, .int a2)] → W p l e rm_RO_get s m args below meth c H locs 0 0 (MQ below (xqi D lay cA r S) args s 0 0 (xI lay)) (F0 m 0 ls []) := by
  obtain ⟨hx, hb, hr, hml, hown, hts, hlk, hnh⟩ := id C
  have hK := E.K
  intro S a0 a1 a2 r h H locs ls hP hS hl
  unfold f_RO_get at h
  refine lv_aload_n hx hb d_RO_get_0 rfl (lv_at hl 0 rfl) ?_
  refine lv_iload_n hx hb d_RO_get_1 rfl (lv_at hl 1 rfl) ?_
  refine lv_iload_n hx hb d_RO_get_2 rfl (lv_at hl 2 rfl) ?_
  obtain ⟨hk1, h⟩ := xg h
  obtain ⟨q3, e2, h⟩ := xb h
  refine xc_i (va_runV (As := [.int a1, .int a2]) (rest := []) ⟨hx, hb, hml, hown, hts⟩ (c_RO_holds l D lay cA adK adV s0 S a0 a1 a2 q3 e2) (cwV 2 hts (xT_V wd_245 wd_247 wp_2 wd_5 wd_248) rfl rfl rfl (by decide +kernel) ⟨Nat.le_of_ble_eq_true rfl, Nat.le_of_ble_eq_true rfl⟩) (xpV E hP hS (xR_lt hk1).1 (xc_RO _ _ _ _ hk1) rfl) rfl rfl hl.1 rfl (lv_room (Nat.le_of_ble_eq_true rfl)) d_RO_get_3 ⟨Nat.le_of_ble_eq_true rfl, Nat.le_of_ble_eq_true rfl⟩) hS (fun H locs hP hS => ?_)
  refine lv_if_eq (tgt := 25) hx hb d_RO_get_6 (by decide) (fun c_5 => ?_) (fun c_5 => ?_)
  · have h := xif_t c_5 h
    refine lv_iconst (v := (-1 : Int32)) hx hb d_RO_get_25 (by decide) ?_
    have h9 := Option.some.inj h
    subst h9
    exact W.iret (v := (-1 : Int32)) hx hb hr (fun t ht hW => ⟨⟨(-1 : Int32), (), rfl, rfl, by show va_P D xcl _ t.heap; rw [ht]; exact hP⟩, hS.F ht⟩) hS.2.2 d_RO_get_26
  · have h := xif_f c_5 h
    refine lv_aload_n hx hb d_RO_get_9 rfl (lv_at hl 0 rfl) ?_
    refine va_get (v := .ref (lay (a0 + 2))) (C := R_RO) (T := F_RO) (N := 5) hx hb hts i_RO hown hK hP a0 (xw_at (xR_lt hk1).1 (xc_RO _ _ _ _ hk1)) rfl 3 (by decide) (hts _ wd_91) (fun _ h9 => h9) rfl d_RO_get_10 ?_
    refine lv_iload_n hx hb d_RO_get_13 rfl (lv_at hl 1 rfl) ?_
    refine lv_aload_n hx hb d_RO_get_14 rfl (lv_at hl 0 rfl) ?_
    refine va_get (v := .int (xgi S a0 1)) (C := R_RO) (T := F_RO) (N := 5) hx hb hts i_RO hown hK hP a0 (xw_at (xR_lt hk1).1 (xc_RO _ _ _ _ hk1)) rfl 1 (by decide) (hts _ wd_89) (fun _ h9 => h9) rfl d_RO_get_15 ?_
    refine lv_imul hx hb d_RO_get_18 ?_
    refine lv_iload_n hx hb d_RO_get_19 rfl (lv_at hl 2 rfl) ?_
    refine lv_iadd hx hb d_RO_get_20 ?_
    obtain ⟨hg4, h⟩ := xg h
    refine xal_ROU hx hb E hP hk1 hg4 d_RO_get_21 ?_
    refine lv_goto (tgt := 26) hx hb d_RO_get_22 (by decide) ?_
    have h9 := Option.some.inj h
    subst h9
    exact W.iret (v := xgi S (a0 + 2) ((a1 * (xgi S a0 1)) + a2).toNatClampNeg) hx hb hr (fun t ht hW => ⟨⟨xgi S (a0 + 2) ((a1 * (xgi S a0 1)) + a2).toNatClampNeg, (), rfl, rfl, by show va_P D xcl _ t.heap; rw [ht]; exact hP⟩, hS.F ht⟩) hS.2.2 d_RO_get_26
theorem c_RO_get (l : Launch) (D : va_G) (lay : Nat → Nat) (cA : Nat → ClassId) (adK adV : Nat → Nat) (s0 : State) (S : XS) (a0 : Nat) (a1 : Int32) (a2 : Int32) (r : Int32) (h : f_RO_get S a0 a1 a2 = some r) : Met l y_RO_get (.code y_RO_get b_RO_get 3 ((Option.some Jvm.ClassFile.FieldType.int)) :: xT) rm_RO_get (xPc D lay cA adK adV s0 S [.ref (lay a0), .int a1, .int a2]) (xqi D lay cA r S) 0 0 (xI lay) := by
  refine Met.ofW (cc := b_RO_get) (maxL := 3) (ret := (Option.some Jvm.ClassFile.FieldType.int)) (by decide +kernel) rfl ?_
  intro p e s m args below meth c s₁ B hml hv
  obtain ⟨rfl, hP, E⟩ := hv
  have C := xB_of B hml
  have hl := lv_entry ([.ref (lay a0), .int a1, .int a2]) (n := 3) (Nat.le_of_ble_eq_true rfl)
  rw [lg_entry_eq]
  generalize (lg_sl ([.ref (lay a0), .int a1, .int a2]) ++ List.replicate (3 - (lg_sl ([.ref (lay a0), .int a1, .int a2])).length) Slot.unset).toArray = ls at hl ⊢
  exact k_RO_get l C E S a0 a1 a2 r h s.heap [] ls hP va_S.rf hl
/-! ConfigTexts$Rows.set(III)V -/
def rm_RO_set : Room := { frames := 1, cells := 0, slots := 0, locals := 22 }
theorem d_RO_set_0 : decode b_RO_set 0 = .ok (.aload_n 0, 1) := by decide +kernel
theorem d_RO_set_1 : decode b_RO_set 1 = .ok (.iload_n 1, 1) := by decide +kernel
theorem d_RO_set_2 : decode b_RO_set 2 = .ok (.iload_n 2, 1) := by decide +kernel
theorem d_RO_set_3 : decode b_RO_set 3 = .ok (.invokevirtual 33, 3) := by decide +kernel
theorem d_RO_set_6 : decode b_RO_set 6 = .ok (.ifCond .eq 17, 3) := by decide +kernel
theorem d_RO_set_9 : decode b_RO_set 9 = .ok (.aload_n 0, 1) := by decide +kernel
theorem d_RO_set_10 : decode b_RO_set 10 = .ok (.getfield 22, 3) := by decide +kernel
theorem d_RO_set_13 : decode b_RO_set 13 = .ok (.iload_n 1, 1) := by decide +kernel
theorem d_RO_set_14 : decode b_RO_set 14 = .ok (.aload_n 0, 1) := by decide +kernel
theorem d_RO_set_15 : decode b_RO_set 15 = .ok (.getfield 15, 3) := by decide +kernel
theorem d_RO_set_18 : decode b_RO_set 18 = .ok (.imul, 1) := by decide +kernel
theorem d_RO_set_19 : decode b_RO_set 19 = .ok (.iload_n 2, 1) := by decide +kernel
theorem d_RO_set_20 : decode b_RO_set 20 = .ok (.iadd, 1) := by decide +kernel
theorem d_RO_set_21 : decode b_RO_set 21 = .ok (.iload_n 3, 1) := by decide +kernel
theorem d_RO_set_22 : decode b_RO_set 22 = .ok (.iastore, 1) := by decide +kernel
theorem d_RO_set_23 : decode b_RO_set 23 = .ok (.return_, 1) := by decide +kernel
def f_RO_set (S : XS) (a0 : Nat) (a1 : Int32) (a2 : Int32) (a3 : Int32) : Option (XS) :=
  if xR a0 then ((f_RO_holds S a0 a1 a2).bind fun q3 => if q3 = 0 then (some S) else (if ¬ (((a1 * (xgi S a0 1)) + a2) < 0 ∨ xMost a0 * xWid a0 ≤ ((a1 * (xgi S a0 1)) + a2).toNatClampNeg) then (some (xpi S (a0 + 2) ((a1 * (xgi S a0 1)) + a2).toNatClampNeg a3)) else none)) else none
set_option maxHeartbeats 4000000 in
set_option maxRecDepth 100000 in
theorem k_RO_set (l : Launch) {p : Program} {e : Env} {s : State} {m : MethodId} {args : Array Value} {below : List Frame} {meth : Method} {c : Code} {D : va_G} {lay : Nat → Nat} {cA : Nat → ClassId} {adK adV : Nat → Nat} {s0 : State} (C : xB p s m args meth c R_RO b_RO_set ((Option.none : Option Jvm.ClassFile.FieldType)) 4) (E : xE D lay cA adK adV s0 s s.heap) : ∀ (S : XS) (a0 : Nat) (a1 : Int32) (a2 : Int32) (a3 : Int32) (r : XS) (_ : f_RO_set S a0 a1 a2 a3 = some r) (H : Heap) (locs : List Loc) (ls : Array Slot), va_P D xcl (xw lay cA S) H → va_S (xI lay) s.heap H locs → lv_has ls 4 [(0, .ref (lay a0)), (1, .int a1), (2, .int a2), (3, .int a3)] → W p l e rm_RO_set s m args below meth c H locs 0 0 (MQ below (xqv D lay cA r) args s 0 0 (xI lay)) (F0 m 0 ls []) := by
  obtain ⟨hx, hb, hr, hml, hown, hts, hlk, hnh⟩ := id C
  have hK := E.K
  intro S a0 a1 a2 a3 r h H locs ls hP hS hl
  unfold f_RO_set at h
  refine lv_aload_n hx hb d_RO_set_0 rfl (lv_at hl 0 rfl) ?_
  refine lv_iload_n hx hb d_RO_set_1 rfl (lv_at hl 1 rfl) ?_
  refine lv_iload_n hx hb d_RO_set_2 rfl (lv_at hl 2 rfl) ?_
  obtain ⟨hk1, h⟩ := xg h
  obtain ⟨q3, e2, h⟩ := xb h
  refine xc_i (va_runV (As := [.int a1, .int a2]) (rest := []) ⟨hx, hb, hml, hown, hts⟩ (c_RO_holds l D lay cA adK adV s0 S a0 a1 a2 q3 e2) (cwV 2 hts (xT_V wd_245 wd_247 wp_2 wd_5 wd_248) rfl rfl rfl (by decide +kernel) ⟨Nat.le_of_ble_eq_true rfl, Nat.le_of_ble_eq_true rfl⟩) (xpV E hP hS (xR_lt hk1).1 (xc_RO _ _ _ _ hk1) rfl) rfl rfl hl.1 rfl (lv_room (Nat.le_of_ble_eq_true rfl)) d_RO_set_3 ⟨Nat.le_of_ble_eq_true rfl, Nat.le_of_ble_eq_true rfl⟩) hS (fun H locs hP hS => ?_)
  refine lv_if_eq (tgt := 23) hx hb d_RO_set_6 (by decide) (fun c_5 => ?_) (fun c_5 => ?_)
  · have h := xif_t c_5 h
    have h9 := Option.some.inj h
    subst h9
    exact W.vret hx hb hr (fun t ht hW => ⟨⟨(), rfl, trivial, by show va_P D xcl _ t.heap; rw [ht]; exact hP⟩, hS.F ht⟩) hS.2.2 d_RO_set_23
  · have h := xif_f c_5 h
    refine lv_aload_n hx hb d_RO_set_9 rfl (lv_at hl 0 rfl) ?_
    refine va_get (v := .ref (lay (a0 + 2))) (C := R_RO) (T := F_RO) (N := 5) hx hb hts i_RO hown hK hP a0 (xw_at (xR_lt hk1).1 (xc_RO _ _ _ _ hk1)) rfl 3 (by decide) (hts _ wd_91) (fun _ h9 => h9) rfl d_RO_set_10 ?_
    refine lv_iload_n hx hb d_RO_set_13 rfl (lv_at hl 1 rfl) ?_
    refine lv_aload_n hx hb d_RO_set_14 rfl (lv_at hl 0 rfl) ?_
    refine va_get (v := .int (xgi S a0 1)) (C := R_RO) (T := F_RO) (N := 5) hx hb hts i_RO hown hK hP a0 (xw_at (xR_lt hk1).1 (xc_RO _ _ _ _ hk1)) rfl 1 (by decide) (hts _ wd_89) (fun _ h9 => h9) rfl d_RO_set_15 ?_
    refine lv_imul hx hb d_RO_set_18 ?_
    refine lv_iload_n hx hb d_RO_set_19 rfl (lv_at hl 2 rfl) ?_
    refine lv_iadd hx hb d_RO_set_20 ?_
    refine lv_iload_n hx hb d_RO_set_21 rfl (lv_at hl 3 rfl) ?_
    obtain ⟨hg4, h⟩ := xg h
    refine xas_ROU hx hb E hP hS hk1 hg4 d_RO_set_22 (fun H locs hP hS => ?_)
    have h9 := Option.some.inj h
    subst h9
    exact W.vret hx hb hr (fun t ht hW => ⟨⟨(), rfl, trivial, by show va_P D xcl _ t.heap; rw [ht]; exact hP⟩, hS.F ht⟩) hS.2.2 d_RO_set_23
theorem c_RO_set (l : Launch) (D : va_G) (lay : Nat → Nat) (cA : Nat → ClassId) (adK adV : Nat → Nat) (s0 : State) (S : XS) (a0 : Nat) (a1 : Int32) (a2 : Int32) (a3 : Int32) (r : XS) (h : f_RO_set S a0 a1 a2 a3 = some r) : Met l y_RO_set (.code y_RO_set b_RO_set 4 ((Option.none : Option Jvm.ClassFile.FieldType)) :: xT) rm_RO_set (xPc D lay cA adK adV s0 S [.ref (lay a0), .int a1, .int a2, .int a3]) (xqv D lay cA r) 0 0 (xI lay) := by
  refine Met.ofW (cc := b_RO_set) (maxL := 4) (ret := (Option.none : Option Jvm.ClassFile.FieldType)) (by decide +kernel) rfl ?_
  intro p e s m args below meth c s₁ B hml hv
  obtain ⟨rfl, hP, E⟩ := hv
  have C := xB_of B hml
  have hl := lv_entry ([.ref (lay a0), .int a1, .int a2, .int a3]) (n := 4) (Nat.le_of_ble_eq_true rfl)
  rw [lg_entry_eq]
  generalize (lg_sl ([.ref (lay a0), .int a1, .int a2, .int a3]) ++ List.replicate (4 - (lg_sl ([.ref (lay a0), .int a1, .int a2, .int a3])).length) Slot.unset).toArray = ls at hl ⊢
  exact k_RO_set l C E S a0 a1 a2 a3 r h s.heap [] ls hP va_S.rf hl
/-! ConfigTexts$Rows.setLast(II)V -/
def rm_RO_setLast : Room := { frames := 2, cells := 0, slots := 0, locals := 45 }
theorem d_RO_setLast_0 : decode b_RO_setLast 0 = .ok (.aload_n 0, 1) := by decide +kernel
theorem d_RO_setLast_1 : decode b_RO_setLast 1 = .ok (.aload_n 0, 1) := by decide +kernel
theorem d_RO_setLast_2 : decode b_RO_setLast 2 = .ok (.getfield 26, 3) := by decide +kernel
theorem d_RO_setLast_5 : decode b_RO_setLast 5 = .ok (.iconst 1, 1) := by decide +kernel
theorem d_RO_setLast_6 : decode b_RO_setLast 6 = .ok (.isub, 1) := by decide +kernel
theorem d_RO_setLast_7 : decode b_RO_setLast 7 = .ok (.iload_n 1, 1) := by decide +kernel
theorem d_RO_setLast_8 : decode b_RO_setLast 8 = .ok (.iload_n 2, 1) := by decide +kernel
theorem d_RO_setLast_9 : decode b_RO_setLast 9 = .ok (.invokevirtual 37, 3) := by decide +kernel
theorem d_RO_setLast_12 : decode b_RO_setLast 12 = .ok (.return_, 1) := by decide +kernel
def f_RO_setLast (S : XS) (a0 : Nat) (a1 : Int32) (a2 : Int32) : Option (XS) :=
  if xR a0 then ((f_RO_set S a0 ((xgi S a0 4) - (1 : Int32)) a1 a2).bind fun q3 => some q3) else none
set_option maxHeartbeats 4000000 in
set_option maxRecDepth 100000 in
theorem k_RO_setLast (l : Launch) {p : Program} {e : Env} {s : State} {m : MethodId} {args : Array Value} {below : List Frame} {meth : Method} {c : Code} {D : va_G} {lay : Nat → Nat} {cA : Nat → ClassId} {adK adV : Nat → Nat} {s0 : State} (C : xB p s m args meth c R_RO b_RO_setLast ((Option.none : Option Jvm.ClassFile.FieldType)) 3) (E : xE D lay cA adK adV s0 s s.heap) : ∀ (S : XS) (a0 : Nat) (a1 : Int32) (a2 : Int32) (r : XS) (_ : f_RO_setLast S a0 a1 a2 = some r) (H : Heap) (locs : List Loc) (ls : Array Slot), va_P D xcl (xw lay cA S) H → va_S (xI lay) s.heap H locs → lv_has ls 3 [(0, .ref (lay a0)), (1, .int a1), (2, .int a2)] → W p l e rm_RO_setLast s m args below meth c H locs 0 0 (MQ below (xqv D lay cA r) args s 0 0 (xI lay)) (F0 m 0 ls []) := by
  obtain ⟨hx, hb, hr, hml, hown, hts, hlk, hnh⟩ := id C
  have hK := E.K
  intro S a0 a1 a2 r h H locs ls hP hS hl
  unfold f_RO_setLast at h
  refine lv_aload_n hx hb d_RO_setLast_0 rfl (lv_at hl 0 rfl) ?_
  refine lv_aload_n hx hb d_RO_setLast_1 rfl (lv_at hl 0 rfl) ?_
  obtain ⟨hk1, h⟩ := xg h
  refine va_get (v := .int (xgi S a0 4)) (C := R_RO) (T := F_RO) (N := 5) hx hb hts i_RO hown hK hP a0 (xw_at (xR_lt hk1).1 (xc_RO _ _ _ _ hk1)) rfl 4 (by decide) (hts _ wd_92) (fun _ h9 => h9) rfl d_RO_setLast_2 ?_
  refine lv_iconst (v := (1 : Int32)) hx hb d_RO_setLast_5 (by decide) ?_
  refine lv_isub hx hb d_RO_setLast_6 ?_
  refine lv_iload_n hx hb d_RO_setLast_7 rfl (lv_at hl 1 rfl) ?_
  refine lv_iload_n hx hb d_RO_setLast_8 rfl (lv_at hl 2 rfl) ?_
  obtain ⟨q3, e2, h⟩ := xb h
  refine xc_v (va_runV (As := [.int ((xgi S a0 4) - (1 : Int32)), .int a1, .int a2]) (rest := []) ⟨hx, hb, hml, hown, hts⟩ (c_RO_set l D lay cA adK adV s0 S a0 ((xgi S a0 4) - (1 : Int32)) a1 a2 q3 e2) (cwV 3 hts (xT_V wd_569 wd_570 wd_571 wd_5 wd_572) rfl rfl rfl (by decide +kernel) ⟨Nat.le_of_ble_eq_true rfl, Nat.le_of_ble_eq_true rfl⟩) (xpV E hP hS (xR_lt hk1).1 (xc_RO _ _ _ _ hk1) rfl) rfl rfl hl.1 rfl (lv_room (Nat.le_of_ble_eq_true rfl)) d_RO_setLast_9 ⟨Nat.le_of_ble_eq_true rfl, Nat.le_of_ble_eq_true rfl⟩) hS (fun H locs hP hS => ?_)
  have h9 := Option.some.inj h
  subst h9
  exact W.vret hx hb hr (fun t ht hW => ⟨⟨(), rfl, trivial, by show va_P D xcl _ t.heap; rw [ht]; exact hP⟩, hS.F ht⟩) hS.2.2 d_RO_setLast_12
theorem c_RO_setLast (l : Launch) (D : va_G) (lay : Nat → Nat) (cA : Nat → ClassId) (adK adV : Nat → Nat) (s0 : State) (S : XS) (a0 : Nat) (a1 : Int32) (a2 : Int32) (r : XS) (h : f_RO_setLast S a0 a1 a2 = some r) : Met l y_RO_setLast (.code y_RO_setLast b_RO_setLast 3 ((Option.none : Option Jvm.ClassFile.FieldType)) :: xT) rm_RO_setLast (xPc D lay cA adK adV s0 S [.ref (lay a0), .int a1, .int a2]) (xqv D lay cA r) 0 0 (xI lay) := by
  refine Met.ofW (cc := b_RO_setLast) (maxL := 3) (ret := (Option.none : Option Jvm.ClassFile.FieldType)) (by decide +kernel) rfl ?_
  intro p e s m args below meth c s₁ B hml hv
  obtain ⟨rfl, hP, E⟩ := hv
  have C := xB_of B hml
  have hl := lv_entry ([.ref (lay a0), .int a1, .int a2]) (n := 3) (Nat.le_of_ble_eq_true rfl)
  rw [lg_entry_eq]
  generalize (lg_sl ([.ref (lay a0), .int a1, .int a2]) ++ List.replicate (3 - (lg_sl ([.ref (lay a0), .int a1, .int a2])).length) Slot.unset).toArray = ls at hl ⊢
  exact k_RO_setLast l C E S a0 a1 a2 r h s.heap [] ls hP va_S.rf hl
/-! ConfigTexts$Rows.find(J)I -/
def rm_RO_find : Room := { frames := 0, cells := 0, slots := 0, locals := 0 }
theorem d_RO_find_0 : decode b_RO_find 0 = .ok (.iconst 0, 1) := by decide +kernel
theorem d_RO_find_1 : decode b_RO_find 1 = .ok (.istore_n 3, 1) := by decide +kernel
theorem d_RO_find_2 : decode b_RO_find 2 = .ok (.iload_n 3, 1) := by decide +kernel
theorem d_RO_find_3 : decode b_RO_find 3 = .ok (.aload_n 0, 1) := by decide +kernel
theorem d_RO_find_4 : decode b_RO_find 4 = .ok (.getfield 26, 3) := by decide +kernel
theorem d_RO_find_7 : decode b_RO_find 7 = .ok (.if_icmp .ge 22, 3) := by decide +kernel
theorem d_RO_find_10 : decode b_RO_find 10 = .ok (.aload_n 0, 1) := by decide +kernel
theorem d_RO_find_11 : decode b_RO_find 11 = .ok (.getfield 18, 3) := by decide +kernel
theorem d_RO_find_14 : decode b_RO_find 14 = .ok (.iload_n 3, 1) := by decide +kernel
theorem d_RO_find_15 : decode b_RO_find 15 = .ok (.laload, 1) := by decide +kernel
theorem d_RO_find_16 : decode b_RO_find 16 = .ok (.lload_n 1, 1) := by decide +kernel
theorem d_RO_find_17 : decode b_RO_find 17 = .ok (.lcmp, 1) := by decide +kernel
theorem d_RO_find_18 : decode b_RO_find 18 = .ok (.ifCond .ne 5, 3) := by decide +kernel
theorem d_RO_find_21 : decode b_RO_find 21 = .ok (.iload_n 3, 1) := by decide +kernel
theorem d_RO_find_22 : decode b_RO_find 22 = .ok (.ireturn, 1) := by decide +kernel
theorem d_RO_find_23 : decode b_RO_find 23 = .ok (.iinc 3 1, 3) := by decide +kernel
theorem d_RO_find_26 : decode b_RO_find 26 = .ok (.goto (-24), 3) := by decide +kernel
theorem d_RO_find_29 : decode b_RO_find 29 = .ok (.iconst (-1), 1) := by decide +kernel
theorem d_RO_find_30 : decode b_RO_find 30 = .ok (.ireturn, 1) := by decide +kernel
def f_RO_find_2 : Nat → XS → Nat → Int64 → Int32 → Option (Int32)
  | 0, _, _, _, _ => none
  | n + 1, S, a0, a1, a3 =>
    if xR a0 then (if (xgi S a0 4) ≤ a3 then (some (-1 : Int32)) else (if ¬ (a3 < 0 ∨ xMost a0 ≤ a3.toNatClampNeg) then (if (lg_cmp (xgl S (a0 + 1) a3.toNatClampNeg) a1) = 0 then (some a3) else (f_RO_find_2 n S a0 a1 (a3 + (1 : Int32)))) else none)) else none
set_option maxHeartbeats 4000000 in
set_option maxRecDepth 100000 in
theorem k_RO_find_2 (l : Launch) {p : Program} {e : Env} {s : State} {m : MethodId} {args : Array Value} {below : List Frame} {meth : Method} {c : Code} {D : va_G} {lay : Nat → Nat} {cA : Nat → ClassId} {adK adV : Nat → Nat} {s0 : State} (C : xB p s m args meth c R_RO b_RO_find ((Option.some Jvm.ClassFile.FieldType.int)) 4) (E : xE D lay cA adK adV s0 s s.heap) : ∀ (n : Nat) (S : XS) (a0 : Nat) (a1 : Int64) (a3 : Int32) (r : Int32) (_ : f_RO_find_2 n S a0 a1 a3 = some r) (H : Heap) (locs : List Loc) (ls : Array Slot), va_P D xcl (xw lay cA S) H → va_S (xI lay) s.heap H locs → lv_has ls 4 [(0, .ref (lay a0)), (1, .long a1), (3, .int a3)] → W p l e rm_RO_find s m args below meth c H locs 0 0 (MQ below (xqi D lay cA r S) args s 0 0 (xI lay)) (F0 m 2 ls []) := by
  obtain ⟨hx, hb, hr, hml, hown, hts, hlk, hnh⟩ := id C
  have hK := E.K
  intro n
  induction n with
  | zero => intro S a0 a1 a3 r h; rw [f_RO_find_2] at h; cases h
  | succ n ih =>
    intro S a0 a1 a3 r h H locs ls hP hS hl
    rw [f_RO_find_2] at h
    refine lv_iload_n hx hb d_RO_find_2 rfl (lv_at hl 2 rfl) ?_
    refine lv_aload_n hx hb d_RO_find_3 rfl (lv_at hl 0 rfl) ?_
    obtain ⟨hk1, h⟩ := xg h
    refine va_get (v := .int (xgi S a0 4)) (C := R_RO) (T := F_RO) (N := 5) hx hb hts i_RO hown hK hP a0 (xw_at (xR_lt hk1).1 (xc_RO _ _ _ _ hk1)) rfl 4 (by decide) (hts _ wd_92) (fun _ h9 => h9) rfl d_RO_find_4 ?_
    refine lv_icmp_ge (tgt := 29) hx hb d_RO_find_7 (by decide) (fun c_4 => ?_) (fun c_4 => ?_)
    · have h := xif_t c_4 h
      refine lv_iconst (v := (-1 : Int32)) hx hb d_RO_find_29 (by decide) ?_
      have h9 := Option.some.inj h
      subst h9
      exact W.iret (v := (-1 : Int32)) hx hb hr (fun t ht hW => ⟨⟨(-1 : Int32), (), rfl, rfl, by show va_P D xcl _ t.heap; rw [ht]; exact hP⟩, hS.F ht⟩) hS.2.2 d_RO_find_30
    · have h := xif_f c_4 h
      refine lv_aload_n hx hb d_RO_find_10 rfl (lv_at hl 0 rfl) ?_
      refine va_get (v := .ref (lay (a0 + 1))) (C := R_RO) (T := F_RO) (N := 5) hx hb hts i_RO hown hK hP a0 (xw_at (xR_lt hk1).1 (xc_RO _ _ _ _ hk1)) rfl 2 (by decide) (hts _ wd_90) (fun _ h9 => h9) rfl d_RO_find_11 ?_
      refine lv_iload_n hx hb d_RO_find_14 rfl (lv_at hl 2 rfl) ?_
      obtain ⟨hg2, h⟩ := xg h
      refine xal_RON hx hb E hP hk1 hg2 d_RO_find_15 ?_
      refine lv_lload_n hx hb d_RO_find_16 rfl (lv_at hl 1 rfl) ?_
      refine W.lcmp hx hb d_RO_find_17 ?_
      refine lv_if_ne (tgt := 23) hx hb d_RO_find_18 (by decide) (fun c_3 => ?_) (fun c_3 => ?_)
      · have h := xif_f c_3 h
        refine lv_iinc (v := a3 + (1 : Int32)) (lv' := [(3, .int (a3 + (1 : Int32))), (0, .ref (lay a0)), (1, .long a1)]) hx hb d_RO_find_23 hl (k := 2) rfl (by rfl) (by decide) rfl (fun ls hl => ?_)
        refine lv_goto (tgt := 2) hx hb d_RO_find_26 (by decide) ?_
        exact ih S a0 a1 (a3 + (1 : Int32)) _ h H locs ls hP hS (lv_sub hl [1, 2, 0] rfl)
      · have h := xif_t c_3 h
        refine lv_iload_n hx hb d_RO_find_21 rfl (lv_at hl 2 rfl) ?_
        have h9 := Option.some.inj h
        subst h9
        exact W.iret (v := a3) hx hb hr (fun t ht hW => ⟨⟨a3, (), rfl, rfl, by show va_P D xcl _ t.heap; rw [ht]; exact hP⟩, hS.F ht⟩) hS.2.2 d_RO_find_22
def f_RO_find (S : XS) (a0 : Nat) (a1 : Int64) : Option (Int32) :=
  f_RO_find_2 4096 S a0 a1 (0 : Int32)
set_option maxHeartbeats 4000000 in
set_option maxRecDepth 100000 in
theorem k_RO_find (l : Launch) {p : Program} {e : Env} {s : State} {m : MethodId} {args : Array Value} {below : List Frame} {meth : Method} {c : Code} {D : va_G} {lay : Nat → Nat} {cA : Nat → ClassId} {adK adV : Nat → Nat} {s0 : State} (C : xB p s m args meth c R_RO b_RO_find ((Option.some Jvm.ClassFile.FieldType.int)) 4) (E : xE D lay cA adK adV s0 s s.heap) : ∀ (S : XS) (a0 : Nat) (a1 : Int64) (r : Int32) (_ : f_RO_find S a0 a1 = some r) (H : Heap) (locs : List Loc) (ls : Array Slot), va_P D xcl (xw lay cA S) H → va_S (xI lay) s.heap H locs → lv_has ls 4 [(0, .ref (lay a0)), (1, .long a1)] → W p l e rm_RO_find s m args below meth c H locs 0 0 (MQ below (xqi D lay cA r S) args s 0 0 (xI lay)) (F0 m 0 ls []) := by
  obtain ⟨hx, hb, hr, hml, hown, hts, hlk, hnh⟩ := id C
  have hK := E.K
  intro S a0 a1 r h H locs ls hP hS hl
  unfold f_RO_find at h
  refine lv_iconst (v := (0 : Int32)) hx hb d_RO_find_0 (by decide) ?_
  refine lv_istore_n (lv' := [(3, .int (0 : Int32)), (0, .ref (lay a0)), (1, .long a1)]) hx hb d_RO_find_1 rfl hl (by decide) rfl (fun ls hl => ?_)
  exact k_RO_find_2 l C E 4096 S a0 a1 (0 : Int32) _ h H locs ls hP hS (lv_sub hl [1, 2, 0] rfl)
theorem c_RO_find (l : Launch) (D : va_G) (lay : Nat → Nat) (cA : Nat → ClassId) (adK adV : Nat → Nat) (s0 : State) (S : XS) (a0 : Nat) (a1 : Int64) (r : Int32) (h : f_RO_find S a0 a1 = some r) : Met l y_RO_find (.code y_RO_find b_RO_find 4 ((Option.some Jvm.ClassFile.FieldType.int)) :: xT) rm_RO_find (xPc D lay cA adK adV s0 S [.ref (lay a0), .long a1]) (xqi D lay cA r S) 0 0 (xI lay) := by
  refine Met.ofW (cc := b_RO_find) (maxL := 4) (ret := (Option.some Jvm.ClassFile.FieldType.int)) (by decide +kernel) rfl ?_
  intro p e s m args below meth c s₁ B hml hv
  obtain ⟨rfl, hP, E⟩ := hv
  have C := xB_of B hml
  have hl := lv_entry ([.ref (lay a0), .long a1]) (n := 4) (Nat.le_of_ble_eq_true rfl)
  rw [lg_entry_eq]
  generalize (lg_sl ([.ref (lay a0), .long a1]) ++ List.replicate (4 - (lg_sl ([.ref (lay a0), .long a1])).length) Slot.unset).toArray = ls at hl ⊢
  exact k_RO_find l C E S a0 a1 r h s.heap [] ls hP va_S.rf hl
/-! ConfigTexts$Partition.begin(J)V -/
def rm_PA_begin : Room := { frames := 1, cells := 0, slots := 0, locals := 20 }
theorem d_PA_begin_0 : decode b_PA_begin 0 = .ok (.aload_n 0, 1) := by decide +kernel
theorem d_PA_begin_1 : decode b_PA_begin 1 = .ok (.lload_n 1, 1) := by decide +kernel
theorem d_PA_begin_2 : decode b_PA_begin 2 = .ok (.putfield 30, 3) := by decide +kernel
theorem d_PA_begin_5 : decode b_PA_begin 5 = .ok (.aload_n 0, 1) := by decide +kernel
theorem d_PA_begin_6 : decode b_PA_begin 6 = .ok (.iconst 0, 1) := by decide +kernel
theorem d_PA_begin_7 : decode b_PA_begin 7 = .ok (.putfield 34, 3) := by decide +kernel
theorem d_PA_begin_10 : decode b_PA_begin 10 = .ok (.aload_n 0, 1) := by decide +kernel
theorem d_PA_begin_11 : decode b_PA_begin 11 = .ok (.iconst (-1), 1) := by decide +kernel
theorem d_PA_begin_12 : decode b_PA_begin 12 = .ok (.putfield 38, 3) := by decide +kernel
theorem d_PA_begin_15 : decode b_PA_begin 15 = .ok (.iconst 0, 1) := by decide +kernel
theorem d_PA_begin_16 : decode b_PA_begin 16 = .ok (.istore_n 3, 1) := by decide +kernel
theorem d_PA_begin_17 : decode b_PA_begin 17 = .ok (.iload_n 3, 1) := by decide +kernel
theorem d_PA_begin_18 : decode b_PA_begin 18 = .ok (.iconst 4, 1) := by decide +kernel
theorem d_PA_begin_19 : decode b_PA_begin 19 = .ok (.if_icmp .ge 16, 3) := by decide +kernel
theorem d_PA_begin_22 : decode b_PA_begin 22 = .ok (.aload_n 0, 1) := by decide +kernel
theorem d_PA_begin_23 : decode b_PA_begin 23 = .ok (.getfield 9, 3) := by decide +kernel
theorem d_PA_begin_26 : decode b_PA_begin 26 = .ok (.iload_n 3, 1) := by decide +kernel
theorem d_PA_begin_27 : decode b_PA_begin 27 = .ok (.iconst 0, 1) := by decide +kernel
theorem d_PA_begin_28 : decode b_PA_begin 28 = .ok (.iastore, 1) := by decide +kernel
theorem d_PA_begin_29 : decode b_PA_begin 29 = .ok (.iinc 3 1, 3) := by decide +kernel
theorem d_PA_begin_32 : decode b_PA_begin 32 = .ok (.goto (-15), 3) := by decide +kernel
theorem d_PA_begin_35 : decode b_PA_begin 35 = .ok (.iconst 0, 1) := by decide +kernel
theorem d_PA_begin_36 : decode b_PA_begin 36 = .ok (.istore_n 3, 1) := by decide +kernel
theorem d_PA_begin_37 : decode b_PA_begin 37 = .ok (.iload_n 3, 1) := by decide +kernel
theorem d_PA_begin_38 : decode b_PA_begin 38 = .ok (.bipush 6, 2) := by decide +kernel
theorem d_PA_begin_40 : decode b_PA_begin 40 = .ok (.if_icmp .ge 18, 3) := by decide +kernel
theorem d_PA_begin_43 : decode b_PA_begin 43 = .ok (.aload_n 0, 1) := by decide +kernel
theorem d_PA_begin_44 : decode b_PA_begin 44 = .ok (.getfield 17, 3) := by decide +kernel
theorem d_PA_begin_47 : decode b_PA_begin 47 = .ok (.iload_n 3, 1) := by decide +kernel
theorem d_PA_begin_48 : decode b_PA_begin 48 = .ok (.aaload, 1) := by decide +kernel
theorem d_PA_begin_49 : decode b_PA_begin 49 = .ok (.invokevirtual 41, 3) := by decide +kernel
theorem d_PA_begin_52 : decode b_PA_begin 52 = .ok (.iinc 3 1, 3) := by decide +kernel
theorem d_PA_begin_55 : decode b_PA_begin 55 = .ok (.goto (-18), 3) := by decide +kernel
theorem d_PA_begin_58 : decode b_PA_begin 58 = .ok (.return_, 1) := by decide +kernel
def f_PA_begin_37 : Nat → XS → Nat → Int32 → Option (XS)
  | 0, _, _, _ => none
  | n + 1, S, a0, a3 =>
    if (6 : Int32) ≤ a3 then (some S) else (if xP a0 then (if ¬ (a3 < 0 ∨ 6 ≤ a3.toNatClampNeg) then (if xR (a0 + 2 + 1 + 3 * a3.toNatClampNeg) then ((f_RO_clear S (a0 + 2 + 1 + 3 * a3.toNatClampNeg)).bind fun q9 => f_PA_begin_37 n q9 a0 (a3 + (1 : Int32))) else none) else none) else none)
set_option maxHeartbeats 4000000 in
set_option maxRecDepth 100000 in
theorem k_PA_begin_37 (l : Launch) {p : Program} {e : Env} {s : State} {m : MethodId} {args : Array Value} {below : List Frame} {meth : Method} {c : Code} {D : va_G} {lay : Nat → Nat} {cA : Nat → ClassId} {adK adV : Nat → Nat} {s0 : State} (C : xB p s m args meth c R_PA b_PA_begin ((Option.none : Option Jvm.ClassFile.FieldType)) 4) (E : xE D lay cA adK adV s0 s s.heap) : ∀ (n : Nat) (S : XS) (a0 : Nat) (a3 : Int32) (r : XS) (_ : f_PA_begin_37 n S a0 a3 = some r) (H : Heap) (locs : List Loc) (ls : Array Slot), va_P D xcl (xw lay cA S) H → va_S (xI lay) s.heap H locs → lv_has ls 4 [(0, .ref (lay a0)), (3, .int a3)] → W p l e rm_PA_begin s m args below meth c H locs 0 0 (MQ below (xqv D lay cA r) args s 0 0 (xI lay)) (F0 m 37 ls []) := by
  obtain ⟨hx, hb, hr, hml, hown, hts, hlk, hnh⟩ := id C
  have hK := E.K
  intro n
  induction n with
  | zero => intro S a0 a3 r h; rw [f_PA_begin_37] at h; cases h
  | succ n ih =>
    intro S a0 a3 r h H locs ls hP hS hl
    rw [f_PA_begin_37] at h
    refine lv_iload_n hx hb d_PA_begin_37 rfl (lv_at hl 1 rfl) ?_
    refine lv_bipush (v := (6 : Int32)) hx hb d_PA_begin_38 (by decide) ?_
    refine lv_icmp_ge (tgt := 58) hx hb d_PA_begin_40 (by decide) (fun c_10 => ?_) (fun c_10 => ?_)
    · have h := xif_t c_10 h
      have h9 := Option.some.inj h
      subst h9
      exact W.vret hx hb hr (fun t ht hW => ⟨⟨(), rfl, trivial, by show va_P D xcl _ t.heap; rw [ht]; exact hP⟩, hS.F ht⟩) hS.2.2 d_PA_begin_58
    · have h := xif_f c_10 h
      refine lv_aload_n hx hb d_PA_begin_43 rfl (lv_at hl 0 rfl) ?_
      obtain ⟨hk5, h⟩ := xg h
      refine va_get (v := .ref (lay (a0 + 2))) (C := R_PA) (T := F_PA) (N := 5) hx hb hts i_PA hown hK hP a0 (xw_at (xP_lt hk5).1 (xc_PA _ _ _ _ hk5)) rfl 4 (by decide) (hts _ wd_116) (fun _ h9 => h9) rfl d_PA_begin_44 ?_
      refine lv_iload_n hx hb d_PA_begin_47 rfl (lv_at hl 1 rfl) ?_
      obtain ⟨hg6, h⟩ := xg h
      refine xal_PAT hx hb E hP hk5 hg6 d_PA_begin_48 ?_
      obtain ⟨hk7, h⟩ := xg h
      obtain ⟨q9, e8, h⟩ := xb h
      refine xc_v (va_runV (As := []) (rest := []) ⟨hx, hb, hml, hown, hts⟩ (c_RO_clear l D lay cA adK adV s0 S (a0 + 2 + 1 + 3 * a3.toNatClampNeg) q9 e8) (cwV 0 hts (xT_V wd_521 wd_274 wd_275 wd_5 wd_276) rfl rfl rfl (by decide +kernel) ⟨Nat.le_of_ble_eq_true rfl, Nat.le_of_ble_eq_true rfl⟩) (xpV E hP hS (xR_lt hk7).1 (xc_RO _ _ _ _ hk7) rfl) rfl rfl hl.1 rfl (lv_room (Nat.le_of_ble_eq_true rfl)) d_PA_begin_49 ⟨Nat.le_of_ble_eq_true rfl, Nat.le_of_ble_eq_true rfl⟩) hS (fun H locs hP hS => ?_)
      refine lv_iinc (v := a3 + (1 : Int32)) (lv' := [(3, .int (a3 + (1 : Int32))), (0, .ref (lay a0))]) hx hb d_PA_begin_52 hl (k := 1) rfl (by rfl) (by decide) rfl (fun ls hl => ?_)
      refine lv_goto (tgt := 37) hx hb d_PA_begin_55 (by decide) ?_
      exact ih q9 a0 (a3 + (1 : Int32)) _ h H locs ls hP hS (lv_sub hl [1, 0] rfl)
def f_PA_begin_17 : Nat → XS → Nat → Int32 → Option (XS)
  | 0, _, _, _ => none
  | n + 1, S, a0, a3 =>
    if (4 : Int32) ≤ a3 then (f_PA_begin_37 4096 S a0 (0 : Int32)) else (if xP a0 then (if ¬ (a3 < 0 ∨ 4 ≤ a3.toNatClampNeg) then (f_PA_begin_17 n (xpi S (a0 + 1) a3.toNatClampNeg (0 : Int32)) a0 (a3 + (1 : Int32))) else none) else none)
set_option maxHeartbeats 4000000 in
set_option maxRecDepth 100000 in
theorem k_PA_begin_17 (l : Launch) {p : Program} {e : Env} {s : State} {m : MethodId} {args : Array Value} {below : List Frame} {meth : Method} {c : Code} {D : va_G} {lay : Nat → Nat} {cA : Nat → ClassId} {adK adV : Nat → Nat} {s0 : State} (C : xB p s m args meth c R_PA b_PA_begin ((Option.none : Option Jvm.ClassFile.FieldType)) 4) (E : xE D lay cA adK adV s0 s s.heap) : ∀ (n : Nat) (S : XS) (a0 : Nat) (a3 : Int32) (r : XS) (_ : f_PA_begin_17 n S a0 a3 = some r) (H : Heap) (locs : List Loc) (ls : Array Slot), va_P D xcl (xw lay cA S) H → va_S (xI lay) s.heap H locs → lv_has ls 4 [(0, .ref (lay a0)), (3, .int a3)] → W p l e rm_PA_begin s m args below meth c H locs 0 0 (MQ below (xqv D lay cA r) args s 0 0 (xI lay)) (F0 m 17 ls []) := by
  obtain ⟨hx, hb, hr, hml, hown, hts, hlk, hnh⟩ := id C
  have hK := E.K
  intro n
  induction n with
  | zero => intro S a0 a3 r h; rw [f_PA_begin_17] at h; cases h
  | succ n ih =>
    intro S a0 a3 r h H locs ls hP hS hl
    rw [f_PA_begin_17] at h
    refine lv_iload_n hx hb d_PA_begin_17 rfl (lv_at hl 1 rfl) ?_
    refine lv_iconst (v := (4 : Int32)) hx hb d_PA_begin_18 (by decide) ?_
    refine lv_icmp_ge (tgt := 35) hx hb d_PA_begin_19 (by decide) (fun c_4 => ?_) (fun c_4 => ?_)
    · have h := xif_t c_4 h
      refine lv_iconst (v := (0 : Int32)) hx hb d_PA_begin_35 (by decide) ?_
      refine lv_istore_n (lv' := [(3, .int (0 : Int32)), (0, .ref (lay a0))]) hx hb d_PA_begin_36 rfl hl (by decide) rfl (fun ls hl => ?_)
      exact k_PA_begin_37 l C E 4096 S a0 (0 : Int32) _ h H locs ls hP hS (lv_sub hl [1, 0] rfl)
    · have h := xif_f c_4 h
      refine lv_aload_n hx hb d_PA_begin_22 rfl (lv_at hl 0 rfl) ?_
      obtain ⟨hk2, h⟩ := xg h
      refine va_get (v := .ref (lay (a0 + 1))) (C := R_PA) (T := F_PA) (N := 5) hx hb hts i_PA hown hK hP a0 (xw_at (xP_lt hk2).1 (xc_PA _ _ _ _ hk2)) rfl 3 (by decide) (hts _ wd_115) (fun _ h9 => h9) rfl d_PA_begin_23 ?_
      refine lv_iload_n hx hb d_PA_begin_26 rfl (lv_at hl 1 rfl) ?_
      refine lv_iconst (v := (0 : Int32)) hx hb d_PA_begin_27 (by decide) ?_
      obtain ⟨hg3, h⟩ := xg h
      refine xas_PAA hx hb E hP hS hk2 hg3 d_PA_begin_28 (fun H locs hP hS => ?_)
      refine lv_iinc (v := a3 + (1 : Int32)) (lv' := [(3, .int (a3 + (1 : Int32))), (0, .ref (lay a0))]) hx hb d_PA_begin_29 hl (k := 1) rfl (by rfl) (by decide) rfl (fun ls hl => ?_)
      refine lv_goto (tgt := 17) hx hb d_PA_begin_32 (by decide) ?_
      exact ih (xpi S (a0 + 1) a3.toNatClampNeg (0 : Int32)) a0 (a3 + (1 : Int32)) _ h H locs ls hP hS (lv_sub hl [1, 0] rfl)
def f_PA_begin (S : XS) (a0 : Nat) (a1 : Int64) : Option (XS) :=
  if xP a0 then (f_PA_begin_17 4096 (xpi (xpi (xpl S a0 0 a1) a0 1 (0 : Int32)) a0 2 (-1 : Int32)) a0 (0 : Int32)) else none
set_option maxHeartbeats 4000000 in
set_option maxRecDepth 100000 in
theorem k_PA_begin (l : Launch) {p : Program} {e : Env} {s : State} {m : MethodId} {args : Array Value} {below : List Frame} {meth : Method} {c : Code} {D : va_G} {lay : Nat → Nat} {cA : Nat → ClassId} {adK adV : Nat → Nat} {s0 : State} (C : xB p s m args meth c R_PA b_PA_begin ((Option.none : Option Jvm.ClassFile.FieldType)) 4) (E : xE D lay cA adK adV s0 s s.heap) : ∀ (S : XS) (a0 : Nat) (a1 : Int64) (r : XS) (_ : f_PA_begin S a0 a1 = some r) (H : Heap) (locs : List Loc) (ls : Array Slot), va_P D xcl (xw lay cA S) H → va_S (xI lay) s.heap H locs → lv_has ls 4 [(0, .ref (lay a0)), (1, .long a1)] → W p l e rm_PA_begin s m args below meth c H locs 0 0 (MQ below (xqv D lay cA r) args s 0 0 (xI lay)) (F0 m 0 ls []) := by
  obtain ⟨hx, hb, hr, hml, hown, hts, hlk, hnh⟩ := id C
  have hK := E.K
  intro S a0 a1 r h H locs ls hP hS hl
  unfold f_PA_begin at h
  refine lv_aload_n hx hb d_PA_begin_0 rfl (lv_at hl 0 rfl) ?_
  refine lv_lload_n hx hb d_PA_begin_1 rfl (lv_at hl 1 rfl) ?_
  obtain ⟨hk1, h⟩ := xg h
  refine xput_PA_0 hx hb hts hown E hP hS hk1 (hts _ wd_109) d_PA_begin_2 (fun H locs hP hS => ?_)
  refine lv_aload_n hx hb d_PA_begin_5 rfl (lv_at hl 0 rfl) ?_
  refine lv_iconst (v := (0 : Int32)) hx hb d_PA_begin_6 (by decide) ?_
  refine xput_PA_1 hx hb hts hown E hP hS hk1 (hts _ wd_111) d_PA_begin_7 (fun H locs hP hS => ?_)
  refine lv_aload_n hx hb d_PA_begin_10 rfl (lv_at hl 0 rfl) ?_
  refine lv_iconst (v := (-1 : Int32)) hx hb d_PA_begin_11 (by decide) ?_
  refine xput_PA_2 hx hb hts hown E hP hS hk1 (hts _ wd_113) d_PA_begin_12 (fun H locs hP hS => ?_)
  refine lv_iconst (v := (0 : Int32)) hx hb d_PA_begin_15 (by decide) ?_
  refine lv_istore_n (lv' := [(3, .int (0 : Int32)), (0, .ref (lay a0)), (1, .long a1)]) hx hb d_PA_begin_16 rfl hl (by decide) rfl (fun ls hl => ?_)
  exact k_PA_begin_17 l C E 4096 (xpi (xpi (xpl S a0 0 a1) a0 1 (0 : Int32)) a0 2 (-1 : Int32)) a0 (0 : Int32) _ h H locs ls hP hS (lv_sub hl [1, 0] rfl)
theorem c_PA_begin (l : Launch) (D : va_G) (lay : Nat → Nat) (cA : Nat → ClassId) (adK adV : Nat → Nat) (s0 : State) (S : XS) (a0 : Nat) (a1 : Int64) (r : XS) (h : f_PA_begin S a0 a1 = some r) : Met l y_PA_begin (.code y_PA_begin b_PA_begin 4 ((Option.none : Option Jvm.ClassFile.FieldType)) :: xT) rm_PA_begin (xPc D lay cA adK adV s0 S [.ref (lay a0), .long a1]) (xqv D lay cA r) 0 0 (xI lay) := by
  refine Met.ofW (cc := b_PA_begin) (maxL := 4) (ret := (Option.none : Option Jvm.ClassFile.FieldType)) (by decide +kernel) rfl ?_
  intro p e s m args below meth c s₁ B hml hv
  obtain ⟨rfl, hP, E⟩ := hv
  have C := xB_of B hml
  have hl := lv_entry ([.ref (lay a0), .long a1]) (n := 4) (Nat.le_of_ble_eq_true rfl)
  rw [lg_entry_eq]
  generalize (lg_sl ([.ref (lay a0), .long a1]) ++ List.replicate (4 - (lg_sl ([.ref (lay a0), .long a1])).length) Slot.unset).toArray = ls at hl ⊢
  exact k_PA_begin l C E S a0 a1 r h s.heap [] ls hP va_S.rf hl
/-! ConfigTexts$Partition.hasThing(J)Z -/
def rm_PA_hasThing : Room := { frames := 1, cells := 0, slots := 0, locals := 23 }
theorem d_PA_hasThing_0 : decode b_PA_hasThing 0 = .ok (.iconst 0, 1) := by decide +kernel
theorem d_PA_hasThing_1 : decode b_PA_hasThing 1 = .ok (.istore_n 3, 1) := by decide +kernel
theorem d_PA_hasThing_2 : decode b_PA_hasThing 2 = .ok (.iload_n 3, 1) := by decide +kernel
theorem d_PA_hasThing_3 : decode b_PA_hasThing 3 = .ok (.bipush 6, 2) := by decide +kernel
theorem d_PA_hasThing_5 : decode b_PA_hasThing 5 = .ok (.if_icmp .ge 25, 3) := by decide +kernel
theorem d_PA_hasThing_8 : decode b_PA_hasThing 8 = .ok (.aload_n 0, 1) := by decide +kernel
theorem d_PA_hasThing_9 : decode b_PA_hasThing 9 = .ok (.getfield 17, 3) := by decide +kernel
theorem d_PA_hasThing_12 : decode b_PA_hasThing 12 = .ok (.iload_n 3, 1) := by decide +kernel
theorem d_PA_hasThing_13 : decode b_PA_hasThing 13 = .ok (.aaload, 1) := by decide +kernel
theorem d_PA_hasThing_14 : decode b_PA_hasThing 14 = .ok (.lload_n 1, 1) := by decide +kernel
theorem d_PA_hasThing_15 : decode b_PA_hasThing 15 = .ok (.invokevirtual 44, 3) := by decide +kernel
theorem d_PA_hasThing_18 : decode b_PA_hasThing 18 = .ok (.iconst (-1), 1) := by decide +kernel
theorem d_PA_hasThing_19 : decode b_PA_hasThing 19 = .ok (.if_icmp .eq 5, 3) := by decide +kernel
theorem d_PA_hasThing_22 : decode b_PA_hasThing 22 = .ok (.iconst 1, 1) := by decide +kernel
theorem d_PA_hasThing_23 : decode b_PA_hasThing 23 = .ok (.ireturn, 1) := by decide +kernel
theorem d_PA_hasThing_24 : decode b_PA_hasThing 24 = .ok (.iinc 3 1, 3) := by decide +kernel
theorem d_PA_hasThing_27 : decode b_PA_hasThing 27 = .ok (.goto (-25), 3) := by decide +kernel
theorem d_PA_hasThing_30 : decode b_PA_hasThing 30 = .ok (.iconst 0, 1) := by decide +kernel
theorem d_PA_hasThing_31 : decode b_PA_hasThing 31 = .ok (.ireturn, 1) := by decide +kernel
def f_PA_hasThing_2 : Nat → XS → Nat → Int64 → Int32 → Option (Int32)
  | 0, _, _, _, _ => none
  | n + 1, S, a0, a1, a3 =>
    if (6 : Int32) ≤ a3 then (some (0 : Int32)) else (if xP a0 then (if ¬ (a3 < 0 ∨ 6 ≤ a3.toNatClampNeg) then (if xR (a0 + 2 + 1 + 3 * a3.toNatClampNeg) then ((f_RO_find S (a0 + 2 + 1 + 3 * a3.toNatClampNeg) a1).bind fun q5 => if q5 = (-1 : Int32) then (f_PA_hasThing_2 n S a0 a1 (a3 + (1 : Int32))) else (some (1 : Int32))) else none) else none) else none)
set_option maxHeartbeats 4000000 in
set_option maxRecDepth 100000 in
theorem k_PA_hasThing_2 (l : Launch) {p : Program} {e : Env} {s : State} {m : MethodId} {args : Array Value} {below : List Frame} {meth : Method} {c : Code} {D : va_G} {lay : Nat → Nat} {cA : Nat → ClassId} {adK adV : Nat → Nat} {s0 : State} (C : xB p s m args meth c R_PA b_PA_hasThing ((Option.some Jvm.ClassFile.FieldType.boolean)) 4) (E : xE D lay cA adK adV s0 s s.heap) : ∀ (n : Nat) (S : XS) (a0 : Nat) (a1 : Int64) (a3 : Int32) (r : Int32) (_ : f_PA_hasThing_2 n S a0 a1 a3 = some r) (H : Heap) (locs : List Loc) (ls : Array Slot), va_P D xcl (xw lay cA S) H → va_S (xI lay) s.heap H locs → lv_has ls 4 [(0, .ref (lay a0)), (1, .long a1), (3, .int a3)] → W p l e rm_PA_hasThing s m args below meth c H locs 0 0 (MQ below (xqi D lay cA r S) args s 0 0 (xI lay)) (F0 m 2 ls []) := by
  obtain ⟨hx, hb, hr, hml, hown, hts, hlk, hnh⟩ := id C
  have hK := E.K
  intro n
  induction n with
  | zero => intro S a0 a1 a3 r h; rw [f_PA_hasThing_2] at h; cases h
  | succ n ih =>
    intro S a0 a1 a3 r h H locs ls hP hS hl
    rw [f_PA_hasThing_2] at h
    refine lv_iload_n hx hb d_PA_hasThing_2 rfl (lv_at hl 2 rfl) ?_
    refine lv_bipush (v := (6 : Int32)) hx hb d_PA_hasThing_3 (by decide) ?_
    refine lv_icmp_ge (tgt := 30) hx hb d_PA_hasThing_5 (by decide) (fun c_7 => ?_) (fun c_7 => ?_)
    · have h := xif_t c_7 h
      refine lv_iconst (v := (0 : Int32)) hx hb d_PA_hasThing_30 (by decide) ?_
      have h9 := Option.some.inj h
      subst h9
      exact W.zret (v := (0 : Int32)) hx hb hr (by decide) (fun t ht hW => ⟨⟨(0 : Int32), (), rfl, rfl, by show va_P D xcl _ t.heap; rw [ht]; exact hP⟩, hS.F ht⟩) hS.2.2 d_PA_hasThing_31
    · have h := xif_f c_7 h
      refine lv_aload_n hx hb d_PA_hasThing_8 rfl (lv_at hl 0 rfl) ?_
      obtain ⟨hk1, h⟩ := xg h
      refine va_get (v := .ref (lay (a0 + 2))) (C := R_PA) (T := F_PA) (N := 5) hx hb hts i_PA hown hK hP a0 (xw_at (xP_lt hk1).1 (xc_PA _ _ _ _ hk1)) rfl 4 (by decide) (hts _ wd_116) (fun _ h9 => h9) rfl d_PA_hasThing_9 ?_
      refine lv_iload_n hx hb d_PA_hasThing_12 rfl (lv_at hl 2 rfl) ?_
      obtain ⟨hg2, h⟩ := xg h
      refine xal_PAT hx hb E hP hk1 hg2 d_PA_hasThing_13 ?_
      refine lv_lload_n hx hb d_PA_hasThing_14 rfl (lv_at hl 1 rfl) ?_
      obtain ⟨hk3, h⟩ := xg h
      obtain ⟨q5, e4, h⟩ := xb h
      refine xc_i (va_runV (As := [.long a1]) (rest := []) ⟨hx, hb, hml, hown, hts⟩ (c_RO_find l D lay cA adK adV s0 S (a0 + 2 + 1 + 3 * a3.toNatClampNeg) a1 q5 e4) (cwV 1 hts (xT_V wd_555 wd_556 wd_557 wd_5 wd_558) rfl rfl rfl (by decide +kernel) ⟨Nat.le_of_ble_eq_true rfl, Nat.le_of_ble_eq_true rfl⟩) (xpV E hP hS (xR_lt hk3).1 (xc_RO _ _ _ _ hk3) rfl) rfl rfl hl.1 rfl (lv_room (Nat.le_of_ble_eq_true rfl)) d_PA_hasThing_15 ⟨Nat.le_of_ble_eq_true rfl, Nat.le_of_ble_eq_true rfl⟩) hS (fun H locs hP hS => ?_)
      refine lv_iconst (v := (-1 : Int32)) hx hb d_PA_hasThing_18 (by decide) ?_
      refine lv_icmp_eq (tgt := 24) hx hb d_PA_hasThing_19 (by decide) (fun c_6 => ?_) (fun c_6 => ?_)
      · have h := xif_t c_6 h
        refine lv_iinc (v := a3 + (1 : Int32)) (lv' := [(3, .int (a3 + (1 : Int32))), (0, .ref (lay a0)), (1, .long a1)]) hx hb d_PA_hasThing_24 hl (k := 2) rfl (by rfl) (by decide) rfl (fun ls hl => ?_)
        refine lv_goto (tgt := 2) hx hb d_PA_hasThing_27 (by decide) ?_
        exact ih S a0 a1 (a3 + (1 : Int32)) _ h H locs ls hP hS (lv_sub hl [1, 2, 0] rfl)
      · have h := xif_f c_6 h
        refine lv_iconst (v := (1 : Int32)) hx hb d_PA_hasThing_22 (by decide) ?_
        have h9 := Option.some.inj h
        subst h9
        exact W.zret (v := (1 : Int32)) hx hb hr (by decide) (fun t ht hW => ⟨⟨(1 : Int32), (), rfl, rfl, by show va_P D xcl _ t.heap; rw [ht]; exact hP⟩, hS.F ht⟩) hS.2.2 d_PA_hasThing_23
def f_PA_hasThing (S : XS) (a0 : Nat) (a1 : Int64) : Option (Int32) :=
  f_PA_hasThing_2 4096 S a0 a1 (0 : Int32)
set_option maxHeartbeats 4000000 in
set_option maxRecDepth 100000 in
theorem k_PA_hasThing (l : Launch) {p : Program} {e : Env} {s : State} {m : MethodId} {args : Array Value} {below : List Frame} {meth : Method} {c : Code} {D : va_G} {lay : Nat → Nat} {cA : Nat → ClassId} {adK adV : Nat → Nat} {s0 : State} (C : xB p s m args meth c R_PA b_PA_hasThing ((Option.some Jvm.ClassFile.FieldType.boolean)) 4) (E : xE D lay cA adK adV s0 s s.heap) : ∀ (S : XS) (a0 : Nat) (a1 : Int64) (r : Int32) (_ : f_PA_hasThing S a0 a1 = some r) (H : Heap) (locs : List Loc) (ls : Array Slot), va_P D xcl (xw lay cA S) H → va_S (xI lay) s.heap H locs → lv_has ls 4 [(0, .ref (lay a0)), (1, .long a1)] → W p l e rm_PA_hasThing s m args below meth c H locs 0 0 (MQ below (xqi D lay cA r S) args s 0 0 (xI lay)) (F0 m 0 ls []) := by
  obtain ⟨hx, hb, hr, hml, hown, hts, hlk, hnh⟩ := id C
  have hK := E.K
  intro S a0 a1 r h H locs ls hP hS hl
  unfold f_PA_hasThing at h
  refine lv_iconst (v := (0 : Int32)) hx hb d_PA_hasThing_0 (by decide) ?_
  refine lv_istore_n (lv' := [(3, .int (0 : Int32)), (0, .ref (lay a0)), (1, .long a1)]) hx hb d_PA_hasThing_1 rfl hl (by decide) rfl (fun ls hl => ?_)
  exact k_PA_hasThing_2 l C E 4096 S a0 a1 (0 : Int32) _ h H locs ls hP hS (lv_sub hl [1, 2, 0] rfl)
theorem c_PA_hasThing (l : Launch) (D : va_G) (lay : Nat → Nat) (cA : Nat → ClassId) (adK adV : Nat → Nat) (s0 : State) (S : XS) (a0 : Nat) (a1 : Int64) (r : Int32) (h : f_PA_hasThing S a0 a1 = some r) : Met l y_PA_hasThing (.code y_PA_hasThing b_PA_hasThing 4 ((Option.some Jvm.ClassFile.FieldType.boolean)) :: xT) rm_PA_hasThing (xPc D lay cA adK adV s0 S [.ref (lay a0), .long a1]) (xqi D lay cA r S) 0 0 (xI lay) := by
  refine Met.ofW (cc := b_PA_hasThing) (maxL := 4) (ret := (Option.some Jvm.ClassFile.FieldType.boolean)) (by decide +kernel) rfl ?_
  intro p e s m args below meth c s₁ B hml hv
  obtain ⟨rfl, hP, E⟩ := hv
  have C := xB_of B hml
  have hl := lv_entry ([.ref (lay a0), .long a1]) (n := 4) (Nat.le_of_ble_eq_true rfl)
  rw [lg_entry_eq]
  generalize (lg_sl ([.ref (lay a0), .long a1]) ++ List.replicate (4 - (lg_sl ([.ref (lay a0), .long a1])).length) Slot.unset).toArray = ls at hl ⊢
  exact k_PA_hasThing l C E S a0 a1 r h s.heap [] ls hP va_S.rf hl
/-! ConfigTexts$Partition.setAction(II)V -/
def rm_PA_setAction : Room := { frames := 0, cells := 0, slots := 0, locals := 0 }
theorem d_PA_setAction_0 : decode b_PA_setAction 0 = .ok (.iload_n 1, 1) := by decide +kernel
theorem d_PA_setAction_1 : decode b_PA_setAction 1 = .ok (.ifCond .lt 15, 3) := by decide +kernel
theorem d_PA_setAction_4 : decode b_PA_setAction 4 = .ok (.iload_n 1, 1) := by decide +kernel
theorem d_PA_setAction_5 : decode b_PA_setAction 5 = .ok (.iconst 4, 1) := by decide +kernel
theorem d_PA_setAction_6 : decode b_PA_setAction 6 = .ok (.if_icmp .ge 10, 3) := by decide +kernel
theorem d_PA_setAction_9 : decode b_PA_setAction 9 = .ok (.aload_n 0, 1) := by decide +kernel
theorem d_PA_setAction_10 : decode b_PA_setAction 10 = .ok (.getfield 9, 3) := by decide +kernel
theorem d_PA_setAction_13 : decode b_PA_setAction 13 = .ok (.iload_n 1, 1) := by decide +kernel
theorem d_PA_setAction_14 : decode b_PA_setAction 14 = .ok (.iload_n 2, 1) := by decide +kernel
theorem d_PA_setAction_15 : decode b_PA_setAction 15 = .ok (.iastore, 1) := by decide +kernel
theorem d_PA_setAction_16 : decode b_PA_setAction 16 = .ok (.return_, 1) := by decide +kernel
def f_PA_setAction (S : XS) (a0 : Nat) (a1 : Int32) (a2 : Int32) : Option (XS) :=
  if a1 < 0 then (some S) else (if (4 : Int32) ≤ a1 then (some S) else (if xP a0 then (if ¬ (a1 < 0 ∨ 4 ≤ a1.toNatClampNeg) then (some (xpi S (a0 + 1) a1.toNatClampNeg a2)) else none) else none))
set_option maxHeartbeats 4000000 in
set_option maxRecDepth 100000 in
theorem k_PA_setAction (l : Launch) {p : Program} {e : Env} {s : State} {m : MethodId} {args : Array Value} {below : List Frame} {meth : Method} {c : Code} {D : va_G} {lay : Nat → Nat} {cA : Nat → ClassId} {adK adV : Nat → Nat} {s0 : State} (C : xB p s m args meth c R_PA b_PA_setAction ((Option.none : Option Jvm.ClassFile.FieldType)) 3) (E : xE D lay cA adK adV s0 s s.heap) : ∀ (S : XS) (a0 : Nat) (a1 : Int32) (a2 : Int32) (r : XS) (_ : f_PA_setAction S a0 a1 a2 = some r) (H : Heap) (locs : List Loc) (ls : Array Slot), va_P D xcl (xw lay cA S) H → va_S (xI lay) s.heap H locs → lv_has ls 3 [(0, .ref (lay a0)), (1, .int a1), (2, .int a2)] → W p l e rm_PA_setAction s m args below meth c H locs 0 0 (MQ below (xqv D lay cA r) args s 0 0 (xI lay)) (F0 m 0 ls []) := by
  obtain ⟨hx, hb, hr, hml, hown, hts, hlk, hnh⟩ := id C
  have hK := E.K
  intro S a0 a1 a2 r h H locs ls hP hS hl
  unfold f_PA_setAction at h
  refine lv_iload_n hx hb d_PA_setAction_0 rfl (lv_at hl 1 rfl) ?_
  refine lv_if_lt (tgt := 16) hx hb d_PA_setAction_1 (by decide) (fun c_4 => ?_) (fun c_4 => ?_)
  · have h := xif_t c_4 h
    have h9 := Option.some.inj h
    subst h9
    exact W.vret hx hb hr (fun t ht hW => ⟨⟨(), rfl, trivial, by show va_P D xcl _ t.heap; rw [ht]; exact hP⟩, hS.F ht⟩) hS.2.2 d_PA_setAction_16
  · have h := xif_f c_4 h
    refine lv_iload_n hx hb d_PA_setAction_4 rfl (lv_at hl 1 rfl) ?_
    refine lv_iconst (v := (4 : Int32)) hx hb d_PA_setAction_5 (by decide) ?_
    refine lv_icmp_ge (tgt := 16) hx hb d_PA_setAction_6 (by decide) (fun c_3 => ?_) (fun c_3 => ?_)
    · have h := xif_t c_3 h
      have h9 := Option.some.inj h
      subst h9
      exact W.vret hx hb hr (fun t ht hW => ⟨⟨(), rfl, trivial, by show va_P D xcl _ t.heap; rw [ht]; exact hP⟩, hS.F ht⟩) hS.2.2 d_PA_setAction_16
    · have h := xif_f c_3 h
      refine lv_aload_n hx hb d_PA_setAction_9 rfl (lv_at hl 0 rfl) ?_
      obtain ⟨hk1, h⟩ := xg h
      refine va_get (v := .ref (lay (a0 + 1))) (C := R_PA) (T := F_PA) (N := 5) hx hb hts i_PA hown hK hP a0 (xw_at (xP_lt hk1).1 (xc_PA _ _ _ _ hk1)) rfl 3 (by decide) (hts _ wd_115) (fun _ h9 => h9) rfl d_PA_setAction_10 ?_
      refine lv_iload_n hx hb d_PA_setAction_13 rfl (lv_at hl 1 rfl) ?_
      refine lv_iload_n hx hb d_PA_setAction_14 rfl (lv_at hl 2 rfl) ?_
      obtain ⟨hg2, h⟩ := xg h
      refine xas_PAA hx hb E hP hS hk1 hg2 d_PA_setAction_15 (fun H locs hP hS => ?_)
      have h9 := Option.some.inj h
      subst h9
      exact W.vret hx hb hr (fun t ht hW => ⟨⟨(), rfl, trivial, by show va_P D xcl _ t.heap; rw [ht]; exact hP⟩, hS.F ht⟩) hS.2.2 d_PA_setAction_16
theorem c_PA_setAction (l : Launch) (D : va_G) (lay : Nat → Nat) (cA : Nat → ClassId) (adK adV : Nat → Nat) (s0 : State) (S : XS) (a0 : Nat) (a1 : Int32) (a2 : Int32) (r : XS) (h : f_PA_setAction S a0 a1 a2 = some r) : Met l y_PA_setAction (.code y_PA_setAction b_PA_setAction 3 ((Option.none : Option Jvm.ClassFile.FieldType)) :: xT) rm_PA_setAction (xPc D lay cA adK adV s0 S [.ref (lay a0), .int a1, .int a2]) (xqv D lay cA r) 0 0 (xI lay) := by
  refine Met.ofW (cc := b_PA_setAction) (maxL := 3) (ret := (Option.none : Option Jvm.ClassFile.FieldType)) (by decide +kernel) rfl ?_
  intro p e s m args below meth c s₁ B hml hv
  obtain ⟨rfl, hP, E⟩ := hv
  have C := xB_of B hml
  have hl := lv_entry ([.ref (lay a0), .int a1, .int a2]) (n := 3) (Nat.le_of_ble_eq_true rfl)
  rw [lg_entry_eq]
  generalize (lg_sl ([.ref (lay a0), .int a1, .int a2]) ++ List.replicate (3 - (lg_sl ([.ref (lay a0), .int a1, .int a2])).length) Slot.unset).toArray = ls at hl ⊢
  exact k_PA_setAction l C E S a0 a1 a2 r h s.heap [] ls hP va_S.rf hl
/-! ConfigTexts$Partition.get(I)I -/
def rm_PA_get : Room := { frames := 0, cells := 0, slots := 0, locals := 0 }
theorem d_PA_get_0 : decode b_PA_get 0 = .ok (.iload_n 1, 1) := by decide +kernel
theorem d_PA_get_1 : decode b_PA_get 1 = .ok (.ifCond .ne 8, 3) := by decide +kernel
theorem d_PA_get_4 : decode b_PA_get 4 = .ok (.aload_n 0, 1) := by decide +kernel
theorem d_PA_get_5 : decode b_PA_get 5 = .ok (.getfield 34, 3) := by decide +kernel
theorem d_PA_get_8 : decode b_PA_get 8 = .ok (.ireturn, 1) := by decide +kernel
theorem d_PA_get_9 : decode b_PA_get 9 = .ok (.iload_n 1, 1) := by decide +kernel
theorem d_PA_get_10 : decode b_PA_get 10 = .ok (.iconst 1, 1) := by decide +kernel
theorem d_PA_get_11 : decode b_PA_get 11 = .ok (.if_icmp .lt 21, 3) := by decide +kernel
theorem d_PA_get_14 : decode b_PA_get 14 = .ok (.iload_n 1, 1) := by decide +kernel
theorem d_PA_get_15 : decode b_PA_get 15 = .ok (.bipush 6, 2) := by decide +kernel
theorem d_PA_get_17 : decode b_PA_get 17 = .ok (.if_icmp .gt 15, 3) := by decide +kernel
theorem d_PA_get_20 : decode b_PA_get 20 = .ok (.aload_n 0, 1) := by decide +kernel
theorem d_PA_get_21 : decode b_PA_get 21 = .ok (.getfield 17, 3) := by decide +kernel
theorem d_PA_get_24 : decode b_PA_get 24 = .ok (.iload_n 1, 1) := by decide +kernel
theorem d_PA_get_25 : decode b_PA_get 25 = .ok (.iconst 1, 1) := by decide +kernel
theorem d_PA_get_26 : decode b_PA_get 26 = .ok (.isub, 1) := by decide +kernel
theorem d_PA_get_27 : decode b_PA_get 27 = .ok (.aaload, 1) := by decide +kernel
theorem d_PA_get_28 : decode b_PA_get 28 = .ok (.getfield 48, 3) := by decide +kernel
theorem d_PA_get_31 : decode b_PA_get 31 = .ok (.ireturn, 1) := by decide +kernel
theorem d_PA_get_32 : decode b_PA_get 32 = .ok (.iload_n 1, 1) := by decide +kernel
theorem d_PA_get_33 : decode b_PA_get 33 = .ok (.bipush 7, 2) := by decide +kernel
theorem d_PA_get_35 : decode b_PA_get 35 = .ok (.if_icmp .ne 8, 3) := by decide +kernel
theorem d_PA_get_38 : decode b_PA_get 38 = .ok (.aload_n 0, 1) := by decide +kernel
theorem d_PA_get_39 : decode b_PA_get 39 = .ok (.getfield 38, 3) := by decide +kernel
theorem d_PA_get_42 : decode b_PA_get 42 = .ok (.ireturn, 1) := by decide +kernel
theorem d_PA_get_43 : decode b_PA_get 43 = .ok (.iload_n 1, 1) := by decide +kernel
theorem d_PA_get_44 : decode b_PA_get 44 = .ok (.bipush 8, 2) := by decide +kernel
theorem d_PA_get_46 : decode b_PA_get 46 = .ok (.if_icmp .lt 21, 3) := by decide +kernel
theorem d_PA_get_49 : decode b_PA_get 49 = .ok (.iload_n 1, 1) := by decide +kernel
theorem d_PA_get_50 : decode b_PA_get 50 = .ok (.bipush 12, 2) := by decide +kernel
theorem d_PA_get_52 : decode b_PA_get 52 = .ok (.if_icmp .ge 15, 3) := by decide +kernel
theorem d_PA_get_55 : decode b_PA_get 55 = .ok (.aload_n 0, 1) := by decide +kernel
theorem d_PA_get_56 : decode b_PA_get 56 = .ok (.getfield 9, 3) := by decide +kernel
theorem d_PA_get_59 : decode b_PA_get 59 = .ok (.iload_n 1, 1) := by decide +kernel
theorem d_PA_get_60 : decode b_PA_get 60 = .ok (.bipush 8, 2) := by decide +kernel
theorem d_PA_get_62 : decode b_PA_get 62 = .ok (.isub, 1) := by decide +kernel
theorem d_PA_get_63 : decode b_PA_get 63 = .ok (.iaload, 1) := by decide +kernel
theorem d_PA_get_64 : decode b_PA_get 64 = .ok (.goto 4, 3) := by decide +kernel
theorem d_PA_get_67 : decode b_PA_get 67 = .ok (.iconst (-1), 1) := by decide +kernel
theorem d_PA_get_68 : decode b_PA_get 68 = .ok (.ireturn, 1) := by decide +kernel
def f_PA_get_32 (S : XS) (a0 : Nat) (a1 : Int32) : Option (Int32) :=
  if a1 = (7 : Int32) then (if xP a0 then (some (xgi S a0 2)) else none) else (if a1 < (8 : Int32) then (some (-1 : Int32)) else (if (12 : Int32) ≤ a1 then (some (-1 : Int32)) else (if xP a0 then (if ¬ ((a1 - (8 : Int32)) < 0 ∨ 4 ≤ (a1 - (8 : Int32)).toNatClampNeg) then (some (xgi S (a0 + 1) (a1 - (8 : Int32)).toNatClampNeg)) else none) else none)))
set_option maxHeartbeats 4000000 in
set_option maxRecDepth 100000 in
theorem k_PA_get_32 (l : Launch) {p : Program} {e : Env} {s : State} {m : MethodId} {args : Array Value} {below : List Frame} {meth : Method} {c : Code} {D : va_G} {lay : Nat → Nat} {cA : Nat → ClassId} {adK adV : Nat → Nat} {s0 : State} (C : xB p s m args meth c R_PA b_PA_get ((Option.some Jvm.ClassFile.FieldType.int)) 2) (E : xE D lay cA adK adV s0 s s.heap) : ∀ (S : XS) (a0 : Nat) (a1 : Int32) (r : Int32) (_ : f_PA_get_32 S a0 a1 = some r) (H : Heap) (locs : List Loc) (ls : Array Slot), va_P D xcl (xw lay cA S) H → va_S (xI lay) s.heap H locs → lv_has ls 2 [(0, .ref (lay a0)), (1, .int a1)] → W p l e rm_PA_get s m args below meth c H locs 0 0 (MQ below (xqi D lay cA r S) args s 0 0 (xI lay)) (F0 m 32 ls []) := by
  obtain ⟨hx, hb, hr, hml, hown, hts, hlk, hnh⟩ := id C
  have hK := E.K
  intro S a0 a1 r h H locs ls hP hS hl
  unfold f_PA_get_32 at h
  refine lv_iload_n hx hb d_PA_get_32 rfl (lv_at hl 1 rfl) ?_
  refine lv_bipush (v := (7 : Int32)) hx hb d_PA_get_33 (by decide) ?_
  refine lv_icmp_ne (tgt := 43) hx hb d_PA_get_35 (by decide) (fun c_13 => ?_) (fun c_13 => ?_)
  · have h := xif_f c_13 h
    refine lv_iload_n hx hb d_PA_get_43 rfl (lv_at hl 1 rfl) ?_
    refine lv_bipush (v := (8 : Int32)) hx hb d_PA_get_44 (by decide) ?_
    refine lv_icmp_lt (tgt := 67) hx hb d_PA_get_46 (by decide) (fun c_11 => ?_) (fun c_11 => ?_)
    · have h := xif_t c_11 h
      refine lv_iconst (v := (-1 : Int32)) hx hb d_PA_get_67 (by decide) ?_
      have h9 := Option.some.inj h
      subst h9
      exact W.iret (v := (-1 : Int32)) hx hb hr (fun t ht hW => ⟨⟨(-1 : Int32), (), rfl, rfl, by show va_P D xcl _ t.heap; rw [ht]; exact hP⟩, hS.F ht⟩) hS.2.2 d_PA_get_68
    · have h := xif_f c_11 h
      refine lv_iload_n hx hb d_PA_get_49 rfl (lv_at hl 1 rfl) ?_
      refine lv_bipush (v := (12 : Int32)) hx hb d_PA_get_50 (by decide) ?_
      refine lv_icmp_ge (tgt := 67) hx hb d_PA_get_52 (by decide) (fun c_10 => ?_) (fun c_10 => ?_)
      · have h := xif_t c_10 h
        refine lv_iconst (v := (-1 : Int32)) hx hb d_PA_get_67 (by decide) ?_
        have h9 := Option.some.inj h
        subst h9
        exact W.iret (v := (-1 : Int32)) hx hb hr (fun t ht hW => ⟨⟨(-1 : Int32), (), rfl, rfl, by show va_P D xcl _ t.heap; rw [ht]; exact hP⟩, hS.F ht⟩) hS.2.2 d_PA_get_68
      · have h := xif_f c_10 h
        refine lv_aload_n hx hb d_PA_get_55 rfl (lv_at hl 0 rfl) ?_
        obtain ⟨hk8, h⟩ := xg h
        refine va_get (v := .ref (lay (a0 + 1))) (C := R_PA) (T := F_PA) (N := 5) hx hb hts i_PA hown hK hP a0 (xw_at (xP_lt hk8).1 (xc_PA _ _ _ _ hk8)) rfl 3 (by decide) (hts _ wd_115) (fun _ h9 => h9) rfl d_PA_get_56 ?_
        refine lv_iload_n hx hb d_PA_get_59 rfl (lv_at hl 1 rfl) ?_
        refine lv_bipush (v := (8 : Int32)) hx hb d_PA_get_60 (by decide) ?_
        refine lv_isub hx hb d_PA_get_62 ?_
        obtain ⟨hg9, h⟩ := xg h
        refine xal_PAA hx hb E hP hk8 hg9 d_PA_get_63 ?_
        refine lv_goto (tgt := 68) hx hb d_PA_get_64 (by decide) ?_
        have h9 := Option.some.inj h
        subst h9
        exact W.iret (v := xgi S (a0 + 1) (a1 - (8 : Int32)).toNatClampNeg) hx hb hr (fun t ht hW => ⟨⟨xgi S (a0 + 1) (a1 - (8 : Int32)).toNatClampNeg, (), rfl, rfl, by show va_P D xcl _ t.heap; rw [ht]; exact hP⟩, hS.F ht⟩) hS.2.2 d_PA_get_68
  · have h := xif_t c_13 h
    refine lv_aload_n hx hb d_PA_get_38 rfl (lv_at hl 0 rfl) ?_
    obtain ⟨hk12, h⟩ := xg h
    refine va_get (v := .int (xgi S a0 2)) (C := R_PA) (T := F_PA) (N := 5) hx hb hts i_PA hown hK hP a0 (xw_at (xP_lt hk12).1 (xc_PA _ _ _ _ hk12)) rfl 2 (by decide) (hts _ wd_113) (fun _ h9 => h9) rfl d_PA_get_39 ?_
    have h9 := Option.some.inj h
    subst h9
    exact W.iret (v := xgi S a0 2) hx hb hr (fun t ht hW => ⟨⟨xgi S a0 2, (), rfl, rfl, by show va_P D xcl _ t.heap; rw [ht]; exact hP⟩, hS.F ht⟩) hS.2.2 d_PA_get_42
def f_PA_get (S : XS) (a0 : Nat) (a1 : Int32) : Option (Int32) :=
  if a1 = 0 then (if xP a0 then (some (xgi S a0 1)) else none) else (if a1 < (1 : Int32) then (f_PA_get_32 S a0 a1) else (if (6 : Int32) < a1 then (f_PA_get_32 S a0 a1) else (if xP a0 then (if ¬ ((a1 - (1 : Int32)) < 0 ∨ 6 ≤ (a1 - (1 : Int32)).toNatClampNeg) then (if xR (a0 + 2 + 1 + 3 * (a1 - (1 : Int32)).toNatClampNeg) then (some (xgi S (a0 + 2 + 1 + 3 * (a1 - (1 : Int32)).toNatClampNeg) 4)) else none) else none) else none)))
set_option maxHeartbeats 4000000 in
set_option maxRecDepth 100000 in
theorem k_PA_get (l : Launch) {p : Program} {e : Env} {s : State} {m : MethodId} {args : Array Value} {below : List Frame} {meth : Method} {c : Code} {D : va_G} {lay : Nat → Nat} {cA : Nat → ClassId} {adK adV : Nat → Nat} {s0 : State} (C : xB p s m args meth c R_PA b_PA_get ((Option.some Jvm.ClassFile.FieldType.int)) 2) (E : xE D lay cA adK adV s0 s s.heap) : ∀ (S : XS) (a0 : Nat) (a1 : Int32) (r : Int32) (_ : f_PA_get S a0 a1 = some r) (H : Heap) (locs : List Loc) (ls : Array Slot), va_P D xcl (xw lay cA S) H → va_S (xI lay) s.heap H locs → lv_has ls 2 [(0, .ref (lay a0)), (1, .int a1)] → W p l e rm_PA_get s m args below meth c H locs 0 0 (MQ below (xqi D lay cA r S) args s 0 0 (xI lay)) (F0 m 0 ls []) := by
  obtain ⟨hx, hb, hr, hml, hown, hts, hlk, hnh⟩ := id C
  have hK := E.K
  intro S a0 a1 r h H locs ls hP hS hl
  unfold f_PA_get at h
  refine lv_iload_n hx hb d_PA_get_0 rfl (lv_at hl 1 rfl) ?_
  refine lv_if_ne (tgt := 9) hx hb d_PA_get_1 (by decide) (fun c_7 => ?_) (fun c_7 => ?_)
  · have h := xif_f c_7 h
    refine lv_iload_n hx hb d_PA_get_9 rfl (lv_at hl 1 rfl) ?_
    refine lv_iconst (v := (1 : Int32)) hx hb d_PA_get_10 (by decide) ?_
    refine lv_icmp_lt (tgt := 32) hx hb d_PA_get_11 (by decide) (fun c_5 => ?_) (fun c_5 => ?_)
    · have h := xif_t c_5 h
      exact k_PA_get_32 l C E S a0 a1 _ h H locs ls hP hS hl
    · have h := xif_f c_5 h
      refine lv_iload_n hx hb d_PA_get_14 rfl (lv_at hl 1 rfl) ?_
      refine lv_bipush (v := (6 : Int32)) hx hb d_PA_get_15 (by decide) ?_
      refine lv_icmp_gt (tgt := 32) hx hb d_PA_get_17 (by decide) (fun c_4 => ?_) (fun c_4 => ?_)
      · have h := xif_t c_4 h
        exact k_PA_get_32 l C E S a0 a1 _ h H locs ls hP hS hl
      · have h := xif_f c_4 h
        refine lv_aload_n hx hb d_PA_get_20 rfl (lv_at hl 0 rfl) ?_
        obtain ⟨hk1, h⟩ := xg h
        refine va_get (v := .ref (lay (a0 + 2))) (C := R_PA) (T := F_PA) (N := 5) hx hb hts i_PA hown hK hP a0 (xw_at (xP_lt hk1).1 (xc_PA _ _ _ _ hk1)) rfl 4 (by decide) (hts _ wd_116) (fun _ h9 => h9) rfl d_PA_get_21 ?_
        refine lv_iload_n hx hb d_PA_get_24 rfl (lv_at hl 1 rfl) ?_
        refine lv_iconst (v := (1 : Int32)) hx hb d_PA_get_25 (by decide) ?_
        refine lv_isub hx hb d_PA_get_26 ?_
        obtain ⟨hg2, h⟩ := xg h
        refine xal_PAT hx hb E hP hk1 hg2 d_PA_get_27 ?_
        obtain ⟨hk3, h⟩ := xg h
        refine va_getN (v := .int (xgi S (a0 + 2 + 1 + 3 * (a1 - (1 : Int32)).toNatClampNeg) 4)) (C := R_RO) (T := F_RO) (N := 5) hx hb hts i_RO hown hK hP (a0 + 2 + 1 + 3 * (a1 - (1 : Int32)).toNatClampNeg) (xw_at (xR_lt hk3).1 (xc_RO _ _ _ _ hk3)) rfl 4 (by decide) (E.nest wn_93) (fun _ h9 => h9) rfl d_PA_get_28 ?_
        have h9 := Option.some.inj h
        subst h9
        exact W.iret (v := xgi S (a0 + 2 + 1 + 3 * (a1 - (1 : Int32)).toNatClampNeg) 4) hx hb hr (fun t ht hW => ⟨⟨xgi S (a0 + 2 + 1 + 3 * (a1 - (1 : Int32)).toNatClampNeg) 4, (), rfl, rfl, by show va_P D xcl _ t.heap; rw [ht]; exact hP⟩, hS.F ht⟩) hS.2.2 d_PA_get_31
  · have h := xif_t c_7 h
    refine lv_aload_n hx hb d_PA_get_4 rfl (lv_at hl 0 rfl) ?_
    obtain ⟨hk6, h⟩ := xg h
    refine va_get (v := .int (xgi S a0 1)) (C := R_PA) (T := F_PA) (N := 5) hx hb hts i_PA hown hK hP a0 (xw_at (xP_lt hk6).1 (xc_PA _ _ _ _ hk6)) rfl 1 (by decide) (hts _ wd_111) (fun _ h9 => h9) rfl d_PA_get_5 ?_
    have h9 := Option.some.inj h
    subst h9
    exact W.iret (v := xgi S a0 1) hx hb hr (fun t ht hW => ⟨⟨xgi S a0 1, (), rfl, rfl, by show va_P D xcl _ t.heap; rw [ht]; exact hP⟩, hS.F ht⟩) hS.2.2 d_PA_get_8
theorem c_PA_get (l : Launch) (D : va_G) (lay : Nat → Nat) (cA : Nat → ClassId) (adK adV : Nat → Nat) (s0 : State) (S : XS) (a0 : Nat) (a1 : Int32) (r : Int32) (h : f_PA_get S a0 a1 = some r) : Met l y_PA_get (.code y_PA_get b_PA_get 2 ((Option.some Jvm.ClassFile.FieldType.int)) :: xT) rm_PA_get (xPc D lay cA adK adV s0 S [.ref (lay a0), .int a1]) (xqi D lay cA r S) 0 0 (xI lay) := by
  refine Met.ofW (cc := b_PA_get) (maxL := 2) (ret := (Option.some Jvm.ClassFile.FieldType.int)) (by decide +kernel) rfl ?_
  intro p e s m args below meth c s₁ B hml hv
  obtain ⟨rfl, hP, E⟩ := hv
  have C := xB_of B hml
  have hl := lv_entry ([.ref (lay a0), .int a1]) (n := 2) (Nat.le_of_ble_eq_true rfl)
  rw [lg_entry_eq]
  generalize (lg_sl ([.ref (lay a0), .int a1]) ++ List.replicate (2 - (lg_sl ([.ref (lay a0), .int a1])).length) Slot.unset).toArray = ls at hl ⊢
  exact k_PA_get l C E S a0 a1 r h s.heap [] ls hP va_S.rf hl
/-! ConfigTexts$Configuration.clear()V -/
def rm_CF_clear : Room := { frames := 1, cells := 0, slots := 0, locals := 20 }
theorem d_CF_clear_0 : decode b_CF_clear 0 = .ok (.aload_n 0, 1) := by decide +kernel
theorem d_CF_clear_1 : decode b_CF_clear 1 = .ok (.iconst 0, 1) := by decide +kernel
theorem d_CF_clear_2 : decode b_CF_clear 2 = .ok (.putfield 30, 3) := by decide +kernel
theorem d_CF_clear_5 : decode b_CF_clear 5 = .ok (.aload_n 0, 1) := by decide +kernel
theorem d_CF_clear_6 : decode b_CF_clear 6 = .ok (.getfield 23, 3) := by decide +kernel
theorem d_CF_clear_9 : decode b_CF_clear 9 = .ok (.invokevirtual 34, 3) := by decide +kernel
theorem d_CF_clear_12 : decode b_CF_clear 12 = .ok (.aload_n 0, 1) := by decide +kernel
theorem d_CF_clear_13 : decode b_CF_clear 13 = .ok (.getfield 27, 3) := by decide +kernel
theorem d_CF_clear_16 : decode b_CF_clear 16 = .ok (.invokevirtual 34, 3) := by decide +kernel
theorem d_CF_clear_19 : decode b_CF_clear 19 = .ok (.aload_n 0, 1) := by decide +kernel
theorem d_CF_clear_20 : decode b_CF_clear 20 = .ok (.iconst 0, 1) := by decide +kernel
theorem d_CF_clear_21 : decode b_CF_clear 21 = .ok (.putfield 37, 3) := by decide +kernel
theorem d_CF_clear_24 : decode b_CF_clear 24 = .ok (.aload_n 0, 1) := by decide +kernel
theorem d_CF_clear_25 : decode b_CF_clear 25 = .ok (.iconst 0, 1) := by decide +kernel
theorem d_CF_clear_26 : decode b_CF_clear 26 = .ok (.putfield 40, 3) := by decide +kernel
theorem d_CF_clear_29 : decode b_CF_clear 29 = .ok (.aload_n 0, 1) := by decide +kernel
theorem d_CF_clear_30 : decode b_CF_clear 30 = .ok (.iconst 0, 1) := by decide +kernel
theorem d_CF_clear_31 : decode b_CF_clear 31 = .ok (.putfield 43, 3) := by decide +kernel
theorem d_CF_clear_34 : decode b_CF_clear 34 = .ok (.return_, 1) := by decide +kernel
def f_CF_clear (S : XS)  : Option (XS) :=
  (f_RO_clear (xpi S 3 1 (0 : Int32)) 173).bind fun q2 => (f_RO_clear q2 176).bind fun q4 => some (xpi (xpi (xpi q4 3 4 (0 : Int32)) 3 5 (0 : Int32)) 3 6 (0 : Int32))
set_option maxHeartbeats 4000000 in
set_option maxRecDepth 100000 in
theorem k_CF_clear (l : Launch) {p : Program} {e : Env} {s : State} {m : MethodId} {args : Array Value} {below : List Frame} {meth : Method} {c : Code} {D : va_G} {lay : Nat → Nat} {cA : Nat → ClassId} {adK adV : Nat → Nat} {s0 : State} (C : xB p s m args meth c R_CF b_CF_clear ((Option.none : Option Jvm.ClassFile.FieldType)) 1) (E : xE D lay cA adK adV s0 s s.heap) : ∀ (S : XS)  (r : XS) (_ : f_CF_clear S = some r) (H : Heap) (locs : List Loc) (ls : Array Slot), va_P D xcl (xw lay cA S) H → va_S (xI lay) s.heap H locs → lv_has ls 1 [(0, .ref (lay 3))] → W p l e rm_CF_clear s m args below meth c H locs 0 0 (MQ below (xqv D lay cA r) args s 0 0 (xI lay)) (F0 m 0 ls []) := by
  obtain ⟨hx, hb, hr, hml, hown, hts, hlk, hnh⟩ := id C
  have hK := E.K
  intro S r h H locs ls hP hS hl
  unfold f_CF_clear at h
  refine lv_aload_n hx hb d_CF_clear_0 rfl (lv_at hl 0 rfl) ?_
  refine lv_iconst (v := (0 : Int32)) hx hb d_CF_clear_1 (by decide) ?_
  refine xput_CF_1 hx hb hts hown E hP hS (hts _ wd_133) d_CF_clear_2 (fun H locs hP hS => ?_)
  refine lv_aload_n hx hb d_CF_clear_5 rfl (lv_at hl 0 rfl) ?_
  refine va_get (v := .ref (lay 173)) (C := R_CF) (T := F_CF) (N := 7) hx hb hts i_CF hown hK hP 3 (xw_at (by decide) (xc_3 _ _ _ _)) rfl 2 (by decide) (hts _ wd_136) (fun _ h9 => h9) rfl d_CF_clear_6 ?_
  obtain ⟨q2, e1, h⟩ := xb h
  refine xc_v (va_runV (As := []) (rest := []) ⟨hx, hb, hml, hown, hts⟩ (c_RO_clear l D lay cA adK adV s0 (xpi S 3 1 (0 : Int32)) 173 q2 e1) (cwV 0 hts (xT_V wd_273 wd_274 wd_275 wd_5 wd_276) rfl rfl rfl (by decide +kernel) ⟨Nat.le_of_ble_eq_true rfl, Nat.le_of_ble_eq_true rfl⟩) (xpV E hP hS (xR_lt (by decide : xR 173)).1 (xc_RO _ _ _ _ (by decide : xR 173)) rfl) rfl rfl hl.1 rfl (lv_room (Nat.le_of_ble_eq_true rfl)) d_CF_clear_9 ⟨Nat.le_of_ble_eq_true rfl, Nat.le_of_ble_eq_true rfl⟩) hS (fun H locs hP hS => ?_)
  refine lv_aload_n hx hb d_CF_clear_12 rfl (lv_at hl 0 rfl) ?_
  refine va_get (v := .ref (lay 176)) (C := R_CF) (T := F_CF) (N := 7) hx hb hts i_CF hown hK hP 3 (xw_at (by decide) (xc_3 _ _ _ _)) rfl 3 (by decide) (hts _ wd_139) (fun _ h9 => h9) rfl d_CF_clear_13 ?_
  obtain ⟨q4, e3, h⟩ := xb h
  refine xc_v (va_runV (As := []) (rest := []) ⟨hx, hb, hml, hown, hts⟩ (c_RO_clear l D lay cA adK adV s0 q2 176 q4 e3) (cwV 0 hts (xT_V wd_273 wd_274 wd_275 wd_5 wd_276) rfl rfl rfl (by decide +kernel) ⟨Nat.le_of_ble_eq_true rfl, Nat.le_of_ble_eq_true rfl⟩) (xpV E hP hS (xR_lt (by decide : xR 176)).1 (xc_RO _ _ _ _ (by decide : xR 176)) rfl) rfl rfl hl.1 rfl (lv_room (Nat.le_of_ble_eq_true rfl)) d_CF_clear_16 ⟨Nat.le_of_ble_eq_true rfl, Nat.le_of_ble_eq_true rfl⟩) hS (fun H locs hP hS => ?_)
  refine lv_aload_n hx hb d_CF_clear_19 rfl (lv_at hl 0 rfl) ?_
  refine lv_iconst (v := (0 : Int32)) hx hb d_CF_clear_20 (by decide) ?_
  refine xput_CF_4 hx hb hts hown E hP hS (hts _ wd_142) d_CF_clear_21 (fun H locs hP hS => ?_)
  refine lv_aload_n hx hb d_CF_clear_24 rfl (lv_at hl 0 rfl) ?_
  refine lv_iconst (v := (0 : Int32)) hx hb d_CF_clear_25 (by decide) ?_
  refine xput_CF_5 hx hb hts hown E hP hS (hts _ wd_144) d_CF_clear_26 (fun H locs hP hS => ?_)
  refine lv_aload_n hx hb d_CF_clear_29 rfl (lv_at hl 0 rfl) ?_
  refine lv_iconst (v := (0 : Int32)) hx hb d_CF_clear_30 (by decide) ?_
  refine xput_CF_6 hx hb hts hown E hP hS (hts _ wd_146) d_CF_clear_31 (fun H locs hP hS => ?_)
  have h9 := Option.some.inj h
  subst h9
  exact W.vret hx hb hr (fun t ht hW => ⟨⟨(), rfl, trivial, by show va_P D xcl _ t.heap; rw [ht]; exact hP⟩, hS.F ht⟩) hS.2.2 d_CF_clear_34
theorem c_CF_clear (l : Launch) (D : va_G) (lay : Nat → Nat) (cA : Nat → ClassId) (adK adV : Nat → Nat) (s0 : State) (S : XS)  (r : XS) (h : f_CF_clear S  = some r) : Met l y_CF_clear (.code y_CF_clear b_CF_clear 1 ((Option.none : Option Jvm.ClassFile.FieldType)) :: xT) rm_CF_clear (xPc D lay cA adK adV s0 S [.ref (lay 3)]) (xqv D lay cA r) 0 0 (xI lay) := by
  refine Met.ofW (cc := b_CF_clear) (maxL := 1) (ret := (Option.none : Option Jvm.ClassFile.FieldType)) (by decide +kernel) rfl ?_
  intro p e s m args below meth c s₁ B hml hv
  obtain ⟨rfl, hP, E⟩ := hv
  have C := xB_of B hml
  have hl := lv_entry ([.ref (lay 3)]) (n := 1) (Nat.le_of_ble_eq_true rfl)
  rw [lg_entry_eq]
  generalize (lg_sl ([.ref (lay 3)]) ++ List.replicate (1 - (lg_sl ([.ref (lay 3)])).length) Slot.unset).toArray = ls at hl ⊢
  exact k_CF_clear l C E S  r h s.heap [] ls hP va_S.rf hl
/-! ConfigTexts$Configuration.isFull()Z -/
def rm_CF_isFull : Room := { frames := 0, cells := 0, slots := 0, locals := 0 }
theorem d_CF_isFull_0 : decode b_CF_isFull 0 = .ok (.aload_n 0, 1) := by decide +kernel
theorem d_CF_isFull_1 : decode b_CF_isFull 1 = .ok (.getfield 30, 3) := by decide +kernel
theorem d_CF_isFull_4 : decode b_CF_isFull 4 = .ok (.bipush 8, 2) := by decide +kernel
theorem d_CF_isFull_6 : decode b_CF_isFull 6 = .ok (.if_icmp .lt 7, 3) := by decide +kernel
theorem d_CF_isFull_9 : decode b_CF_isFull 9 = .ok (.iconst 1, 1) := by decide +kernel
theorem d_CF_isFull_10 : decode b_CF_isFull 10 = .ok (.goto 4, 3) := by decide +kernel
theorem d_CF_isFull_13 : decode b_CF_isFull 13 = .ok (.iconst 0, 1) := by decide +kernel
theorem d_CF_isFull_14 : decode b_CF_isFull 14 = .ok (.ireturn, 1) := by decide +kernel
def f_CF_isFull (S : XS)  : Option (Int32) :=
  if (xgi S 3 1) < (8 : Int32) then (some (0 : Int32)) else (some (1 : Int32))
set_option maxHeartbeats 4000000 in
set_option maxRecDepth 100000 in
theorem k_CF_isFull (l : Launch) {p : Program} {e : Env} {s : State} {m : MethodId} {args : Array Value} {below : List Frame} {meth : Method} {c : Code} {D : va_G} {lay : Nat → Nat} {cA : Nat → ClassId} {adK adV : Nat → Nat} {s0 : State} (C : xB p s m args meth c R_CF b_CF_isFull ((Option.some Jvm.ClassFile.FieldType.boolean)) 1) (E : xE D lay cA adK adV s0 s s.heap) : ∀ (S : XS)  (r : Int32) (_ : f_CF_isFull S = some r) (H : Heap) (locs : List Loc) (ls : Array Slot), va_P D xcl (xw lay cA S) H → va_S (xI lay) s.heap H locs → lv_has ls 1 [(0, .ref (lay 3))] → W p l e rm_CF_isFull s m args below meth c H locs 0 0 (MQ below (xqi D lay cA r S) args s 0 0 (xI lay)) (F0 m 0 ls []) := by
  obtain ⟨hx, hb, hr, hml, hown, hts, hlk, hnh⟩ := id C
  have hK := E.K
  intro S r h H locs ls hP hS hl
  unfold f_CF_isFull at h
  refine lv_aload_n hx hb d_CF_isFull_0 rfl (lv_at hl 0 rfl) ?_
  refine va_get (v := .int (xgi S 3 1)) (C := R_CF) (T := F_CF) (N := 7) hx hb hts i_CF hown hK hP 3 (xw_at (by decide) (xc_3 _ _ _ _)) rfl 1 (by decide) (hts _ wd_133) (fun _ h9 => h9) rfl d_CF_isFull_1 ?_
  refine lv_bipush (v := (8 : Int32)) hx hb d_CF_isFull_4 (by decide) ?_
  refine lv_icmp_lt (tgt := 13) hx hb d_CF_isFull_6 (by decide) (fun c_1 => ?_) (fun c_1 => ?_)
  · have h := xif_t c_1 h
    refine lv_iconst (v := (0 : Int32)) hx hb d_CF_isFull_13 (by decide) ?_
    have h9 := Option.some.inj h
    subst h9
    exact W.zret (v := (0 : Int32)) hx hb hr (by decide) (fun t ht hW => ⟨⟨(0 : Int32), (), rfl, rfl, by show va_P D xcl _ t.heap; rw [ht]; exact hP⟩, hS.F ht⟩) hS.2.2 d_CF_isFull_14
  · have h := xif_f c_1 h
    refine lv_iconst (v := (1 : Int32)) hx hb d_CF_isFull_9 (by decide) ?_
    refine lv_goto (tgt := 14) hx hb d_CF_isFull_10 (by decide) ?_
    have h9 := Option.some.inj h
    subst h9
    exact W.zret (v := (1 : Int32)) hx hb hr (by decide) (fun t ht hW => ⟨⟨(1 : Int32), (), rfl, rfl, by show va_P D xcl _ t.heap; rw [ht]; exact hP⟩, hS.F ht⟩) hS.2.2 d_CF_isFull_14
theorem c_CF_isFull (l : Launch) (D : va_G) (lay : Nat → Nat) (cA : Nat → ClassId) (adK adV : Nat → Nat) (s0 : State) (S : XS)  (r : Int32) (h : f_CF_isFull S  = some r) : Met l y_CF_isFull (.code y_CF_isFull b_CF_isFull 1 ((Option.some Jvm.ClassFile.FieldType.boolean)) :: xT) rm_CF_isFull (xPc D lay cA adK adV s0 S [.ref (lay 3)]) (xqi D lay cA r S) 0 0 (xI lay) := by
  refine Met.ofW (cc := b_CF_isFull) (maxL := 1) (ret := (Option.some Jvm.ClassFile.FieldType.boolean)) (by decide +kernel) rfl ?_
  intro p e s m args below meth c s₁ B hml hv
  obtain ⟨rfl, hP, E⟩ := hv
  have C := xB_of B hml
  have hl := lv_entry ([.ref (lay 3)]) (n := 1) (Nat.le_of_ble_eq_true rfl)
  rw [lg_entry_eq]
  generalize (lg_sl ([.ref (lay 3)]) ++ List.replicate (1 - (lg_sl ([.ref (lay 3)])).length) Slot.unset).toArray = ls at hl ⊢
  exact k_CF_isFull l C E S  r h s.heap [] ls hP va_S.rf hl
/-! ConfigTexts$Configuration.addPartition(J)V -/
def rm_CF_addPartition : Room := { frames := 2, cells := 0, slots := 0, locals := 43 }
theorem d_CF_addPartition_0 : decode b_CF_addPartition 0 = .ok (.aload_n 0, 1) := by decide +kernel
theorem d_CF_addPartition_1 : decode b_CF_addPartition 1 = .ok (.invokevirtual 46, 3) := by decide +kernel
theorem d_CF_addPartition_4 : decode b_CF_addPartition 4 = .ok (.ifCond .eq 4, 3) := by decide +kernel
theorem d_CF_addPartition_7 : decode b_CF_addPartition 7 = .ok (.return_, 1) := by decide +kernel
theorem d_CF_addPartition_8 : decode b_CF_addPartition 8 = .ok (.aload_n 0, 1) := by decide +kernel
theorem d_CF_addPartition_9 : decode b_CF_addPartition 9 = .ok (.getfield 11, 3) := by decide +kernel
theorem d_CF_addPartition_12 : decode b_CF_addPartition 12 = .ok (.aload_n 0, 1) := by decide +kernel
theorem d_CF_addPartition_13 : decode b_CF_addPartition 13 = .ok (.getfield 30, 3) := by decide +kernel
theorem d_CF_addPartition_16 : decode b_CF_addPartition 16 = .ok (.aaload, 1) := by decide +kernel
theorem d_CF_addPartition_17 : decode b_CF_addPartition 17 = .ok (.lload_n 1, 1) := by decide +kernel
theorem d_CF_addPartition_18 : decode b_CF_addPartition 18 = .ok (.invokevirtual 50, 3) := by decide +kernel
theorem d_CF_addPartition_21 : decode b_CF_addPartition 21 = .ok (.aload_n 0, 1) := by decide +kernel
theorem d_CF_addPartition_22 : decode b_CF_addPartition 22 = .ok (.dup, 1) := by decide +kernel
theorem d_CF_addPartition_23 : decode b_CF_addPartition 23 = .ok (.getfield 30, 3) := by decide +kernel
theorem d_CF_addPartition_26 : decode b_CF_addPartition 26 = .ok (.iconst 1, 1) := by decide +kernel
theorem d_CF_addPartition_27 : decode b_CF_addPartition 27 = .ok (.iadd, 1) := by decide +kernel
theorem d_CF_addPartition_28 : decode b_CF_addPartition 28 = .ok (.putfield 30, 3) := by decide +kernel
theorem d_CF_addPartition_31 : decode b_CF_addPartition 31 = .ok (.return_, 1) := by decide +kernel
def f_CF_addPartition (S : XS) (a1 : Int64) : Option (XS) :=
  (f_CF_isFull S).bind fun q2 => if q2 = 0 then (if ¬ ((xgi S 3 1) < 0 ∨ 8 ≤ (xgi S 3 1).toNatClampNeg) then (if xP (5 + 21 * (xgi S 3 1).toNatClampNeg) then ((f_PA_begin S (5 + 21 * (xgi S 3 1).toNatClampNeg) a1).bind fun q6 => some (xpi q6 3 1 ((xgi q6 3 1) + (1 : Int32)))) else none) else none) else (some S)
set_option maxHeartbeats 4000000 in
set_option maxRecDepth 100000 in
theorem k_CF_addPartition (l : Launch) {p : Program} {e : Env} {s : State} {m : MethodId} {args : Array Value} {below : List Frame} {meth : Method} {c : Code} {D : va_G} {lay : Nat → Nat} {cA : Nat → ClassId} {adK adV : Nat → Nat} {s0 : State} (C : xB p s m args meth c R_CF b_CF_addPartition ((Option.none : Option Jvm.ClassFile.FieldType)) 3) (E : xE D lay cA adK adV s0 s s.heap) : ∀ (S : XS) (a1 : Int64) (r : XS) (_ : f_CF_addPartition S a1 = some r) (H : Heap) (locs : List Loc) (ls : Array Slot), va_P D xcl (xw lay cA S) H → va_S (xI lay) s.heap H locs → lv_has ls 3 [(0, .ref (lay 3)), (1, .long a1)] → W p l e rm_CF_addPartition s m args below meth c H locs 0 0 (MQ below (xqv D lay cA r) args s 0 0 (xI lay)) (F0 m 0 ls []) := by
  obtain ⟨hx, hb, hr, hml, hown, hts, hlk, hnh⟩ := id C
  have hK := E.K
  intro S a1 r h H locs ls hP hS hl
  unfold f_CF_addPartition at h
  refine lv_aload_n hx hb d_CF_addPartition_0 rfl (lv_at hl 0 rfl) ?_
  obtain ⟨q2, e1, h⟩ := xb h
  refine xc_i (va_runV (As := []) (rest := []) ⟨hx, hb, hml, hown, hts⟩ (c_CF_isFull l D lay cA adK adV s0 S q2 e1) (cwV 0 hts (xT_V wd_516 wd_499 wd_500 wd_3 wd_501) rfl rfl rfl (by decide +kernel) ⟨Nat.le_of_ble_eq_true rfl, Nat.le_of_ble_eq_true rfl⟩) (xpV E hP hS (by decide) (xc_3 _ _ _ _) rfl) rfl rfl hl.1 rfl (lv_room (Nat.le_of_ble_eq_true rfl)) d_CF_addPartition_1 ⟨Nat.le_of_ble_eq_true rfl, Nat.le_of_ble_eq_true rfl⟩) hS (fun H locs hP hS => ?_)
  refine lv_if_eq (tgt := 8) hx hb d_CF_addPartition_4 (by decide) (fun c_7 => ?_) (fun c_7 => ?_)
  · have h := xif_t c_7 h
    refine lv_aload_n hx hb d_CF_addPartition_8 rfl (lv_at hl 0 rfl) ?_
    refine va_get (v := .ref (lay 4)) (C := R_CF) (T := F_CF) (N := 7) hx hb hts i_CF hown hK hP 3 (xw_at (by decide) (xc_3 _ _ _ _)) rfl 0 (by decide) (hts _ wd_132) (fun _ h9 => h9) rfl d_CF_addPartition_9 ?_
    refine lv_aload_n hx hb d_CF_addPartition_12 rfl (lv_at hl 0 rfl) ?_
    refine va_get (v := .int (xgi S 3 1)) (C := R_CF) (T := F_CF) (N := 7) hx hb hts i_CF hown hK hP 3 (xw_at (by decide) (xc_3 _ _ _ _)) rfl 1 (by decide) (hts _ wd_133) (fun _ h9 => h9) rfl d_CF_addPartition_13 ?_
    obtain ⟨hg3, h⟩ := xg h
    refine xal_PS hx hb E hP hg3 d_CF_addPartition_16 ?_
    refine lv_lload_n hx hb d_CF_addPartition_17 rfl (lv_at hl 1 rfl) ?_
    obtain ⟨hk4, h⟩ := xg h
    obtain ⟨q6, e5, h⟩ := xb h
    refine xc_v (va_runV (As := [.long a1]) (rest := []) ⟨hx, hb, hml, hown, hts⟩ (c_PA_begin l D lay cA adK adV s0 S (5 + 21 * (xgi S 3 1).toNatClampNeg) a1 q6 e5) (cwV 1 hts (xT_V wd_517 wd_518 wd_519 wd_4 wd_520) rfl rfl rfl (by decide +kernel) ⟨Nat.le_of_ble_eq_true rfl, Nat.le_of_ble_eq_true rfl⟩) (xpV E hP hS (xP_lt hk4).1 (xc_PA _ _ _ _ hk4) rfl) rfl rfl hl.1 rfl (lv_room (Nat.le_of_ble_eq_true rfl)) d_CF_addPartition_18 ⟨Nat.le_of_ble_eq_true rfl, Nat.le_of_ble_eq_true rfl⟩) hS (fun H locs hP hS => ?_)
    refine lv_aload_n hx hb d_CF_addPartition_21 rfl (lv_at hl 0 rfl) ?_
    refine lv_dup hx hb d_CF_addPartition_22 rfl ?_
    refine va_get (v := .int (xgi q6 3 1)) (C := R_CF) (T := F_CF) (N := 7) hx hb hts i_CF hown hK hP 3 (xw_at (by decide) (xc_3 _ _ _ _)) rfl 1 (by decide) (hts _ wd_133) (fun _ h9 => h9) rfl d_CF_addPartition_23 ?_
    refine lv_iconst (v := (1 : Int32)) hx hb d_CF_addPartition_26 (by decide) ?_
    refine lv_iadd hx hb d_CF_addPartition_27 ?_
    refine xput_CF_1 hx hb hts hown E hP hS (hts _ wd_133) d_CF_addPartition_28 (fun H locs hP hS => ?_)
    have h9 := Option.some.inj h
    subst h9
    exact W.vret hx hb hr (fun t ht hW => ⟨⟨(), rfl, trivial, by show va_P D xcl _ t.heap; rw [ht]; exact hP⟩, hS.F ht⟩) hS.2.2 d_CF_addPartition_31
  · have h := xif_f c_7 h
    have h9 := Option.some.inj h
    subst h9
    exact W.vret hx hb hr (fun t ht hW => ⟨⟨(), rfl, trivial, by show va_P D xcl _ t.heap; rw [ht]; exact hP⟩, hS.F ht⟩) hS.2.2 d_CF_addPartition_7
theorem c_CF_addPartition (l : Launch) (D : va_G) (lay : Nat → Nat) (cA : Nat → ClassId) (adK adV : Nat → Nat) (s0 : State) (S : XS) (a1 : Int64) (r : XS) (h : f_CF_addPartition S a1 = some r) : Met l y_CF_addPartition (.code y_CF_addPartition b_CF_addPartition 3 ((Option.none : Option Jvm.ClassFile.FieldType)) :: xT) rm_CF_addPartition (xPc D lay cA adK adV s0 S [.ref (lay 3), .long a1]) (xqv D lay cA r) 0 0 (xI lay) := by
  refine Met.ofW (cc := b_CF_addPartition) (maxL := 3) (ret := (Option.none : Option Jvm.ClassFile.FieldType)) (by decide +kernel) rfl ?_
  intro p e s m args below meth c s₁ B hml hv
  obtain ⟨rfl, hP, E⟩ := hv
  have C := xB_of B hml
  have hl := lv_entry ([.ref (lay 3), .long a1]) (n := 3) (Nat.le_of_ble_eq_true rfl)
  rw [lg_entry_eq]
  generalize (lg_sl ([.ref (lay 3), .long a1]) ++ List.replicate (3 - (lg_sl ([.ref (lay 3), .long a1])).length) Slot.unset).toArray = ls at hl ⊢
  exact k_CF_addPartition l C E S a1 r h s.heap [] ls hP va_S.rf hl
/-! ConfigTexts$Configuration.partitionAt(I)LConfigTexts$Partition; -/
def rm_CF_partitionAt : Room := { frames := 0, cells := 0, slots := 0, locals := 0 }
theorem d_CF_partitionAt_0 : decode b_CF_partitionAt 0 = .ok (.iload_n 1, 1) := by decide +kernel
theorem d_CF_partitionAt_1 : decode b_CF_partitionAt 1 = .ok (.ifCond .lt 20, 3) := by decide +kernel
theorem d_CF_partitionAt_4 : decode b_CF_partitionAt 4 = .ok (.iload_n 1, 1) := by decide +kernel
theorem d_CF_partitionAt_5 : decode b_CF_partitionAt 5 = .ok (.aload_n 0, 1) := by decide +kernel
theorem d_CF_partitionAt_6 : decode b_CF_partitionAt 6 = .ok (.getfield 30, 3) := by decide +kernel
theorem d_CF_partitionAt_9 : decode b_CF_partitionAt 9 = .ok (.if_icmp .ge 12, 3) := by decide +kernel
theorem d_CF_partitionAt_12 : decode b_CF_partitionAt 12 = .ok (.aload_n 0, 1) := by decide +kernel
theorem d_CF_partitionAt_13 : decode b_CF_partitionAt 13 = .ok (.getfield 11, 3) := by decide +kernel
theorem d_CF_partitionAt_16 : decode b_CF_partitionAt 16 = .ok (.iload_n 1, 1) := by decide +kernel
theorem d_CF_partitionAt_17 : decode b_CF_partitionAt 17 = .ok (.aaload, 1) := by decide +kernel
theorem d_CF_partitionAt_18 : decode b_CF_partitionAt 18 = .ok (.goto 4, 3) := by decide +kernel
theorem d_CF_partitionAt_21 : decode b_CF_partitionAt 21 = .ok (.aconst_null, 1) := by decide +kernel
theorem d_CF_partitionAt_22 : decode b_CF_partitionAt 22 = .ok (.areturn, 1) := by decide +kernel
def f_CF_partitionAt (S : XS) (a1 : Int32) : Option (Option Nat) :=
  if a1 < 0 then (some none) else (if (xgi S 3 1) ≤ a1 then (some none) else (if ¬ (a1 < 0 ∨ 8 ≤ a1.toNatClampNeg) then (some (some (5 + 21 * a1.toNatClampNeg))) else none))
set_option maxHeartbeats 4000000 in
set_option maxRecDepth 100000 in
theorem k_CF_partitionAt (l : Launch) {p : Program} {e : Env} {s : State} {m : MethodId} {args : Array Value} {below : List Frame} {meth : Method} {c : Code} {D : va_G} {lay : Nat → Nat} {cA : Nat → ClassId} {adK adV : Nat → Nat} {s0 : State} (C : xB p s m args meth c R_CF b_CF_partitionAt ((Option.some (Jvm.ClassFile.FieldType.object "ConfigTexts$Partition"))) 2) (E : xE D lay cA adK adV s0 s s.heap) : ∀ (S : XS) (a1 : Int32) (r : Option Nat) (_ : f_CF_partitionAt S a1 = some r) (H : Heap) (locs : List Loc) (ls : Array Slot), va_P D xcl (xw lay cA S) H → va_S (xI lay) s.heap H locs → lv_has ls 2 [(0, .ref (lay 3)), (1, .int a1)] → W p l e rm_CF_partitionAt s m args below meth c H locs 0 0 (MQ below (xqo D lay cA r S) args s 0 0 (xI lay)) (F0 m 0 ls []) := by
  obtain ⟨hx, hb, hr, hml, hown, hts, hlk, hnh⟩ := id C
  have hK := E.K
  intro S a1 r h H locs ls hP hS hl
  unfold f_CF_partitionAt at h
  refine lv_iload_n hx hb d_CF_partitionAt_0 rfl (lv_at hl 1 rfl) ?_
  refine lv_if_lt (tgt := 21) hx hb d_CF_partitionAt_1 (by decide) (fun c_3 => ?_) (fun c_3 => ?_)
  · have h := xif_t c_3 h
    refine lv_null hx hb d_CF_partitionAt_21 ?_
    have h9 := Option.some.inj h
    subst h9
    exact W.aret (v := .null) hx hb hr (Or.inl ⟨_, rfl⟩) (Or.inl rfl) (fun t ht hW => ⟨⟨rfl, by show va_P D xcl _ t.heap; rw [ht]; exact hP⟩, hS.F ht⟩) hS.2.2 d_CF_partitionAt_22
  · have h := xif_f c_3 h
    refine lv_iload_n hx hb d_CF_partitionAt_4 rfl (lv_at hl 1 rfl) ?_
    refine lv_aload_n hx hb d_CF_partitionAt_5 rfl (lv_at hl 0 rfl) ?_
    refine va_get (v := .int (xgi S 3 1)) (C := R_CF) (T := F_CF) (N := 7) hx hb hts i_CF hown hK hP 3 (xw_at (by decide) (xc_3 _ _ _ _)) rfl 1 (by decide) (hts _ wd_133) (fun _ h9 => h9) rfl d_CF_partitionAt_6 ?_
    refine lv_icmp_ge (tgt := 21) hx hb d_CF_partitionAt_9 (by decide) (fun c_2 => ?_) (fun c_2 => ?_)
    · have h := xif_t c_2 h
      refine lv_null hx hb d_CF_partitionAt_21 ?_
      have h9 := Option.some.inj h
      subst h9
      exact W.aret (v := .null) hx hb hr (Or.inl ⟨_, rfl⟩) (Or.inl rfl) (fun t ht hW => ⟨⟨rfl, by show va_P D xcl _ t.heap; rw [ht]; exact hP⟩, hS.F ht⟩) hS.2.2 d_CF_partitionAt_22
    · have h := xif_f c_2 h
      refine lv_aload_n hx hb d_CF_partitionAt_12 rfl (lv_at hl 0 rfl) ?_
      refine va_get (v := .ref (lay 4)) (C := R_CF) (T := F_CF) (N := 7) hx hb hts i_CF hown hK hP 3 (xw_at (by decide) (xc_3 _ _ _ _)) rfl 0 (by decide) (hts _ wd_132) (fun _ h9 => h9) rfl d_CF_partitionAt_13 ?_
      refine lv_iload_n hx hb d_CF_partitionAt_16 rfl (lv_at hl 1 rfl) ?_
      obtain ⟨hg1, h⟩ := xg h
      refine xal_PS hx hb E hP hg1 d_CF_partitionAt_17 ?_
      refine lv_goto (tgt := 22) hx hb d_CF_partitionAt_18 (by decide) ?_
      have h9 := Option.some.inj h
      subst h9
      exact W.aret (v := .ref (lay (5 + 21 * a1.toNatClampNeg))) hx hb hr (Or.inl ⟨_, rfl⟩) (Or.inr ⟨_, rfl⟩) (fun t ht hW => ⟨⟨rfl, by show va_P D xcl _ t.heap; rw [ht]; exact hP⟩, hS.F ht⟩) hS.2.2 d_CF_partitionAt_22
theorem c_CF_partitionAt (l : Launch) (D : va_G) (lay : Nat → Nat) (cA : Nat → ClassId) (adK adV : Nat → Nat) (s0 : State) (S : XS) (a1 : Int32) (r : Option Nat) (h : f_CF_partitionAt S a1 = some r) : Met l y_CF_partitionAt (.code y_CF_partitionAt b_CF_partitionAt 2 ((Option.some (Jvm.ClassFile.FieldType.object "ConfigTexts$Partition"))) :: xT) rm_CF_partitionAt (xPc D lay cA adK adV s0 S [.ref (lay 3), .int a1]) (xqo D lay cA r S) 0 0 (xI lay) := by
  refine Met.ofW (cc := b_CF_partitionAt) (maxL := 2) (ret := (Option.some (Jvm.ClassFile.FieldType.object "ConfigTexts$Partition"))) (by decide +kernel) rfl ?_
  intro p e s m args below meth c s₁ B hml hv
  obtain ⟨rfl, hP, E⟩ := hv
  have C := xB_of B hml
  have hl := lv_entry ([.ref (lay 3), .int a1]) (n := 2) (Nat.le_of_ble_eq_true rfl)
  rw [lg_entry_eq]
  generalize (lg_sl ([.ref (lay 3), .int a1]) ++ List.replicate (2 - (lg_sl ([.ref (lay 3), .int a1])).length) Slot.unset).toArray = ls at hl ⊢
  exact k_CF_partitionAt l C E S a1 r h s.heap [] ls hP va_S.rf hl
/-! ConfigTexts$Configuration.findPartition(J)I -/
def rm_CF_findPartition : Room := { frames := 0, cells := 0, slots := 0, locals := 0 }
theorem d_CF_findPartition_0 : decode b_CF_findPartition 0 = .ok (.iconst 0, 1) := by decide +kernel
theorem d_CF_findPartition_1 : decode b_CF_findPartition 1 = .ok (.istore_n 3, 1) := by decide +kernel
theorem d_CF_findPartition_2 : decode b_CF_findPartition 2 = .ok (.iload_n 3, 1) := by decide +kernel
theorem d_CF_findPartition_3 : decode b_CF_findPartition 3 = .ok (.aload_n 0, 1) := by decide +kernel
theorem d_CF_findPartition_4 : decode b_CF_findPartition 4 = .ok (.getfield 30, 3) := by decide +kernel
theorem d_CF_findPartition_7 : decode b_CF_findPartition 7 = .ok (.if_icmp .ge 25, 3) := by decide +kernel
theorem d_CF_findPartition_10 : decode b_CF_findPartition 10 = .ok (.aload_n 0, 1) := by decide +kernel
theorem d_CF_findPartition_11 : decode b_CF_findPartition 11 = .ok (.getfield 11, 3) := by decide +kernel
theorem d_CF_findPartition_14 : decode b_CF_findPartition 14 = .ok (.iload_n 3, 1) := by decide +kernel
theorem d_CF_findPartition_15 : decode b_CF_findPartition 15 = .ok (.aaload, 1) := by decide +kernel
theorem d_CF_findPartition_16 : decode b_CF_findPartition 16 = .ok (.getfield 54, 3) := by decide +kernel
theorem d_CF_findPartition_19 : decode b_CF_findPartition 19 = .ok (.lload_n 1, 1) := by decide +kernel
theorem d_CF_findPartition_20 : decode b_CF_findPartition 20 = .ok (.lcmp, 1) := by decide +kernel
theorem d_CF_findPartition_21 : decode b_CF_findPartition 21 = .ok (.ifCond .ne 5, 3) := by decide +kernel
theorem d_CF_findPartition_24 : decode b_CF_findPartition 24 = .ok (.iload_n 3, 1) := by decide +kernel
theorem d_CF_findPartition_25 : decode b_CF_findPartition 25 = .ok (.ireturn, 1) := by decide +kernel
theorem d_CF_findPartition_26 : decode b_CF_findPartition 26 = .ok (.iinc 3 1, 3) := by decide +kernel
theorem d_CF_findPartition_29 : decode b_CF_findPartition 29 = .ok (.goto (-27), 3) := by decide +kernel
theorem d_CF_findPartition_32 : decode b_CF_findPartition 32 = .ok (.iconst (-1), 1) := by decide +kernel
theorem d_CF_findPartition_33 : decode b_CF_findPartition 33 = .ok (.ireturn, 1) := by decide +kernel
def f_CF_findPartition_2 : Nat → XS → Int64 → Int32 → Option (Int32)
  | 0, _, _, _ => none
  | n + 1, S, a1, a3 =>
    if (xgi S 3 1) ≤ a3 then (some (-1 : Int32)) else (if ¬ (a3 < 0 ∨ 8 ≤ a3.toNatClampNeg) then (if xP (5 + 21 * a3.toNatClampNeg) then (if (lg_cmp (xgl S (5 + 21 * a3.toNatClampNeg) 0) a1) = 0 then (some a3) else (f_CF_findPartition_2 n S a1 (a3 + (1 : Int32)))) else none) else none)
set_option maxHeartbeats 4000000 in
set_option maxRecDepth 100000 in
theorem k_CF_findPartition_2 (l : Launch) {p : Program} {e : Env} {s : State} {m : MethodId} {args : Array Value} {below : List Frame} {meth : Method} {c : Code} {D : va_G} {lay : Nat → Nat} {cA : Nat → ClassId} {adK adV : Nat → Nat} {s0 : State} (C : xB p s m args meth c R_CF b_CF_findPartition ((Option.some Jvm.ClassFile.FieldType.int)) 4) (E : xE D lay cA adK adV s0 s s.heap) : ∀ (n : Nat) (S : XS) (a1 : Int64) (a3 : Int32) (r : Int32) (_ : f_CF_findPartition_2 n S a1 a3 = some r) (H : Heap) (locs : List Loc) (ls : Array Slot), va_P D xcl (xw lay cA S) H → va_S (xI lay) s.heap H locs → lv_has ls 4 [(0, .ref (lay 3)), (1, .long a1), (3, .int a3)] → W p l e rm_CF_findPartition s m args below meth c H locs 0 0 (MQ below (xqi D lay cA r S) args s 0 0 (xI lay)) (F0 m 2 ls []) := by
  obtain ⟨hx, hb, hr, hml, hown, hts, hlk, hnh⟩ := id C
  have hK := E.K
  intro n
  induction n with
  | zero => intro S a1 a3 r h; rw [f_CF_findPartition_2] at h; cases h
  | succ n ih =>
    intro S a1 a3 r h H locs ls hP hS hl
    rw [f_CF_findPartition_2] at h
    refine lv_iload_n hx hb d_CF_findPartition_2 rfl (lv_at hl 2 rfl) ?_
    refine lv_aload_n hx hb d_CF_findPartition_3 rfl (lv_at hl 0 rfl) ?_
    refine va_get (v := .int (xgi S 3 1)) (C := R_CF) (T := F_CF) (N := 7) hx hb hts i_CF hown hK hP 3 (xw_at (by decide) (xc_3 _ _ _ _)) rfl 1 (by decide) (hts _ wd_133) (fun _ h9 => h9) rfl d_CF_findPartition_4 ?_
    refine lv_icmp_ge (tgt := 32) hx hb d_CF_findPartition_7 (by decide) (fun c_4 => ?_) (fun c_4 => ?_)
    · have h := xif_t c_4 h
      refine lv_iconst (v := (-1 : Int32)) hx hb d_CF_findPartition_32 (by decide) ?_
      have h9 := Option.some.inj h
      subst h9
      exact W.iret (v := (-1 : Int32)) hx hb hr (fun t ht hW => ⟨⟨(-1 : Int32), (), rfl, rfl, by show va_P D xcl _ t.heap; rw [ht]; exact hP⟩, hS.F ht⟩) hS.2.2 d_CF_findPartition_33
    · have h := xif_f c_4 h
      refine lv_aload_n hx hb d_CF_findPartition_10 rfl (lv_at hl 0 rfl) ?_
      refine va_get (v := .ref (lay 4)) (C := R_CF) (T := F_CF) (N := 7) hx hb hts i_CF hown hK hP 3 (xw_at (by decide) (xc_3 _ _ _ _)) rfl 0 (by decide) (hts _ wd_132) (fun _ h9 => h9) rfl d_CF_findPartition_11 ?_
      refine lv_iload_n hx hb d_CF_findPartition_14 rfl (lv_at hl 2 rfl) ?_
      obtain ⟨hg1, h⟩ := xg h
      refine xal_PS hx hb E hP hg1 d_CF_findPartition_15 ?_
      obtain ⟨hk2, h⟩ := xg h
      refine va_getN (v := .long (xgl S (5 + 21 * a3.toNatClampNeg) 0)) (C := R_PA) (T := F_PA) (N := 5) hx hb hts i_PA hown hK hP (5 + 21 * a3.toNatClampNeg) (xw_at (xP_lt hk2).1 (xc_PA _ _ _ _ hk2)) rfl 0 (by decide) (E.nest wn_110) (fun _ h9 => h9) rfl d_CF_findPartition_16 ?_
      refine lv_lload_n hx hb d_CF_findPartition_19 rfl (lv_at hl 1 rfl) ?_
      refine W.lcmp hx hb d_CF_findPartition_20 ?_
      refine lv_if_ne (tgt := 26) hx hb d_CF_findPartition_21 (by decide) (fun c_3 => ?_) (fun c_3 => ?_)
      · have h := xif_f c_3 h
        refine lv_iinc (v := a3 + (1 : Int32)) (lv' := [(3, .int (a3 + (1 : Int32))), (0, .ref (lay 3)), (1, .long a1)]) hx hb d_CF_findPartition_26 hl (k := 2) rfl (by rfl) (by decide) rfl (fun ls hl => ?_)
        refine lv_goto (tgt := 2) hx hb d_CF_findPartition_29 (by decide) ?_
        exact ih S a1 (a3 + (1 : Int32)) _ h H locs ls hP hS (lv_sub hl [1, 2, 0] rfl)
      · have h := xif_t c_3 h
        refine lv_iload_n hx hb d_CF_findPartition_24 rfl (lv_at hl 2 rfl) ?_
        have h9 := Option.some.inj h
        subst h9
        exact W.iret (v := a3) hx hb hr (fun t ht hW => ⟨⟨a3, (), rfl, rfl, by show va_P D xcl _ t.heap; rw [ht]; exact hP⟩, hS.F ht⟩) hS.2.2 d_CF_findPartition_25
def f_CF_findPartition (S : XS) (a1 : Int64) : Option (Int32) :=
  f_CF_findPartition_2 4096 S a1 (0 : Int32)
set_option maxHeartbeats 4000000 in
set_option maxRecDepth 100000 in
theorem k_CF_findPartition (l : Launch) {p : Program} {e : Env} {s : State} {m : MethodId} {args : Array Value} {below : List Frame} {meth : Method} {c : Code} {D : va_G} {lay : Nat → Nat} {cA : Nat → ClassId} {adK adV : Nat → Nat} {s0 : State} (C : xB p s m args meth c R_CF b_CF_findPartition ((Option.some Jvm.ClassFile.FieldType.int)) 4) (E : xE D lay cA adK adV s0 s s.heap) : ∀ (S : XS) (a1 : Int64) (r : Int32) (_ : f_CF_findPartition S a1 = some r) (H : Heap) (locs : List Loc) (ls : Array Slot), va_P D xcl (xw lay cA S) H → va_S (xI lay) s.heap H locs → lv_has ls 4 [(0, .ref (lay 3)), (1, .long a1)] → W p l e rm_CF_findPartition s m args below meth c H locs 0 0 (MQ below (xqi D lay cA r S) args s 0 0 (xI lay)) (F0 m 0 ls []) := by
  obtain ⟨hx, hb, hr, hml, hown, hts, hlk, hnh⟩ := id C
  have hK := E.K
  intro S a1 r h H locs ls hP hS hl
  unfold f_CF_findPartition at h
  refine lv_iconst (v := (0 : Int32)) hx hb d_CF_findPartition_0 (by decide) ?_
  refine lv_istore_n (lv' := [(3, .int (0 : Int32)), (0, .ref (lay 3)), (1, .long a1)]) hx hb d_CF_findPartition_1 rfl hl (by decide) rfl (fun ls hl => ?_)
  exact k_CF_findPartition_2 l C E 4096 S a1 (0 : Int32) _ h H locs ls hP hS (lv_sub hl [1, 2, 0] rfl)
theorem c_CF_findPartition (l : Launch) (D : va_G) (lay : Nat → Nat) (cA : Nat → ClassId) (adK adV : Nat → Nat) (s0 : State) (S : XS) (a1 : Int64) (r : Int32) (h : f_CF_findPartition S a1 = some r) : Met l y_CF_findPartition (.code y_CF_findPartition b_CF_findPartition 4 ((Option.some Jvm.ClassFile.FieldType.int)) :: xT) rm_CF_findPartition (xPc D lay cA adK adV s0 S [.ref (lay 3), .long a1]) (xqi D lay cA r S) 0 0 (xI lay) := by
  refine Met.ofW (cc := b_CF_findPartition) (maxL := 4) (ret := (Option.some Jvm.ClassFile.FieldType.int)) (by decide +kernel) rfl ?_
  intro p e s m args below meth c s₁ B hml hv
  obtain ⟨rfl, hP, E⟩ := hv
  have C := xB_of B hml
  have hl := lv_entry ([.ref (lay 3), .long a1]) (n := 4) (Nat.le_of_ble_eq_true rfl)
  rw [lg_entry_eq]
  generalize (lg_sl ([.ref (lay 3), .long a1]) ++ List.replicate (4 - (lg_sl ([.ref (lay 3), .long a1])).length) Slot.unset).toArray = ls at hl ⊢
  exact k_CF_findPartition l C E S a1 r h s.heap [] ls hP va_S.rf hl
/-! ConfigTexts$Configuration.count(I)I -/
def rm_CF_count : Room := { frames := 0, cells := 0, slots := 0, locals := 0 }
theorem d_CF_count_0 : decode b_CF_count 0 = .ok (.iload_n 1, 1) := by decide +kernel
theorem d_CF_count_1 : decode b_CF_count 1 = .ok (.tableswitch 75 0 5 #[39, 44, 52, 60, 65, 70], 39) := by decide +kernel
theorem d_CF_count_40 : decode b_CF_count 40 = .ok (.aload_n 0, 1) := by decide +kernel
theorem d_CF_count_41 : decode b_CF_count 41 = .ok (.getfield 30, 3) := by decide +kernel
theorem d_CF_count_44 : decode b_CF_count 44 = .ok (.ireturn, 1) := by decide +kernel
theorem d_CF_count_45 : decode b_CF_count 45 = .ok (.aload_n 0, 1) := by decide +kernel
theorem d_CF_count_46 : decode b_CF_count 46 = .ok (.getfield 23, 3) := by decide +kernel
theorem d_CF_count_49 : decode b_CF_count 49 = .ok (.getfield 58, 3) := by decide +kernel
theorem d_CF_count_52 : decode b_CF_count 52 = .ok (.ireturn, 1) := by decide +kernel
theorem d_CF_count_53 : decode b_CF_count 53 = .ok (.aload_n 0, 1) := by decide +kernel
theorem d_CF_count_54 : decode b_CF_count 54 = .ok (.getfield 27, 3) := by decide +kernel
theorem d_CF_count_57 : decode b_CF_count 57 = .ok (.getfield 58, 3) := by decide +kernel
theorem d_CF_count_60 : decode b_CF_count 60 = .ok (.ireturn, 1) := by decide +kernel
theorem d_CF_count_61 : decode b_CF_count 61 = .ok (.aload_n 0, 1) := by decide +kernel
theorem d_CF_count_62 : decode b_CF_count 62 = .ok (.getfield 37, 3) := by decide +kernel
theorem d_CF_count_65 : decode b_CF_count 65 = .ok (.ireturn, 1) := by decide +kernel
theorem d_CF_count_66 : decode b_CF_count 66 = .ok (.aload_n 0, 1) := by decide +kernel
theorem d_CF_count_67 : decode b_CF_count 67 = .ok (.getfield 40, 3) := by decide +kernel
theorem d_CF_count_70 : decode b_CF_count 70 = .ok (.ireturn, 1) := by decide +kernel
theorem d_CF_count_71 : decode b_CF_count 71 = .ok (.aload_n 0, 1) := by decide +kernel
theorem d_CF_count_72 : decode b_CF_count 72 = .ok (.getfield 43, 3) := by decide +kernel
theorem d_CF_count_75 : decode b_CF_count 75 = .ok (.ireturn, 1) := by decide +kernel
theorem d_CF_count_76 : decode b_CF_count 76 = .ok (.iconst (-1), 1) := by decide +kernel
theorem d_CF_count_77 : decode b_CF_count 77 = .ok (.ireturn, 1) := by decide +kernel
def f_CF_count (S : XS) (a1 : Int32) : Option (Int32) :=
  if a1 = 0 then (some (xgi S 3 1)) else (if a1 = 1 then (some (xgi S 173 4)) else (if a1 = 2 then (some (xgi S 176 4)) else (if a1 = 3 then (some (xgi S 3 4)) else (if a1 = 4 then (some (xgi S 3 5)) else (if a1 = 5 then (some (xgi S 3 6)) else (some (-1 : Int32)))))))
set_option maxHeartbeats 4000000 in
set_option maxRecDepth 100000 in
theorem k_CF_count (l : Launch) {p : Program} {e : Env} {s : State} {m : MethodId} {args : Array Value} {below : List Frame} {meth : Method} {c : Code} {D : va_G} {lay : Nat → Nat} {cA : Nat → ClassId} {adK adV : Nat → Nat} {s0 : State} (C : xB p s m args meth c R_CF b_CF_count ((Option.some Jvm.ClassFile.FieldType.int)) 2) (E : xE D lay cA adK adV s0 s s.heap) : ∀ (S : XS) (a1 : Int32) (r : Int32) (_ : f_CF_count S a1 = some r) (H : Heap) (locs : List Loc) (ls : Array Slot), va_P D xcl (xw lay cA S) H → va_S (xI lay) s.heap H locs → lv_has ls 2 [(0, .ref (lay 3)), (1, .int a1)] → W p l e rm_CF_count s m args below meth c H locs 0 0 (MQ below (xqi D lay cA r S) args s 0 0 (xI lay)) (F0 m 0 ls []) := by
  obtain ⟨hx, hb, hr, hml, hown, hts, hlk, hnh⟩ := id C
  have hK := E.K
  intro S a1 r h H locs ls hP hS hl
  unfold f_CF_count at h
  refine lv_iload_n hx hb d_CF_count_0 rfl (lv_at hl 1 rfl) ?_
  by_cases c_1 : a1 = 0
  · have h := xif_t c_1 h
    refine lv_tableIn (off := 39) (tgt := 40) hx hb d_CF_count_1 (by rw [c_1]; decide) (by rw [c_1]; decide) (by rw [c_1]; decide) (by decide) ?_
    refine lv_aload_n hx hb d_CF_count_40 rfl (lv_at hl 0 rfl) ?_
    refine va_get (v := .int (xgi S 3 1)) (C := R_CF) (T := F_CF) (N := 7) hx hb hts i_CF hown hK hP 3 (xw_at (by decide) (xc_3 _ _ _ _)) rfl 1 (by decide) (hts _ wd_133) (fun _ h9 => h9) rfl d_CF_count_41 ?_
    have h9 := Option.some.inj h
    subst h9
    exact W.iret (v := xgi S 3 1) hx hb hr (fun t ht hW => ⟨⟨xgi S 3 1, (), rfl, rfl, by show va_P D xcl _ t.heap; rw [ht]; exact hP⟩, hS.F ht⟩) hS.2.2 d_CF_count_44
  · have h := xif_f c_1 h
    by_cases c_2 : a1 = 1
    · have h := xif_t c_2 h
      refine lv_tableIn (off := 44) (tgt := 45) hx hb d_CF_count_1 (by rw [c_2]; decide) (by rw [c_2]; decide) (by rw [c_2]; decide) (by decide) ?_
      refine lv_aload_n hx hb d_CF_count_45 rfl (lv_at hl 0 rfl) ?_
      refine va_get (v := .ref (lay 173)) (C := R_CF) (T := F_CF) (N := 7) hx hb hts i_CF hown hK hP 3 (xw_at (by decide) (xc_3 _ _ _ _)) rfl 2 (by decide) (hts _ wd_136) (fun _ h9 => h9) rfl d_CF_count_46 ?_
      refine va_getN (v := .int (xgi S 173 4)) (C := R_RO) (T := F_RO) (N := 5) hx hb hts i_RO hown hK hP 173 (xw_at (xR_lt (by decide : xR 173)).1 (xc_RO _ _ _ _ (by decide : xR 173))) rfl 4 (by decide) (E.nest wn_94) (fun _ h9 => h9) rfl d_CF_count_49 ?_
      have h9 := Option.some.inj h
      subst h9
      exact W.iret (v := xgi S 173 4) hx hb hr (fun t ht hW => ⟨⟨xgi S 173 4, (), rfl, rfl, by show va_P D xcl _ t.heap; rw [ht]; exact hP⟩, hS.F ht⟩) hS.2.2 d_CF_count_52
    · have h := xif_f c_2 h
      by_cases c_3 : a1 = 2
      · have h := xif_t c_3 h
        refine lv_tableIn (off := 52) (tgt := 53) hx hb d_CF_count_1 (by rw [c_3]; decide) (by rw [c_3]; decide) (by rw [c_3]; decide) (by decide) ?_
        refine lv_aload_n hx hb d_CF_count_53 rfl (lv_at hl 0 rfl) ?_
        refine va_get (v := .ref (lay 176)) (C := R_CF) (T := F_CF) (N := 7) hx hb hts i_CF hown hK hP 3 (xw_at (by decide) (xc_3 _ _ _ _)) rfl 3 (by decide) (hts _ wd_139) (fun _ h9 => h9) rfl d_CF_count_54 ?_
        refine va_getN (v := .int (xgi S 176 4)) (C := R_RO) (T := F_RO) (N := 5) hx hb hts i_RO hown hK hP 176 (xw_at (xR_lt (by decide : xR 176)).1 (xc_RO _ _ _ _ (by decide : xR 176))) rfl 4 (by decide) (E.nest wn_94) (fun _ h9 => h9) rfl d_CF_count_57 ?_
        have h9 := Option.some.inj h
        subst h9
        exact W.iret (v := xgi S 176 4) hx hb hr (fun t ht hW => ⟨⟨xgi S 176 4, (), rfl, rfl, by show va_P D xcl _ t.heap; rw [ht]; exact hP⟩, hS.F ht⟩) hS.2.2 d_CF_count_60
      · have h := xif_f c_3 h
        by_cases c_4 : a1 = 3
        · have h := xif_t c_4 h
          refine lv_tableIn (off := 60) (tgt := 61) hx hb d_CF_count_1 (by rw [c_4]; decide) (by rw [c_4]; decide) (by rw [c_4]; decide) (by decide) ?_
          refine lv_aload_n hx hb d_CF_count_61 rfl (lv_at hl 0 rfl) ?_
          refine va_get (v := .int (xgi S 3 4)) (C := R_CF) (T := F_CF) (N := 7) hx hb hts i_CF hown hK hP 3 (xw_at (by decide) (xc_3 _ _ _ _)) rfl 4 (by decide) (hts _ wd_142) (fun _ h9 => h9) rfl d_CF_count_62 ?_
          have h9 := Option.some.inj h
          subst h9
          exact W.iret (v := xgi S 3 4) hx hb hr (fun t ht hW => ⟨⟨xgi S 3 4, (), rfl, rfl, by show va_P D xcl _ t.heap; rw [ht]; exact hP⟩, hS.F ht⟩) hS.2.2 d_CF_count_65
        · have h := xif_f c_4 h
          by_cases c_5 : a1 = 4
          · have h := xif_t c_5 h
            refine lv_tableIn (off := 65) (tgt := 66) hx hb d_CF_count_1 (by rw [c_5]; decide) (by rw [c_5]; decide) (by rw [c_5]; decide) (by decide) ?_
            refine lv_aload_n hx hb d_CF_count_66 rfl (lv_at hl 0 rfl) ?_
            refine va_get (v := .int (xgi S 3 5)) (C := R_CF) (T := F_CF) (N := 7) hx hb hts i_CF hown hK hP 3 (xw_at (by decide) (xc_3 _ _ _ _)) rfl 5 (by decide) (hts _ wd_144) (fun _ h9 => h9) rfl d_CF_count_67 ?_
            have h9 := Option.some.inj h
            subst h9
            exact W.iret (v := xgi S 3 5) hx hb hr (fun t ht hW => ⟨⟨xgi S 3 5, (), rfl, rfl, by show va_P D xcl _ t.heap; rw [ht]; exact hP⟩, hS.F ht⟩) hS.2.2 d_CF_count_70
          · have h := xif_f c_5 h
            by_cases c_6 : a1 = 5
            · have h := xif_t c_6 h
              refine lv_tableIn (off := 70) (tgt := 71) hx hb d_CF_count_1 (by rw [c_6]; decide) (by rw [c_6]; decide) (by rw [c_6]; decide) (by decide) ?_
              refine lv_aload_n hx hb d_CF_count_71 rfl (lv_at hl 0 rfl) ?_
              refine va_get (v := .int (xgi S 3 6)) (C := R_CF) (T := F_CF) (N := 7) hx hb hts i_CF hown hK hP 3 (xw_at (by decide) (xc_3 _ _ _ _)) rfl 6 (by decide) (hts _ wd_146) (fun _ h9 => h9) rfl d_CF_count_72 ?_
              have h9 := Option.some.inj h
              subst h9
              exact W.iret (v := xgi S 3 6) hx hb hr (fun t ht hW => ⟨⟨xgi S 3 6, (), rfl, rfl, by show va_P D xcl _ t.heap; rw [ht]; exact hP⟩, hS.F ht⟩) hS.2.2 d_CF_count_75
            · have h := xif_f c_6 h
              have nc_1 := lv_neT (k := 0) (a := 0) c_1 (by decide)
              have nc_2 := lv_neT (k := 1) (a := 1) c_2 (by decide)
              have nc_3 := lv_neT (k := 2) (a := 2) c_3 (by decide)
              have nc_4 := lv_neT (k := 3) (a := 3) c_4 (by decide)
              have nc_5 := lv_neT (k := 4) (a := 4) c_5 (by decide)
              have nc_6 := lv_neT (k := 5) (a := 5) c_6 (by decide)
              refine lv_tableOut (tgt := 76) hx hb d_CF_count_1 (by omega) (by decide) ?_
              refine lv_iconst (v := (-1 : Int32)) hx hb d_CF_count_76 (by decide) ?_
              have h9 := Option.some.inj h
              subst h9
              exact W.iret (v := (-1 : Int32)) hx hb hr (fun t ht hW => ⟨⟨(-1 : Int32), (), rfl, rfl, by show va_P D xcl _ t.heap; rw [ht]; exact hP⟩, hS.F ht⟩) hS.2.2 d_CF_count_77
theorem c_CF_count (l : Launch) (D : va_G) (lay : Nat → Nat) (cA : Nat → ClassId) (adK adV : Nat → Nat) (s0 : State) (S : XS) (a1 : Int32) (r : Int32) (h : f_CF_count S a1 = some r) : Met l y_CF_count (.code y_CF_count b_CF_count 2 ((Option.some Jvm.ClassFile.FieldType.int)) :: xT) rm_CF_count (xPc D lay cA adK adV s0 S [.ref (lay 3), .int a1]) (xqi D lay cA r S) 0 0 (xI lay) := by
  refine Met.ofW (cc := b_CF_count) (maxL := 2) (ret := (Option.some Jvm.ClassFile.FieldType.int)) (by decide +kernel) rfl ?_
  intro p e s m args below meth c s₁ B hml hv
  obtain ⟨rfl, hP, E⟩ := hv
  have C := xB_of B hml
  have hl := lv_entry ([.ref (lay 3), .int a1]) (n := 2) (Nat.le_of_ble_eq_true rfl)
  rw [lg_entry_eq]
  generalize (lg_sl ([.ref (lay 3), .int a1]) ++ List.replicate (2 - (lg_sl ([.ref (lay 3), .int a1])).length) Slot.unset).toArray = ls at hl ⊢
  exact k_CF_count l C E S a1 r h s.heap [] ls hP va_S.rf hl
end
section
def R_JS : String := "java/lang/String"
def R_JL : String := "java/lang/StringLatin1"
def R_JP : String := "jdk/internal/util/Preconditions"
def R_JM : String := "java/lang/Math"
abbrev b_JM_min : ByteArray := prog_12_method_69_code
def y_JM_min : MethodName := ⟨"java/lang/Math", "min", "(II)I"⟩
abbrev b_JM_max : ByteArray := prog_12_method_65_code
def y_JM_max : MethodName := ⟨"java/lang/Math", "max", "(II)I"⟩
abbrev b_JS_isLatin1 : ByteArray := prog_14_method_154_code
def y_JS_isLatin1 : MethodName := ⟨"java/lang/String", "isLatin1", "()Z"⟩
abbrev b_JS_coder : ByteArray := prog_14_method_152_code
def y_JS_coder : MethodName := ⟨"java/lang/String", "coder", "()B"⟩
abbrev b_JS_length : ByteArray := prog_14_method_54_code
def y_JS_length : MethodName := ⟨"java/lang/String", "length", "()I"⟩
abbrev b_JP_checkIndex : ByteArray := prog_18_method_11_code
def y_JP_checkIndex : MethodName := ⟨"jdk/internal/util/Preconditions", "checkIndex", "(IILjava/util/function/BiFunction;)I"⟩
abbrev b_JS_checkIndex : ByteArray := prog_14_method_155_code
def y_JS_checkIndex : MethodName := ⟨"java/lang/String", "checkIndex", "(II)V"⟩
abbrev b_JL_charAt : ByteArray := prog_15_method_2_code
def y_JL_charAt : MethodName := ⟨"java/lang/StringLatin1", "charAt", "([BI)C"⟩
abbrev b_JS_charAt : ByteArray := prog_14_method_56_code
def y_JS_charAt : MethodName := ⟨"java/lang/String", "charAt", "(I)C"⟩
abbrev b_JL_canEncode : ByteArray := prog_15_method_4_code
def y_JL_canEncode : MethodName := ⟨"java/lang/StringLatin1", "canEncode", "(I)Z"⟩
abbrev b_JL_indexOfChar : ByteArray := prog_15_method_23_code
def y_JL_indexOfChar : MethodName := ⟨"java/lang/StringLatin1", "indexOfChar", "([BIII)I"⟩
abbrev b_JL_indexOf : ByteArray := prog_15_method_22_code
def y_JL_indexOf : MethodName := ⟨"java/lang/StringLatin1", "indexOf", "([BIII)I"⟩
abbrev b_JS_indexOf0 : ByteArray := prog_14_method_80_code
def y_JS_indexOf0 : MethodName := ⟨"java/lang/String", "indexOf", "(II)I"⟩
abbrev b_JS_indexOf1 : ByteArray := prog_14_method_79_code
def y_JS_indexOf1 : MethodName := ⟨"java/lang/String", "indexOf", "(I)I"⟩
/-! java/lang/String.isLatin1()Z -/
def rm_JS_isLatin1 : Room := { frames := 0, cells := 0, slots := 0, locals := 0 }
theorem d_JS_isLatin1_0 : decode b_JS_isLatin1 0 = .ok (.getstatic 38, 3) := by decide +kernel
theorem d_JS_isLatin1_3 : decode b_JS_isLatin1 3 = .ok (.ifCond .eq 14, 3) := by decide +kernel
theorem d_JS_isLatin1_6 : decode b_JS_isLatin1 6 = .ok (.aload_n 0, 1) := by decide +kernel
theorem d_JS_isLatin1_7 : decode b_JS_isLatin1 7 = .ok (.getfield 15, 3) := by decide +kernel
theorem d_JS_isLatin1_10 : decode b_JS_isLatin1 10 = .ok (.ifCond .ne 7, 3) := by decide +kernel
theorem d_JS_isLatin1_13 : decode b_JS_isLatin1 13 = .ok (.iconst 1, 1) := by decide +kernel
theorem d_JS_isLatin1_14 : decode b_JS_isLatin1 14 = .ok (.goto 4, 3) := by decide +kernel
theorem d_JS_isLatin1_17 : decode b_JS_isLatin1 17 = .ok (.iconst 0, 1) := by decide +kernel
theorem d_JS_isLatin1_18 : decode b_JS_isLatin1 18 = .ok (.ireturn, 1) := by decide +kernel
def f_JS_isLatin1 (S : XS) (a0 : Nat) : Option (Int32) :=
  if (1 : Int32) = 0 then (some (0 : Int32)) else (if a0 < xnl then (if (0 : Int32) = 0 then (some (1 : Int32)) else (some (0 : Int32))) else none)
set_option maxHeartbeats 4000000 in
set_option maxRecDepth 100000 in
theorem k_JS_isLatin1 (l : Launch) {p : Program} {e : Env} {s : State} {m : MethodId} {args : Array Value} {below : List Frame} {meth : Method} {c : Code} {D : va_G} {lay : Nat → Nat} {cA : Nat → ClassId} {adK adV : Nat → Nat} {s0 : State} (C : xB p s m args meth c R_JS b_JS_isLatin1 ((Option.some Jvm.ClassFile.FieldType.boolean)) 1) (E : xE D lay cA adK adV s0 s s.heap) : ∀ (S : XS) (a0 : Nat) (r : Int32) (_ : f_JS_isLatin1 S a0 = some r) (H : Heap) (locs : List Loc) (ls : Array Slot), va_P D xcl (xw lay cA S) H → va_S (xI lay) s.heap H locs → lv_has ls 1 [(0, .ref (adK a0))] → W p l e rm_JS_isLatin1 s m args below meth c H locs 0 0 (MQ below (xqi D lay cA r S) args s 0 0 (xI lay)) (F0 m 0 ls []) := by
  obtain ⟨hx, hb, hr, hml, hown, hts, hlk, hnh⟩ := id C
  have hK := E.K
  intro S a0 r h H locs ls hP hS hl
  unfold f_JS_isLatin1 at h
  refine va_gets hx hb E.cs hS hown (hts _ wd_304) (fun _ h9 => h9) d_JS_isLatin1_0 ?_
  refine lv_if_eq (tgt := 17) hx hb d_JS_isLatin1_3 (by decide) (fun c_3 => ?_) (fun c_3 => ?_)
  · have h := xif_t c_3 h
    refine lv_iconst (v := (0 : Int32)) hx hb d_JS_isLatin1_17 (by decide) ?_
    have h9 := Option.some.inj h
    subst h9
    exact W.zret (v := (0 : Int32)) hx hb hr (by decide) (fun t ht hW => ⟨⟨(0 : Int32), (), rfl, rfl, by show va_P D xcl _ t.heap; rw [ht]; exact hP⟩, hS.F ht⟩) hS.2.2 d_JS_isLatin1_18
  · have h := xif_f c_3 h
    refine lv_aload_n hx hb d_JS_isLatin1_6 rfl (lv_at hl 0 rfl) ?_
    obtain ⟨hk1, h⟩ := xg h
    refine vk_getf hx hb (E.str hk1).2.1 hS hown (hts _ wd_1024) (fun _ h9 => h9) d_JS_isLatin1_7 ?_
    refine lv_if_ne (tgt := 17) hx hb d_JS_isLatin1_10 (by decide) (fun c_2 => ?_) (fun c_2 => ?_)
    · have h := xif_f c_2 h
      refine lv_iconst (v := (0 : Int32)) hx hb d_JS_isLatin1_17 (by decide) ?_
      have h9 := Option.some.inj h
      subst h9
      exact W.zret (v := (0 : Int32)) hx hb hr (by decide) (fun t ht hW => ⟨⟨(0 : Int32), (), rfl, rfl, by show va_P D xcl _ t.heap; rw [ht]; exact hP⟩, hS.F ht⟩) hS.2.2 d_JS_isLatin1_18
    · have h := xif_t c_2 h
      refine lv_iconst (v := (1 : Int32)) hx hb d_JS_isLatin1_13 (by decide) ?_
      refine lv_goto (tgt := 18) hx hb d_JS_isLatin1_14 (by decide) ?_
      have h9 := Option.some.inj h
      subst h9
      exact W.zret (v := (1 : Int32)) hx hb hr (by decide) (fun t ht hW => ⟨⟨(1 : Int32), (), rfl, rfl, by show va_P D xcl _ t.heap; rw [ht]; exact hP⟩, hS.F ht⟩) hS.2.2 d_JS_isLatin1_18
theorem c_JS_isLatin1 (l : Launch) (D : va_G) (lay : Nat → Nat) (cA : Nat → ClassId) (adK adV : Nat → Nat) (s0 : State) (S : XS) (a0 : Nat) (r : Int32) (h : f_JS_isLatin1 S a0 = some r) : Met l y_JS_isLatin1 (.code y_JS_isLatin1 b_JS_isLatin1 1 ((Option.some Jvm.ClassFile.FieldType.boolean)) :: xT) rm_JS_isLatin1 (xPc D lay cA adK adV s0 S [.ref (adK a0)]) (xqi D lay cA r S) 0 0 (xI lay) := by
  refine Met.ofW (cc := b_JS_isLatin1) (maxL := 1) (ret := (Option.some Jvm.ClassFile.FieldType.boolean)) (by decide +kernel) rfl ?_
  intro p e s m args below meth c s₁ B hml hv
  obtain ⟨rfl, hP, E⟩ := hv
  have C := xB_of B hml
  have hl := lv_entry ([.ref (adK a0)]) (n := 1) (Nat.le_of_ble_eq_true rfl)
  rw [lg_entry_eq]
  generalize (lg_sl ([.ref (adK a0)]) ++ List.replicate (1 - (lg_sl ([.ref (adK a0)])).length) Slot.unset).toArray = ls at hl ⊢
  exact k_JS_isLatin1 l C E S a0 r h s.heap [] ls hP va_S.rf hl
/-! java/lang/String.coder()B -/
def rm_JS_coder : Room := { frames := 0, cells := 0, slots := 0, locals := 0 }
theorem d_JS_coder_0 : decode b_JS_coder 0 = .ok (.getstatic 38, 3) := by decide +kernel
theorem d_JS_coder_3 : decode b_JS_coder 3 = .ok (.ifCond .eq 10, 3) := by decide +kernel
theorem d_JS_coder_6 : decode b_JS_coder 6 = .ok (.aload_n 0, 1) := by decide +kernel
theorem d_JS_coder_7 : decode b_JS_coder 7 = .ok (.getfield 15, 3) := by decide +kernel
theorem d_JS_coder_10 : decode b_JS_coder 10 = .ok (.goto 4, 3) := by decide +kernel
theorem d_JS_coder_13 : decode b_JS_coder 13 = .ok (.iconst 1, 1) := by decide +kernel
theorem d_JS_coder_14 : decode b_JS_coder 14 = .ok (.ireturn, 1) := by decide +kernel
def f_JS_coder (S : XS) (a0 : Nat) : Option (Int32) :=
  if (1 : Int32) = 0 then (some (1 : Int32)) else (if a0 < xnl then (some (0 : Int32)) else none)
set_option maxHeartbeats 4000000 in
set_option maxRecDepth 100000 in
theorem k_JS_coder (l : Launch) {p : Program} {e : Env} {s : State} {m : MethodId} {args : Array Value} {below : List Frame} {meth : Method} {c : Code} {D : va_G} {lay : Nat → Nat} {cA : Nat → ClassId} {adK adV : Nat → Nat} {s0 : State} (C : xB p s m args meth c R_JS b_JS_coder ((Option.some Jvm.ClassFile.FieldType.byte)) 1) (E : xE D lay cA adK adV s0 s s.heap) : ∀ (S : XS) (a0 : Nat) (r : Int32) (_ : f_JS_coder S a0 = some r) (H : Heap) (locs : List Loc) (ls : Array Slot), va_P D xcl (xw lay cA S) H → va_S (xI lay) s.heap H locs → lv_has ls 1 [(0, .ref (adK a0))] → W p l e rm_JS_coder s m args below meth c H locs 0 0 (MQ below (xqi D lay cA r S) args s 0 0 (xI lay)) (F0 m 0 ls []) := by
  obtain ⟨hx, hb, hr, hml, hown, hts, hlk, hnh⟩ := id C
  have hK := E.K
  intro S a0 r h H locs ls hP hS hl
  unfold f_JS_coder at h
  refine va_gets hx hb E.cs hS hown (hts _ wd_304) (fun _ h9 => h9) d_JS_coder_0 ?_
  refine lv_if_eq (tgt := 13) hx hb d_JS_coder_3 (by decide) (fun c_2 => ?_) (fun c_2 => ?_)
  · have h := xif_t c_2 h
    refine lv_iconst (v := (1 : Int32)) hx hb d_JS_coder_13 (by decide) ?_
    have h9 := Option.some.inj h
    subst h9
    exact W.zret (v := (1 : Int32)) hx hb hr (by decide) (fun t ht hW => ⟨⟨(1 : Int32), (), rfl, rfl, by show va_P D xcl _ t.heap; rw [ht]; exact hP⟩, hS.F ht⟩) hS.2.2 d_JS_coder_14
  · have h := xif_f c_2 h
    refine lv_aload_n hx hb d_JS_coder_6 rfl (lv_at hl 0 rfl) ?_
    obtain ⟨hk1, h⟩ := xg h
    refine vk_getf hx hb (E.str hk1).2.1 hS hown (hts _ wd_1024) (fun _ h9 => h9) d_JS_coder_7 ?_
    refine lv_goto (tgt := 14) hx hb d_JS_coder_10 (by decide) ?_
    have h9 := Option.some.inj h
    subst h9
    exact W.zret (v := (0 : Int32)) hx hb hr (by decide) (fun t ht hW => ⟨⟨(0 : Int32), (), rfl, rfl, by show va_P D xcl _ t.heap; rw [ht]; exact hP⟩, hS.F ht⟩) hS.2.2 d_JS_coder_14
theorem c_JS_coder (l : Launch) (D : va_G) (lay : Nat → Nat) (cA : Nat → ClassId) (adK adV : Nat → Nat) (s0 : State) (S : XS) (a0 : Nat) (r : Int32) (h : f_JS_coder S a0 = some r) : Met l y_JS_coder (.code y_JS_coder b_JS_coder 1 ((Option.some Jvm.ClassFile.FieldType.byte)) :: xT) rm_JS_coder (xPc D lay cA adK adV s0 S [.ref (adK a0)]) (xqi D lay cA r S) 0 0 (xI lay) := by
  refine Met.ofW (cc := b_JS_coder) (maxL := 1) (ret := (Option.some Jvm.ClassFile.FieldType.byte)) (by decide +kernel) rfl ?_
  intro p e s m args below meth c s₁ B hml hv
  obtain ⟨rfl, hP, E⟩ := hv
  have C := xB_of B hml
  have hl := lv_entry ([.ref (adK a0)]) (n := 1) (Nat.le_of_ble_eq_true rfl)
  rw [lg_entry_eq]
  generalize (lg_sl ([.ref (adK a0)]) ++ List.replicate (1 - (lg_sl ([.ref (adK a0)])).length) Slot.unset).toArray = ls at hl ⊢
  exact k_JS_coder l C E S a0 r h s.heap [] ls hP va_S.rf hl
/-! java/lang/String.length()I -/
def rm_JS_length : Room := { frames := 1, cells := 0, slots := 0, locals := 20 }
theorem d_JS_length_0 : decode b_JS_length 0 = .ok (.aload_n 0, 1) := by decide +kernel
theorem d_JS_length_1 : decode b_JS_length 1 = .ok (.getfield 9, 3) := by decide +kernel
theorem d_JS_length_4 : decode b_JS_length 4 = .ok (.arraylength, 1) := by decide +kernel
theorem d_JS_length_5 : decode b_JS_length 5 = .ok (.aload_n 0, 1) := by decide +kernel
theorem d_JS_length_6 : decode b_JS_length 6 = .ok (.invokevirtual 335, 3) := by decide +kernel
theorem d_JS_length_9 : decode b_JS_length 9 = .ok (.ishr, 1) := by decide +kernel
theorem d_JS_length_10 : decode b_JS_length 10 = .ok (.ireturn, 1) := by decide +kernel
def f_JS_length (S : XS) (a0 : Nat) : Option (Int32) :=
  if a0 < xnl then ((f_JS_coder S a0).bind fun q3 => some ((Int32.ofNat (xlen.getD a0 0)) >>> (q3 &&& 31))) else none
set_option maxHeartbeats 4000000 in
set_option maxRecDepth 100000 in
theorem k_JS_length (l : Launch) {p : Program} {e : Env} {s : State} {m : MethodId} {args : Array Value} {below : List Frame} {meth : Method} {c : Code} {D : va_G} {lay : Nat → Nat} {cA : Nat → ClassId} {adK adV : Nat → Nat} {s0 : State} (C : xB p s m args meth c R_JS b_JS_length ((Option.some Jvm.ClassFile.FieldType.int)) 1) (E : xE D lay cA adK adV s0 s s.heap) : ∀ (S : XS) (a0 : Nat) (r : Int32) (_ : f_JS_length S a0 = some r) (H : Heap) (locs : List Loc) (ls : Array Slot), va_P D xcl (xw lay cA S) H → va_S (xI lay) s.heap H locs → lv_has ls 1 [(0, .ref (adK a0))] → W p l e rm_JS_length s m args below meth c H locs 0 0 (MQ below (xqi D lay cA r S) args s 0 0 (xI lay)) (F0 m 0 ls []) := by
  obtain ⟨hx, hb, hr, hml, hown, hts, hlk, hnh⟩ := id C
  have hK := E.K
  intro S a0 r h H locs ls hP hS hl
  unfold f_JS_length at h
  refine lv_aload_n hx hb d_JS_length_0 rfl (lv_at hl 0 rfl) ?_
  obtain ⟨hk1, h⟩ := xg h
  refine vk_getf hx hb (E.str hk1).2.2.1 hS hown (hts _ wd_1025) (fun _ h9 => h9) d_JS_length_1 ?_
  refine va_tlen hx hb (E.str hk1).2.2.2 hS rfl d_JS_length_4 ?_
  refine lv_aload_n hx hb d_JS_length_5 rfl (lv_at hl 0 rfl) ?_
  obtain ⟨q3, e2, h⟩ := xb h
  refine xc_i (va_runV (As := []) (rest := [.int (Int32.ofNat (xlen.getD a0 0))]) ⟨hx, hb, hml, hown, hts⟩ (c_JS_coder l D lay cA adK adV s0 S a0 q3 e2) (cwV 0 hts (xT_V wd_310 wd_311 wd_312 wd_9 wd_313) rfl rfl rfl (by decide +kernel) ⟨Nat.le_of_ble_eq_true rfl, Nat.le_of_ble_eq_true rfl⟩) (xpT E hP hS hk1 rfl) rfl rfl hl.1 rfl (lv_room (Nat.le_of_ble_eq_true rfl)) d_JS_length_6 ⟨Nat.le_of_ble_eq_true rfl, Nat.le_of_ble_eq_true rfl⟩) hS (fun H locs hP hS => ?_)
  refine lv_ishr hx hb d_JS_length_9 ?_
  have h9 := Option.some.inj h
  subst h9
  exact W.iret (v := (Int32.ofNat (xlen.getD a0 0)) >>> (q3 &&& 31)) hx hb hr (fun t ht hW => ⟨⟨(Int32.ofNat (xlen.getD a0 0)) >>> (q3 &&& 31), (), rfl, rfl, by show va_P D xcl _ t.heap; rw [ht]; exact hP⟩, hS.F ht⟩) hS.2.2 d_JS_length_10
theorem c_JS_length (l : Launch) (D : va_G) (lay : Nat → Nat) (cA : Nat → ClassId) (adK adV : Nat → Nat) (s0 : State) (S : XS) (a0 : Nat) (r : Int32) (h : f_JS_length S a0 = some r) : Met l y_JS_length (.code y_JS_length b_JS_length 1 ((Option.some Jvm.ClassFile.FieldType.int)) :: xT) rm_JS_length (xPc D lay cA adK adV s0 S [.ref (adK a0)]) (xqi D lay cA r S) 0 0 (xI lay) := by
  refine Met.ofW (cc := b_JS_length) (maxL := 1) (ret := (Option.some Jvm.ClassFile.FieldType.int)) (by decide +kernel) rfl ?_
  intro p e s m args below meth c s₁ B hml hv
  obtain ⟨rfl, hP, E⟩ := hv
  have C := xB_of B hml
  have hl := lv_entry ([.ref (adK a0)]) (n := 1) (Nat.le_of_ble_eq_true rfl)
  rw [lg_entry_eq]
  generalize (lg_sl ([.ref (adK a0)]) ++ List.replicate (1 - (lg_sl ([.ref (adK a0)])).length) Slot.unset).toArray = ls at hl ⊢
  exact k_JS_length l C E S a0 r h s.heap [] ls hP va_S.rf hl
/-! jdk/internal/util/Preconditions.checkIndex(IILjava/util/function/BiFunction;)I -/
def rm_JP_checkIndex : Room := { frames := 0, cells := 0, slots := 0, locals := 0 }
theorem d_JP_checkIndex_0 : decode b_JP_checkIndex 0 = .ok (.iload_n 0, 1) := by decide +kernel
theorem d_JP_checkIndex_1 : decode b_JP_checkIndex 1 = .ok (.ifCond .lt 8, 3) := by decide +kernel
theorem d_JP_checkIndex_4 : decode b_JP_checkIndex 4 = .ok (.iload_n 0, 1) := by decide +kernel
theorem d_JP_checkIndex_5 : decode b_JP_checkIndex 5 = .ok (.iload_n 1, 1) := by decide +kernel
theorem d_JP_checkIndex_6 : decode b_JP_checkIndex 6 = .ok (.if_icmp .lt 10, 3) := by decide +kernel
theorem d_JP_checkIndex_9 : decode b_JP_checkIndex 9 = .ok (.aload_n 2, 1) := by decide +kernel
theorem d_JP_checkIndex_10 : decode b_JP_checkIndex 10 = .ok (.iload_n 0, 1) := by decide +kernel
theorem d_JP_checkIndex_11 : decode b_JP_checkIndex 11 = .ok (.iload_n 1, 1) := by decide +kernel
theorem d_JP_checkIndex_12 : decode b_JP_checkIndex 12 = .ok (.invokestatic 95, 3) := by decide +kernel
theorem d_JP_checkIndex_15 : decode b_JP_checkIndex 15 = .ok (.athrow, 1) := by decide +kernel
theorem d_JP_checkIndex_16 : decode b_JP_checkIndex 16 = .ok (.iload_n 0, 1) := by decide +kernel
theorem d_JP_checkIndex_17 : decode b_JP_checkIndex 17 = .ok (.ireturn, 1) := by decide +kernel
def f_JP_checkIndexN (S : XS) (a0 : Int32) (a1 : Int32) : Option (Int32) :=
  if a0 < 0 then (none) else (if a0 < a1 then (some a0) else (none))
set_option maxHeartbeats 4000000 in
set_option maxRecDepth 100000 in
theorem k_JP_checkIndexN (l : Launch) {p : Program} {e : Env} {s : State} {m : MethodId} {args : Array Value} {below : List Frame} {meth : Method} {c : Code} {D : va_G} {lay : Nat → Nat} {cA : Nat → ClassId} {adK adV : Nat → Nat} {s0 : State} (C : xB p s m args meth c R_JP b_JP_checkIndex ((Option.some Jvm.ClassFile.FieldType.int)) 3) (E : xE D lay cA adK adV s0 s s.heap) : ∀ (S : XS) (a0 : Int32) (a1 : Int32) (r : Int32) (_ : f_JP_checkIndexN S a0 a1 = some r) (H : Heap) (locs : List Loc) (ls : Array Slot), va_P D xcl (xw lay cA S) H → va_S (xI lay) s.heap H locs → lv_has ls 3 [(0, .int a0), (1, .int a1), (2, .null)] → W p l e rm_JP_checkIndex s m args below meth c H locs 0 0 (MQ below (xqi D lay cA r S) args s 0 0 (xI lay)) (F0 m 0 ls []) := by
  obtain ⟨hx, hb, hr, hml, hown, hts, hlk, hnh⟩ := id C
  have hK := E.K
  intro S a0 a1 r h H locs ls hP hS hl
  unfold f_JP_checkIndexN at h
  refine lv_iload_n hx hb d_JP_checkIndex_0 rfl (lv_at hl 0 rfl) ?_
  refine lv_if_lt (tgt := 9) hx hb d_JP_checkIndex_1 (by decide) (fun c_2 => ?_) (fun c_2 => ?_)
  · have h := xif_t c_2 h
    refine lv_aload_nN hx hb d_JP_checkIndex_9 rfl (lv_at hl 2 rfl) ?_
    refine lv_iload_n hx hb d_JP_checkIndex_10 rfl (lv_at hl 0 rfl) ?_
    refine lv_iload_n hx hb d_JP_checkIndex_11 rfl (lv_at hl 1 rfl) ?_
    cases h
  · have h := xif_f c_2 h
    refine lv_iload_n hx hb d_JP_checkIndex_4 rfl (lv_at hl 0 rfl) ?_
    refine lv_iload_n hx hb d_JP_checkIndex_5 rfl (lv_at hl 1 rfl) ?_
    refine lv_icmp_lt (tgt := 16) hx hb d_JP_checkIndex_6 (by decide) (fun c_1 => ?_) (fun c_1 => ?_)
    · have h := xif_t c_1 h
      refine lv_iload_n hx hb d_JP_checkIndex_16 rfl (lv_at hl 0 rfl) ?_
      have h9 := Option.some.inj h
      subst h9
      exact W.iret (v := a0) hx hb hr (fun t ht hW => ⟨⟨a0, (), rfl, rfl, by show va_P D xcl _ t.heap; rw [ht]; exact hP⟩, hS.F ht⟩) hS.2.2 d_JP_checkIndex_17
    · have h := xif_f c_1 h
      refine lv_aload_nN hx hb d_JP_checkIndex_9 rfl (lv_at hl 2 rfl) ?_
      refine lv_iload_n hx hb d_JP_checkIndex_10 rfl (lv_at hl 0 rfl) ?_
      refine lv_iload_n hx hb d_JP_checkIndex_11 rfl (lv_at hl 1 rfl) ?_
      cases h
theorem c_JP_checkIndexN (l : Launch) (D : va_G) (lay : Nat → Nat) (cA : Nat → ClassId) (adK adV : Nat → Nat) (s0 : State) (S : XS) (a0 : Int32) (a1 : Int32) (r : Int32) (h : f_JP_checkIndexN S a0 a1 = some r) : Met l y_JP_checkIndex (.code y_JP_checkIndex b_JP_checkIndex 3 ((Option.some Jvm.ClassFile.FieldType.int)) :: xT) rm_JP_checkIndex (xPc D lay cA adK adV s0 S [.int a0, .int a1, .null]) (xqi D lay cA r S) 0 0 (xI lay) := by
  refine Met.ofW (cc := b_JP_checkIndex) (maxL := 3) (ret := (Option.some Jvm.ClassFile.FieldType.int)) (by decide +kernel) rfl ?_
  intro p e s m args below meth c s₁ B hml hv
  obtain ⟨rfl, hP, E⟩ := hv
  have C := xB_of B hml
  have hl := lv_entry ([.int a0, .int a1, .null]) (n := 3) (Nat.le_of_ble_eq_true rfl)
  rw [lg_entry_eq]
  generalize (lg_sl ([.int a0, .int a1, .null]) ++ List.replicate (3 - (lg_sl ([.int a0, .int a1, .null])).length) Slot.unset).toArray = ls at hl ⊢
  exact k_JP_checkIndexN l C E S a0 a1 r h s.heap [] ls hP va_S.rf hl
def f_JP_checkIndexA (S : XS) (a0 : Int32) (a1 : Int32) (a2 : Nat) : Option (Int32) :=
  if a0 < 0 then (none) else (if a0 < a1 then (some a0) else (none))
set_option maxHeartbeats 4000000 in
set_option maxRecDepth 100000 in
theorem k_JP_checkIndexA (l : Launch) {p : Program} {e : Env} {s : State} {m : MethodId} {args : Array Value} {below : List Frame} {meth : Method} {c : Code} {D : va_G} {lay : Nat → Nat} {cA : Nat → ClassId} {adK adV : Nat → Nat} {s0 : State} (C : xB p s m args meth c R_JP b_JP_checkIndex ((Option.some Jvm.ClassFile.FieldType.int)) 3) (E : xE D lay cA adK adV s0 s s.heap) : ∀ (S : XS) (a0 : Int32) (a1 : Int32) (a2 : Nat) (r : Int32) (_ : f_JP_checkIndexA S a0 a1 a2 = some r) (H : Heap) (locs : List Loc) (ls : Array Slot), va_P D xcl (xw lay cA S) H → va_S (xI lay) s.heap H locs → lv_has ls 3 [(0, .int a0), (1, .int a1), (2, .ref a2)] → W p l e rm_JP_checkIndex s m args below meth c H locs 0 0 (MQ below (xqi D lay cA r S) args s 0 0 (xI lay)) (F0 m 0 ls []) := by
  obtain ⟨hx, hb, hr, hml, hown, hts, hlk, hnh⟩ := id C
  have hK := E.K
  intro S a0 a1 a2 r h H locs ls hP hS hl
  unfold f_JP_checkIndexA at h
  refine lv_iload_n hx hb d_JP_checkIndex_0 rfl (lv_at hl 0 rfl) ?_
  refine lv_if_lt (tgt := 9) hx hb d_JP_checkIndex_1 (by decide) (fun c_2 => ?_) (fun c_2 => ?_)
  · have h := xif_t c_2 h
    refine lv_aload_n hx hb d_JP_checkIndex_9 rfl (lv_at hl 2 rfl) ?_
    refine lv_iload_n hx hb d_JP_checkIndex_10 rfl (lv_at hl 0 rfl) ?_
    refine lv_iload_n hx hb d_JP_checkIndex_11 rfl (lv_at hl 1 rfl) ?_
    cases h
  · have h := xif_f c_2 h
    refine lv_iload_n hx hb d_JP_checkIndex_4 rfl (lv_at hl 0 rfl) ?_
    refine lv_iload_n hx hb d_JP_checkIndex_5 rfl (lv_at hl 1 rfl) ?_
    refine lv_icmp_lt (tgt := 16) hx hb d_JP_checkIndex_6 (by decide) (fun c_1 => ?_) (fun c_1 => ?_)
    · have h := xif_t c_1 h
      refine lv_iload_n hx hb d_JP_checkIndex_16 rfl (lv_at hl 0 rfl) ?_
      have h9 := Option.some.inj h
      subst h9
      exact W.iret (v := a0) hx hb hr (fun t ht hW => ⟨⟨a0, (), rfl, rfl, by show va_P D xcl _ t.heap; rw [ht]; exact hP⟩, hS.F ht⟩) hS.2.2 d_JP_checkIndex_17
    · have h := xif_f c_1 h
      refine lv_aload_n hx hb d_JP_checkIndex_9 rfl (lv_at hl 2 rfl) ?_
      refine lv_iload_n hx hb d_JP_checkIndex_10 rfl (lv_at hl 0 rfl) ?_
      refine lv_iload_n hx hb d_JP_checkIndex_11 rfl (lv_at hl 1 rfl) ?_
      cases h
theorem c_JP_checkIndexA (l : Launch) (D : va_G) (lay : Nat → Nat) (cA : Nat → ClassId) (adK adV : Nat → Nat) (s0 : State) (S : XS) (a0 : Int32) (a1 : Int32) (a2 : Nat) (r : Int32) (h : f_JP_checkIndexA S a0 a1 a2 = some r) : Met l y_JP_checkIndex (.code y_JP_checkIndex b_JP_checkIndex 3 ((Option.some Jvm.ClassFile.FieldType.int)) :: xT) rm_JP_checkIndex (xPc D lay cA adK adV s0 S [.int a0, .int a1, .ref a2]) (xqi D lay cA r S) 0 0 (xI lay) := by
  refine Met.ofW (cc := b_JP_checkIndex) (maxL := 3) (ret := (Option.some Jvm.ClassFile.FieldType.int)) (by decide +kernel) rfl ?_
  intro p e s m args below meth c s₁ B hml hv
  obtain ⟨rfl, hP, E⟩ := hv
  have C := xB_of B hml
  have hl := lv_entry ([.int a0, .int a1, .ref a2]) (n := 3) (Nat.le_of_ble_eq_true rfl)
  rw [lg_entry_eq]
  generalize (lg_sl ([.int a0, .int a1, .ref a2]) ++ List.replicate (3 - (lg_sl ([.int a0, .int a1, .ref a2])).length) Slot.unset).toArray = ls at hl ⊢
  exact k_JP_checkIndexA l C E S a0 a1 a2 r h s.heap [] ls hP va_S.rf hl
/-! java/lang/String.checkIndex(II)V -/
def rm_JS_checkIndex : Room := { frames := 1, cells := 0, slots := 0, locals := 22 }
theorem d_JS_checkIndex_0 : decode b_JS_checkIndex 0 = .ok (.iload_n 0, 1) := by decide +kernel
theorem d_JS_checkIndex_1 : decode b_JS_checkIndex 1 = .ok (.iload_n 1, 1) := by decide +kernel
theorem d_JS_checkIndex_2 : decode b_JS_checkIndex 2 = .ok (.getstatic 1053, 3) := by decide +kernel
theorem d_JS_checkIndex_5 : decode b_JS_checkIndex 5 = .ok (.invokestatic 1059, 3) := by decide +kernel
theorem d_JS_checkIndex_8 : decode b_JS_checkIndex 8 = .ok (.pop, 1) := by decide +kernel
theorem d_JS_checkIndex_9 : decode b_JS_checkIndex 9 = .ok (.return_, 1) := by decide +kernel
def f_JS_checkIndex (S : XS) (a0 : Int32) (a1 : Int32) : Option Unit := (f_JP_checkIndexN S a0 a1).bind fun _ => some ()
set_option maxHeartbeats 4000000 in
set_option maxRecDepth 100000 in
theorem c_JS_checkIndex (l : Launch) (D : va_G) (lay : Nat → Nat) (cA : Nat → ClassId) (adK adV : Nat → Nat) (s0 : State) (S : XS) (a0 : Int32) (a1 : Int32) (r : Unit) (h : f_JS_checkIndex S a0 a1 = some r) : Met l y_JS_checkIndex (.code y_JS_checkIndex b_JS_checkIndex 2 ((Option.none : Option Jvm.ClassFile.FieldType)) :: xT) rm_JS_checkIndex (xPc D lay cA adK adV s0 S [.int a0, .int a1]) (xqv D lay cA S) 0 0 (xI lay) := by
  obtain ⟨q1, e1, h⟩ := xb h
  refine Met.ofW (cc := b_JS_checkIndex) (maxL := 2) (ret := (Option.none : Option Jvm.ClassFile.FieldType)) (by decide +kernel) rfl ?_
  intro p e s m args below meth c s₁ B hml hv
  obtain ⟨rfl, hP, E⟩ := hv
  obtain ⟨hx, hb, hr, hml, hown, hts, hlk, hnh⟩ := xB_of B hml
  have hl := lv_entry ([.int a0, .int a1]) (n := 2) (Nat.le_of_ble_eq_true rfl)
  rw [lg_entry_eq]
  generalize (lg_sl ([.int a0, .int a1]) ++ List.replicate (2 - (lg_sl ([.int a0, .int a1])).length) Slot.unset).toArray = ls at hl ⊢
  refine lv_iload_n hx hb d_JS_checkIndex_0 rfl (lv_at hl 0 rfl) ?_
  refine lv_iload_n hx hb d_JS_checkIndex_1 rfl (lv_at hl 1 rfl) ?_
  rcases E.sio with hz | ⟨t9, hz⟩
  · refine va_gets hx hb hz va_S.rf hown (hts _ wd_345) (fun _ h9 => h9) d_JS_checkIndex_2 ?_
    refine xc_i (va_runS (As := [.int a0, .int a1, .null]) (rest := []) ⟨hx, hb, hml, hown, hts⟩ (c_JP_checkIndexN l D lay cA adK adV s0 S a0 a1 q1 e1) ⟨callB_of 3 hts (xT_I wd_476) rfl rfl rfl (hts _ wd_12) (hts _ wd_474) (by decide +kernel) ⟨Nat.le_of_ble_eq_true rfl, Nat.le_of_ble_eq_true rfl⟩, hts _ wd_475⟩ (xpS E hP va_S.rf) rfl rfl hl.1 rfl (lv_room (Nat.le_of_ble_eq_true rfl)) d_JS_checkIndex_5 ⟨Nat.le_of_ble_eq_true rfl, Nat.le_of_ble_eq_true rfl⟩) va_S.rf (fun H locs hP hS => ?_)
    refine lv_pop hx hb d_JS_checkIndex_8 rfl ?_
    exact W.vret hx hb hr (fun t ht hW => ⟨⟨(), rfl, trivial, by show va_P D xcl _ t.heap; rw [ht]; exact hP⟩, hS.F ht⟩) hS.2.2 d_JS_checkIndex_9
  · refine va_gets hx hb hz va_S.rf hown (hts _ wd_345) (fun _ h9 => h9) d_JS_checkIndex_2 ?_
    refine xc_i (va_runS (As := [.int a0, .int a1, .ref t9]) (rest := []) ⟨hx, hb, hml, hown, hts⟩ (c_JP_checkIndexA l D lay cA adK adV s0 S a0 a1 t9 q1 (by unfold f_JP_checkIndexA; unfold f_JP_checkIndexN at e1; exact e1)) ⟨callB_of 3 hts (xT_I wd_476) rfl rfl rfl (hts _ wd_12) (hts _ wd_474) (by decide +kernel) ⟨Nat.le_of_ble_eq_true rfl, Nat.le_of_ble_eq_true rfl⟩, hts _ wd_475⟩ (xpS E hP va_S.rf) rfl rfl hl.1 rfl (lv_room (Nat.le_of_ble_eq_true rfl)) d_JS_checkIndex_5 ⟨Nat.le_of_ble_eq_true rfl, Nat.le_of_ble_eq_true rfl⟩) va_S.rf (fun H locs hP hS => ?_)
    refine lv_pop hx hb d_JS_checkIndex_8 rfl ?_
    exact W.vret hx hb hr (fun t ht hW => ⟨⟨(), rfl, trivial, by show va_P D xcl _ t.heap; rw [ht]; exact hP⟩, hS.F ht⟩) hS.2.2 d_JS_checkIndex_9
/-! java/lang/StringLatin1.charAt([BI)C -/
def rm_JL_charAt : Room := { frames := 2, cells := 0, slots := 0, locals := 43 }
theorem d_JL_charAt_0 : decode b_JL_charAt 0 = .ok (.iload_n 1, 1) := by decide +kernel
theorem d_JL_charAt_1 : decode b_JL_charAt 1 = .ok (.aload_n 0, 1) := by decide +kernel
theorem d_JL_charAt_2 : decode b_JL_charAt 2 = .ok (.arraylength, 1) := by decide +kernel
theorem d_JL_charAt_3 : decode b_JL_charAt 3 = .ok (.invokestatic 9, 3) := by decide +kernel
theorem d_JL_charAt_6 : decode b_JL_charAt 6 = .ok (.aload_n 0, 1) := by decide +kernel
theorem d_JL_charAt_7 : decode b_JL_charAt 7 = .ok (.iload_n 1, 1) := by decide +kernel
theorem d_JL_charAt_8 : decode b_JL_charAt 8 = .ok (.baload, 1) := by decide +kernel
theorem d_JL_charAt_9 : decode b_JL_charAt 9 = .ok (.sipush 255, 3) := by decide +kernel
theorem d_JL_charAt_12 : decode b_JL_charAt 12 = .ok (.iand, 1) := by decide +kernel
theorem d_JL_charAt_13 : decode b_JL_charAt 13 = .ok (.i2c, 1) := by decide +kernel
theorem d_JL_charAt_14 : decode b_JL_charAt 14 = .ok (.ireturn, 1) := by decide +kernel
def f_JL_charAt (S : XS) (a0 : Nat) (a1 : Int32) : Option (Int32) :=
  if a0 < xnl then ((f_JS_checkIndex S a1 (Int32.ofNat (xlen.getD a0 0))).bind fun q3 => if ¬ (a1 < 0 ∨ xlen.getD a0 0 ≤ a1.toNatClampNeg) then (if ((((((xbyt.getD a0 []).getD a1.toNatClampNeg 0) &&& (255 : Int32)).toUInt32 % 65536).toInt32).toUInt32 % 65536).toInt32 = (((((xbyt.getD a0 []).getD a1.toNatClampNeg 0) &&& (255 : Int32)).toUInt32 % 65536).toInt32) then (some (((((xbyt.getD a0 []).getD a1.toNatClampNeg 0) &&& (255 : Int32)).toUInt32 % 65536).toInt32)) else none) else none) else none
set_option maxHeartbeats 4000000 in
set_option maxRecDepth 100000 in
theorem k_JL_charAt (l : Launch) {p : Program} {e : Env} {s : State} {m : MethodId} {args : Array Value} {below : List Frame} {meth : Method} {c : Code} {D : va_G} {lay : Nat → Nat} {cA : Nat → ClassId} {adK adV : Nat → Nat} {s0 : State} (C : xB p s m args meth c R_JL b_JL_charAt ((Option.some Jvm.ClassFile.FieldType.char)) 2) (E : xE D lay cA adK adV s0 s s.heap) : ∀ (S : XS) (a0 : Nat) (a1 : Int32) (r : Int32) (_ : f_JL_charAt S a0 a1 = some r) (H : Heap) (locs : List Loc) (ls : Array Slot), va_P D xcl (xw lay cA S) H → va_S (xI lay) s.heap H locs → lv_has ls 2 [(0, .ref (adV a0)), (1, .int a1)] → W p l e rm_JL_charAt s m args below meth c H locs 0 0 (MQ below (xqi D lay cA r S) args s 0 0 (xI lay)) (F0 m 0 ls []) := by
  obtain ⟨hx, hb, hr, hml, hown, hts, hlk, hnh⟩ := id C
  have hK := E.K
  intro S a0 a1 r h H locs ls hP hS hl
  unfold f_JL_charAt at h
  refine lv_iload_n hx hb d_JL_charAt_0 rfl (lv_at hl 1 rfl) ?_
  refine lv_aload_n hx hb d_JL_charAt_1 rfl (lv_at hl 0 rfl) ?_
  obtain ⟨hk1, h⟩ := xg h
  refine va_tlen hx hb (E.str hk1).2.2.2 hS rfl d_JL_charAt_2 ?_
  obtain ⟨q3, e2, h⟩ := xb h
  refine xc_v (va_runS (As := [.int a1, .int (Int32.ofNat (xlen.getD a0 0))]) (rest := []) ⟨hx, hb, hml, hown, hts⟩ (c_JS_checkIndex l D lay cA adK adV s0 S a1 (Int32.ofNat (xlen.getD a0 0)) q3 e2) ⟨callB_of 2 hts (xT_I wd_473) rfl rfl rfl (hts _ wd_9) (hts _ wd_471) (by decide +kernel) ⟨Nat.le_of_ble_eq_true rfl, Nat.le_of_ble_eq_true rfl⟩, hts _ wd_472⟩ (xpS E hP hS) rfl rfl hl.1 rfl (lv_room (Nat.le_of_ble_eq_true rfl)) d_JL_charAt_3 ⟨Nat.le_of_ble_eq_true rfl, Nat.le_of_ble_eq_true rfl⟩) hS (fun H locs hP hS => ?_)
  refine lv_aload_n hx hb d_JL_charAt_6 rfl (lv_at hl 0 rfl) ?_
  refine lv_iload_n hx hb d_JL_charAt_7 rfl (lv_at hl 1 rfl) ?_
  obtain ⟨hg4, h⟩ := xg h
  refine va_tb hx hb (E.str hk1).2.2.2 hS hg4 rfl d_JL_charAt_8 ?_
  refine lv_sipush (v := (255 : Int32)) hx hb d_JL_charAt_9 (by decide) ?_
  refine lv_iand hx hb d_JL_charAt_12 ?_
  refine lv_i2c (v := ((((xbyt.getD a0 []).getD a1.toNatClampNeg 0) &&& (255 : Int32)).toUInt32 % 65536).toInt32) hx hb d_JL_charAt_13 rfl ?_
  obtain ⟨hc5, h⟩ := xg h
  have h9 := Option.some.inj h
  subst h9
  exact W.zret (v := ((((xbyt.getD a0 []).getD a1.toNatClampNeg 0) &&& (255 : Int32)).toUInt32 % 65536).toInt32) hx hb hr (by rw [← hc5]; exact pk_nc _) (fun t ht hW => ⟨⟨((((xbyt.getD a0 []).getD a1.toNatClampNeg 0) &&& (255 : Int32)).toUInt32 % 65536).toInt32, (), rfl, rfl, by show va_P D xcl _ t.heap; rw [ht]; exact hP⟩, hS.F ht⟩) hS.2.2 d_JL_charAt_14
theorem c_JL_charAt (l : Launch) (D : va_G) (lay : Nat → Nat) (cA : Nat → ClassId) (adK adV : Nat → Nat) (s0 : State) (S : XS) (a0 : Nat) (a1 : Int32) (r : Int32) (h : f_JL_charAt S a0 a1 = some r) : Met l y_JL_charAt (.code y_JL_charAt b_JL_charAt 2 ((Option.some Jvm.ClassFile.FieldType.char)) :: xT) rm_JL_charAt (xPc D lay cA adK adV s0 S [.ref (adV a0), .int a1]) (xqi D lay cA r S) 0 0 (xI lay) := by
  refine Met.ofW (cc := b_JL_charAt) (maxL := 2) (ret := (Option.some Jvm.ClassFile.FieldType.char)) (by decide +kernel) rfl ?_
  intro p e s m args below meth c s₁ B hml hv
  obtain ⟨rfl, hP, E⟩ := hv
  have C := xB_of B hml
  have hl := lv_entry ([.ref (adV a0), .int a1]) (n := 2) (Nat.le_of_ble_eq_true rfl)
  rw [lg_entry_eq]
  generalize (lg_sl ([.ref (adV a0), .int a1]) ++ List.replicate (2 - (lg_sl ([.ref (adV a0), .int a1])).length) Slot.unset).toArray = ls at hl ⊢
  exact k_JL_charAt l C E S a0 a1 r h s.heap [] ls hP va_S.rf hl
/-! java/lang/String.charAt(I)C -/
def rm_JS_charAt : Room := { frames := 3, cells := 0, slots := 0, locals := 64 }
theorem d_JS_charAt_0 : decode b_JS_charAt 0 = .ok (.aload_n 0, 1) := by decide +kernel
theorem d_JS_charAt_1 : decode b_JS_charAt 1 = .ok (.invokevirtual 492, 3) := by decide +kernel
theorem d_JS_charAt_4 : decode b_JS_charAt 4 = .ok (.ifCond .eq 12, 3) := by decide +kernel
theorem d_JS_charAt_7 : decode b_JS_charAt 7 = .ok (.aload_n 0, 1) := by decide +kernel
theorem d_JS_charAt_8 : decode b_JS_charAt 8 = .ok (.getfield 9, 3) := by decide +kernel
theorem d_JS_charAt_11 : decode b_JS_charAt 11 = .ok (.iload_n 1, 1) := by decide +kernel
theorem d_JS_charAt_12 : decode b_JS_charAt 12 = .ok (.invokestatic 495, 3) := by decide +kernel
theorem d_JS_charAt_15 : decode b_JS_charAt 15 = .ok (.ireturn, 1) := by decide +kernel
theorem d_JS_charAt_16 : decode b_JS_charAt 16 = .ok (.aload_n 0, 1) := by decide +kernel
theorem d_JS_charAt_17 : decode b_JS_charAt 17 = .ok (.getfield 9, 3) := by decide +kernel
theorem d_JS_charAt_20 : decode b_JS_charAt 20 = .ok (.iload_n 1, 1) := by decide +kernel
theorem d_JS_charAt_21 : decode b_JS_charAt 21 = .ok (.invokestatic 498, 3) := by decide +kernel
theorem d_JS_charAt_24 : decode b_JS_charAt 24 = .ok (.ireturn, 1) := by decide +kernel
def f_JS_charAt (S : XS) (a0 : Nat) (a1 : Int32) : Option (Int32) :=
  if a0 < xnl then ((f_JS_isLatin1 S a0).bind fun q3 => if q3 = 0 then (none) else ((f_JL_charAt S a0 a1).bind fun q5 => if (q5.toUInt32 % 65536).toInt32 = q5 then (some q5) else none)) else none
set_option maxHeartbeats 4000000 in
set_option maxRecDepth 100000 in
theorem k_JS_charAt (l : Launch) {p : Program} {e : Env} {s : State} {m : MethodId} {args : Array Value} {below : List Frame} {meth : Method} {c : Code} {D : va_G} {lay : Nat → Nat} {cA : Nat → ClassId} {adK adV : Nat → Nat} {s0 : State} (C : xB p s m args meth c R_JS b_JS_charAt ((Option.some Jvm.ClassFile.FieldType.char)) 2) (E : xE D lay cA adK adV s0 s s.heap) : ∀ (S : XS) (a0 : Nat) (a1 : Int32) (r : Int32) (_ : f_JS_charAt S a0 a1 = some r) (H : Heap) (locs : List Loc) (ls : Array Slot), va_P D xcl (xw lay cA S) H → va_S (xI lay) s.heap H locs → lv_has ls 2 [(0, .ref (adK a0)), (1, .int a1)] → W p l e rm_JS_charAt s m args below meth c H locs 0 0 (MQ below (xqi D lay cA r S) args s 0 0 (xI lay)) (F0 m 0 ls []) := by
  obtain ⟨hx, hb, hr, hml, hown, hts, hlk, hnh⟩ := id C
  have hK := E.K
  intro S a0 a1 r h H locs ls hP hS hl
  unfold f_JS_charAt at h
  refine lv_aload_n hx hb d_JS_charAt_0 rfl (lv_at hl 0 rfl) ?_
  obtain ⟨hk1, h⟩ := xg h
  obtain ⟨q3, e2, h⟩ := xb h
  refine xc_i (va_runV (As := []) (rest := []) ⟨hx, hb, hml, hown, hts⟩ (c_JS_isLatin1 l D lay cA adK adV s0 S a0 q3 e2) (cwV 0 hts (xT_V wd_300 wd_301 wd_302 wd_9 wd_303) rfl rfl rfl (by decide +kernel) ⟨Nat.le_of_ble_eq_true rfl, Nat.le_of_ble_eq_true rfl⟩) (xpT E hP hS hk1 rfl) rfl rfl hl.1 rfl (lv_room (Nat.le_of_ble_eq_true rfl)) d_JS_charAt_1 ⟨Nat.le_of_ble_eq_true rfl, Nat.le_of_ble_eq_true rfl⟩) hS (fun H locs hP hS => ?_)
  refine lv_if_eq (tgt := 16) hx hb d_JS_charAt_4 (by decide) (fun c_7 => ?_) (fun c_7 => ?_)
  · have h := xif_t c_7 h
    refine lv_aload_n hx hb d_JS_charAt_16 rfl (lv_at hl 0 rfl) ?_
    refine vk_getf hx hb (E.str hk1).2.2.1 hS hown (hts _ wd_1025) (fun _ h9 => h9) d_JS_charAt_17 ?_
    refine lv_iload_n hx hb d_JS_charAt_20 rfl (lv_at hl 1 rfl) ?_
    cases h
  · have h := xif_f c_7 h
    refine lv_aload_n hx hb d_JS_charAt_7 rfl (lv_at hl 0 rfl) ?_
    refine vk_getf hx hb (E.str hk1).2.2.1 hS hown (hts _ wd_1025) (fun _ h9 => h9) d_JS_charAt_8 ?_
    refine lv_iload_n hx hb d_JS_charAt_11 rfl (lv_at hl 1 rfl) ?_
    obtain ⟨q5, e4, h⟩ := xb h
    refine xc_i (va_runS (As := [.ref (adV a0), .int a1]) (rest := []) ⟨hx, hb, hml, hown, hts⟩ (c_JL_charAt l D lay cA adK adV s0 S a0 a1 q5 e4) ⟨callB_of 2 hts (xT_I wd_470) rfl rfl rfl (hts _ wd_10) (hts _ wd_468) (by decide +kernel) ⟨Nat.le_of_ble_eq_true rfl, Nat.le_of_ble_eq_true rfl⟩, hts _ wd_469⟩ (xpS E hP hS) rfl rfl hl.1 rfl (lv_room (Nat.le_of_ble_eq_true rfl)) d_JS_charAt_12 ⟨Nat.le_of_ble_eq_true rfl, Nat.le_of_ble_eq_true rfl⟩) hS (fun H locs hP hS => ?_)
    obtain ⟨hc6, h⟩ := xg h
    have h9 := Option.some.inj h
    subst h9
    exact W.zret (v := q5) hx hb hr (by rw [← hc6]; exact pk_nc _) (fun t ht hW => ⟨⟨q5, (), rfl, rfl, by show va_P D xcl _ t.heap; rw [ht]; exact hP⟩, hS.F ht⟩) hS.2.2 d_JS_charAt_15
theorem c_JS_charAt (l : Launch) (D : va_G) (lay : Nat → Nat) (cA : Nat → ClassId) (adK adV : Nat → Nat) (s0 : State) (S : XS) (a0 : Nat) (a1 : Int32) (r : Int32) (h : f_JS_charAt S a0 a1 = some r) : Met l y_JS_charAt (.code y_JS_charAt b_JS_charAt 2 ((Option.some Jvm.ClassFile.FieldType.char)) :: xT) rm_JS_charAt (xPc D lay cA adK adV s0 S [.ref (adK a0), .int a1]) (xqi D lay cA r S) 0 0 (xI lay) := by
  refine Met.ofW (cc := b_JS_charAt) (maxL := 2) (ret := (Option.some Jvm.ClassFile.FieldType.char)) (by decide +kernel) rfl ?_
  intro p e s m args below meth c s₁ B hml hv
  obtain ⟨rfl, hP, E⟩ := hv
  have C := xB_of B hml
  have hl := lv_entry ([.ref (adK a0), .int a1]) (n := 2) (Nat.le_of_ble_eq_true rfl)
  rw [lg_entry_eq]
  generalize (lg_sl ([.ref (adK a0), .int a1]) ++ List.replicate (2 - (lg_sl ([.ref (adK a0), .int a1])).length) Slot.unset).toArray = ls at hl ⊢
  exact k_JS_charAt l C E S a0 a1 r h s.heap [] ls hP va_S.rf hl
/-! java/lang/StringLatin1.canEncode(I)Z -/
def rm_JL_canEncode : Room := { frames := 0, cells := 0, slots := 0, locals := 0 }
theorem d_JL_canEncode_0 : decode b_JL_canEncode 0 = .ok (.iload_n 0, 1) := by decide +kernel
theorem d_JL_canEncode_1 : decode b_JL_canEncode 1 = .ok (.ifCond .lt 14, 3) := by decide +kernel
theorem d_JL_canEncode_4 : decode b_JL_canEncode 4 = .ok (.iload_n 0, 1) := by decide +kernel
theorem d_JL_canEncode_5 : decode b_JL_canEncode 5 = .ok (.sipush 255, 3) := by decide +kernel
theorem d_JL_canEncode_8 : decode b_JL_canEncode 8 = .ok (.if_icmp .gt 7, 3) := by decide +kernel
theorem d_JL_canEncode_11 : decode b_JL_canEncode 11 = .ok (.iconst 1, 1) := by decide +kernel
theorem d_JL_canEncode_12 : decode b_JL_canEncode 12 = .ok (.goto 4, 3) := by decide +kernel
theorem d_JL_canEncode_15 : decode b_JL_canEncode 15 = .ok (.iconst 0, 1) := by decide +kernel
theorem d_JL_canEncode_16 : decode b_JL_canEncode 16 = .ok (.ireturn, 1) := by decide +kernel
def f_JL_canEncode (S : XS) (a0 : Int32) : Option (Int32) :=
  if a0 < 0 then (some (0 : Int32)) else (if (255 : Int32) < a0 then (some (0 : Int32)) else (some (1 : Int32)))
set_option maxHeartbeats 4000000 in
set_option maxRecDepth 100000 in
theorem k_JL_canEncode (l : Launch) {p : Program} {e : Env} {s : State} {m : MethodId} {args : Array Value} {below : List Frame} {meth : Method} {c : Code} {D : va_G} {lay : Nat → Nat} {cA : Nat → ClassId} {adK adV : Nat → Nat} {s0 : State} (C : xB p s m args meth c R_JL b_JL_canEncode ((Option.some Jvm.ClassFile.FieldType.boolean)) 1) (E : xE D lay cA adK adV s0 s s.heap) : ∀ (S : XS) (a0 : Int32) (r : Int32) (_ : f_JL_canEncode S a0 = some r) (H : Heap) (locs : List Loc) (ls : Array Slot), va_P D xcl (xw lay cA S) H → va_S (xI lay) s.heap H locs → lv_has ls 1 [(0, .int a0)] → W p l e rm_JL_canEncode s m args below meth c H locs 0 0 (MQ below (xqi D lay cA r S) args s 0 0 (xI lay)) (F0 m 0 ls []) := by
  obtain ⟨hx, hb, hr, hml, hown, hts, hlk, hnh⟩ := id C
  have hK := E.K
  intro S a0 r h H locs ls hP hS hl
  unfold f_JL_canEncode at h
  refine lv_iload_n hx hb d_JL_canEncode_0 rfl (lv_at hl 0 rfl) ?_
  refine lv_if_lt (tgt := 15) hx hb d_JL_canEncode_1 (by decide) (fun c_2 => ?_) (fun c_2 => ?_)
  · have h := xif_t c_2 h
    refine lv_iconst (v := (0 : Int32)) hx hb d_JL_canEncode_15 (by decide) ?_
    have h9 := Option.some.inj h
    subst h9
    exact W.zret (v := (0 : Int32)) hx hb hr (by decide) (fun t ht hW => ⟨⟨(0 : Int32), (), rfl, rfl, by show va_P D xcl _ t.heap; rw [ht]; exact hP⟩, hS.F ht⟩) hS.2.2 d_JL_canEncode_16
  · have h := xif_f c_2 h
    refine lv_iload_n hx hb d_JL_canEncode_4 rfl (lv_at hl 0 rfl) ?_
    refine lv_sipush (v := (255 : Int32)) hx hb d_JL_canEncode_5 (by decide) ?_
    refine lv_icmp_gt (tgt := 15) hx hb d_JL_canEncode_8 (by decide) (fun c_1 => ?_) (fun c_1 => ?_)
    · have h := xif_t c_1 h
      refine lv_iconst (v := (0 : Int32)) hx hb d_JL_canEncode_15 (by decide) ?_
      have h9 := Option.some.inj h
      subst h9
      exact W.zret (v := (0 : Int32)) hx hb hr (by decide) (fun t ht hW => ⟨⟨(0 : Int32), (), rfl, rfl, by show va_P D xcl _ t.heap; rw [ht]; exact hP⟩, hS.F ht⟩) hS.2.2 d_JL_canEncode_16
    · have h := xif_f c_1 h
      refine lv_iconst (v := (1 : Int32)) hx hb d_JL_canEncode_11 (by decide) ?_
      refine lv_goto (tgt := 16) hx hb d_JL_canEncode_12 (by decide) ?_
      have h9 := Option.some.inj h
      subst h9
      exact W.zret (v := (1 : Int32)) hx hb hr (by decide) (fun t ht hW => ⟨⟨(1 : Int32), (), rfl, rfl, by show va_P D xcl _ t.heap; rw [ht]; exact hP⟩, hS.F ht⟩) hS.2.2 d_JL_canEncode_16
theorem c_JL_canEncode (l : Launch) (D : va_G) (lay : Nat → Nat) (cA : Nat → ClassId) (adK adV : Nat → Nat) (s0 : State) (S : XS) (a0 : Int32) (r : Int32) (h : f_JL_canEncode S a0 = some r) : Met l y_JL_canEncode (.code y_JL_canEncode b_JL_canEncode 1 ((Option.some Jvm.ClassFile.FieldType.boolean)) :: xT) rm_JL_canEncode (xPc D lay cA adK adV s0 S [.int a0]) (xqi D lay cA r S) 0 0 (xI lay) := by
  refine Met.ofW (cc := b_JL_canEncode) (maxL := 1) (ret := (Option.some Jvm.ClassFile.FieldType.boolean)) (by decide +kernel) rfl ?_
  intro p e s m args below meth c s₁ B hml hv
  obtain ⟨rfl, hP, E⟩ := hv
  have C := xB_of B hml
  have hl := lv_entry ([.int a0]) (n := 1) (Nat.le_of_ble_eq_true rfl)
  rw [lg_entry_eq]
  generalize (lg_sl ([.int a0]) ++ List.replicate (1 - (lg_sl ([.int a0])).length) Slot.unset).toArray = ls at hl ⊢
  exact k_JL_canEncode l C E S a0 r h s.heap [] ls hP va_S.rf hl
/-! java/lang/StringLatin1.indexOfChar([BIII)I -/
def rm_JL_indexOfChar : Room := { frames := 0, cells := 0, slots := 0, locals := 0 }
theorem d_JL_indexOfChar_0 : decode b_JL_indexOfChar 0 = .ok (.iload_n 1, 1) := by decide +kernel
theorem d_JL_indexOfChar_1 : decode b_JL_indexOfChar 1 = .ok (.i2b, 1) := by decide +kernel
theorem d_JL_indexOfChar_2 : decode b_JL_indexOfChar 2 = .ok (.istore 4, 2) := by decide +kernel
theorem d_JL_indexOfChar_4 : decode b_JL_indexOfChar 4 = .ok (.iload_n 2, 1) := by decide +kernel
theorem d_JL_indexOfChar_5 : decode b_JL_indexOfChar 5 = .ok (.istore 5, 2) := by decide +kernel
theorem d_JL_indexOfChar_7 : decode b_JL_indexOfChar 7 = .ok (.iload 5, 2) := by decide +kernel
theorem d_JL_indexOfChar_9 : decode b_JL_indexOfChar 9 = .ok (.iload_n 3, 1) := by decide +kernel
theorem d_JL_indexOfChar_10 : decode b_JL_indexOfChar 10 = .ok (.if_icmp .ge 21, 3) := by decide +kernel
theorem d_JL_indexOfChar_13 : decode b_JL_indexOfChar 13 = .ok (.aload_n 0, 1) := by decide +kernel
theorem d_JL_indexOfChar_14 : decode b_JL_indexOfChar 14 = .ok (.iload 5, 2) := by decide +kernel
theorem d_JL_indexOfChar_16 : decode b_JL_indexOfChar 16 = .ok (.baload, 1) := by decide +kernel
theorem d_JL_indexOfChar_17 : decode b_JL_indexOfChar 17 = .ok (.iload 4, 2) := by decide +kernel
theorem d_JL_indexOfChar_19 : decode b_JL_indexOfChar 19 = .ok (.if_icmp .ne 6, 3) := by decide +kernel
theorem d_JL_indexOfChar_22 : decode b_JL_indexOfChar 22 = .ok (.iload 5, 2) := by decide +kernel
theorem d_JL_indexOfChar_24 : decode b_JL_indexOfChar 24 = .ok (.ireturn, 1) := by decide +kernel
theorem d_JL_indexOfChar_25 : decode b_JL_indexOfChar 25 = .ok (.iinc 5 1, 3) := by decide +kernel
theorem d_JL_indexOfChar_28 : decode b_JL_indexOfChar 28 = .ok (.goto (-21), 3) := by decide +kernel
theorem d_JL_indexOfChar_31 : decode b_JL_indexOfChar 31 = .ok (.iconst (-1), 1) := by decide +kernel
theorem d_JL_indexOfChar_32 : decode b_JL_indexOfChar 32 = .ok (.ireturn, 1) := by decide +kernel
def f_JL_indexOfChar_7 : Nat → XS → Nat → Int32 → Int32 → Int32 → Option (Int32)
  | 0, _, _, _, _, _ => none
  | n + 1, S, a0, a3, a4, a5 =>
    if a3 ≤ a5 then (some (-1 : Int32)) else (if a0 < xnl then (if ¬ (a5 < 0 ∨ xlen.getD a0 0 ≤ a5.toNatClampNeg) then (if ((xbyt.getD a0 []).getD a5.toNatClampNeg 0) = a4 then (some a5) else (f_JL_indexOfChar_7 n S a0 a3 a4 (a5 + (1 : Int32)))) else none) else none)
set_option maxHeartbeats 4000000 in
set_option maxRecDepth 100000 in
theorem k_JL_indexOfChar_7 (l : Launch) {p : Program} {e : Env} {s : State} {m : MethodId} {args : Array Value} {below : List Frame} {meth : Method} {c : Code} {D : va_G} {lay : Nat → Nat} {cA : Nat → ClassId} {adK adV : Nat → Nat} {s0 : State} (C : xB p s m args meth c R_JL b_JL_indexOfChar ((Option.some Jvm.ClassFile.FieldType.int)) 6) (E : xE D lay cA adK adV s0 s s.heap) : ∀ (n : Nat) (S : XS) (a0 : Nat) (a3 : Int32) (a4 : Int32) (a5 : Int32) (r : Int32) (_ : f_JL_indexOfChar_7 n S a0 a3 a4 a5 = some r) (H : Heap) (locs : List Loc) (ls : Array Slot), va_P D xcl (xw lay cA S) H → va_S (xI lay) s.heap H locs → lv_has ls 6 [(0, .ref (adV a0)), (3, .int a3), (4, .int a4), (5, .int a5)] → W p l e rm_JL_indexOfChar s m args below meth c H locs 0 0 (MQ below (xqi D lay cA r S) args s 0 0 (xI lay)) (F0 m 7 ls []) := by
  obtain ⟨hx, hb, hr, hml, hown, hts, hlk, hnh⟩ := id C
  have hK := E.K
  intro n
  induction n with
  | zero => intro S a0 a3 a4 a5 r h; rw [f_JL_indexOfChar_7] at h; cases h
  | succ n ih =>
    intro S a0 a3 a4 a5 r h H locs ls hP hS hl
    rw [f_JL_indexOfChar_7] at h
    refine lv_iload hx hb d_JL_indexOfChar_7 (lv_at hl 3 rfl) ?_
    refine lv_iload_n hx hb d_JL_indexOfChar_9 rfl (lv_at hl 1 rfl) ?_
    refine lv_icmp_ge (tgt := 31) hx hb d_JL_indexOfChar_10 (by decide) (fun c_4 => ?_) (fun c_4 => ?_)
    · have h := xif_t c_4 h
      refine lv_iconst (v := (-1 : Int32)) hx hb d_JL_indexOfChar_31 (by decide) ?_
      have h9 := Option.some.inj h
      subst h9
      exact W.iret (v := (-1 : Int32)) hx hb hr (fun t ht hW => ⟨⟨(-1 : Int32), (), rfl, rfl, by show va_P D xcl _ t.heap; rw [ht]; exact hP⟩, hS.F ht⟩) hS.2.2 d_JL_indexOfChar_32
    · have h := xif_f c_4 h
      refine lv_aload_n hx hb d_JL_indexOfChar_13 rfl (lv_at hl 0 rfl) ?_
      refine lv_iload hx hb d_JL_indexOfChar_14 (lv_at hl 3 rfl) ?_
      obtain ⟨hk1, h⟩ := xg h
      obtain ⟨hg2, h⟩ := xg h
      refine va_tb hx hb (E.str hk1).2.2.2 hS hg2 rfl d_JL_indexOfChar_16 ?_
      refine lv_iload hx hb d_JL_indexOfChar_17 (lv_at hl 2 rfl) ?_
      refine lv_icmp_ne (tgt := 25) hx hb d_JL_indexOfChar_19 (by decide) (fun c_3 => ?_) (fun c_3 => ?_)
      · have h := xif_f c_3 h
        refine lv_iinc (v := a5 + (1 : Int32)) (lv' := [(5, .int (a5 + (1 : Int32))), (0, .ref (adV a0)), (3, .int a3), (4, .int a4)]) hx hb d_JL_indexOfChar_25 hl (k := 3) rfl (by rfl) (by decide) rfl (fun ls hl => ?_)
        refine lv_goto (tgt := 7) hx hb d_JL_indexOfChar_28 (by decide) ?_
        exact ih S a0 a3 a4 (a5 + (1 : Int32)) _ h H locs ls hP hS (lv_sub hl [1, 2, 3, 0] rfl)
      · have h := xif_t c_3 h
        refine lv_iload hx hb d_JL_indexOfChar_22 (lv_at hl 3 rfl) ?_
        have h9 := Option.some.inj h
        subst h9
        exact W.iret (v := a5) hx hb hr (fun t ht hW => ⟨⟨a5, (), rfl, rfl, by show va_P D xcl _ t.heap; rw [ht]; exact hP⟩, hS.F ht⟩) hS.2.2 d_JL_indexOfChar_24
def f_JL_indexOfChar (S : XS) (a0 : Nat) (a1 : Int32) (a2 : Int32) (a3 : Int32) : Option (Int32) :=
  f_JL_indexOfChar_7 4096 S a0 a3 a1.toInt8.toInt32 a2
set_option maxHeartbeats 4000000 in
set_option maxRecDepth 100000 in
theorem k_JL_indexOfChar (l : Launch) {p : Program} {e : Env} {s : State} {m : MethodId} {args : Array Value} {below : List Frame} {meth : Method} {c : Code} {D : va_G} {lay : Nat → Nat} {cA : Nat → ClassId} {adK adV : Nat → Nat} {s0 : State} (C : xB p s m args meth c R_JL b_JL_indexOfChar ((Option.some Jvm.ClassFile.FieldType.int)) 6) (E : xE D lay cA adK adV s0 s s.heap) : ∀ (S : XS) (a0 : Nat) (a1 : Int32) (a2 : Int32) (a3 : Int32) (r : Int32) (_ : f_JL_indexOfChar S a0 a1 a2 a3 = some r) (H : Heap) (locs : List Loc) (ls : Array Slot), va_P D xcl (xw lay cA S) H → va_S (xI lay) s.heap H locs → lv_has ls 6 [(0, .ref (adV a0)), (1, .int a1), (2, .int a2), (3, .int a3)] → W p l e rm_JL_indexOfChar s m args below meth c H locs 0 0 (MQ below (xqi D lay cA r S) args s 0 0 (xI lay)) (F0 m 0 ls []) := by
  obtain ⟨hx, hb, hr, hml, hown, hts, hlk, hnh⟩ := id C
  have hK := E.K
  intro S a0 a1 a2 a3 r h H locs ls hP hS hl
  unfold f_JL_indexOfChar at h
  refine lv_iload_n hx hb d_JL_indexOfChar_0 rfl (lv_at hl 1 rfl) ?_
  refine lv_i2b (v := a1.toInt8.toInt32) hx hb d_JL_indexOfChar_1 rfl ?_
  refine lv_istore (lv' := [(4, .int a1.toInt8.toInt32), (0, .ref (adV a0)), (1, .int a1), (2, .int a2), (3, .int a3)]) hx hb d_JL_indexOfChar_2 hl (by decide) rfl (fun ls hl => ?_)
  refine lv_iload_n hx hb d_JL_indexOfChar_4 rfl (lv_at hl 3 rfl) ?_
  refine lv_istore (lv' := [(5, .int a2), (4, .int a1.toInt8.toInt32), (0, .ref (adV a0)), (1, .int a1), (2, .int a2), (3, .int a3)]) hx hb d_JL_indexOfChar_5 hl (by decide) rfl (fun ls hl => ?_)
  exact k_JL_indexOfChar_7 l C E 4096 S a0 a3 a1.toInt8.toInt32 a2 _ h H locs ls hP hS (lv_sub hl [2, 5, 1, 0] rfl)
theorem c_JL_indexOfChar (l : Launch) (D : va_G) (lay : Nat → Nat) (cA : Nat → ClassId) (adK adV : Nat → Nat) (s0 : State) (S : XS) (a0 : Nat) (a1 : Int32) (a2 : Int32) (a3 : Int32) (r : Int32) (h : f_JL_indexOfChar S a0 a1 a2 a3 = some r) : Met l y_JL_indexOfChar (.code y_JL_indexOfChar b_JL_indexOfChar 6 ((Option.some Jvm.ClassFile.FieldType.int)) :: xT) rm_JL_indexOfChar (xPc D lay cA adK adV s0 S [.ref (adV a0), .int a1, .int a2, .int a3]) (xqi D lay cA r S) 0 0 (xI lay) := by
  refine Met.ofW (cc := b_JL_indexOfChar) (maxL := 6) (ret := (Option.some Jvm.ClassFile.FieldType.int)) (by decide +kernel) rfl ?_
  intro p e s m args below meth c s₁ B hml hv
  obtain ⟨rfl, hP, E⟩ := hv
  have C := xB_of B hml
  have hl := lv_entry ([.ref (adV a0), .int a1, .int a2, .int a3]) (n := 6) (Nat.le_of_ble_eq_true rfl)
  rw [lg_entry_eq]
  generalize (lg_sl ([.ref (adV a0), .int a1, .int a2, .int a3]) ++ List.replicate (6 - (lg_sl ([.ref (adV a0), .int a1, .int a2, .int a3])).length) Slot.unset).toArray = ls at hl ⊢
  exact k_JL_indexOfChar l C E S a0 a1 a2 a3 r h s.heap [] ls hP va_S.rf hl
/-! java/lang/StringLatin1.indexOf([BIII)I -/
def rm_JL_indexOf : Room := { frames := 1, cells := 0, slots := 0, locals := 25 }
theorem d_JL_indexOf_0 : decode b_JL_indexOf 0 = .ok (.iload_n 1, 1) := by decide +kernel
theorem d_JL_indexOf_1 : decode b_JL_indexOf 1 = .ok (.invokestatic 88, 3) := by decide +kernel
theorem d_JL_indexOf_4 : decode b_JL_indexOf 4 = .ok (.ifCond .ne 5, 3) := by decide +kernel
theorem d_JL_indexOf_7 : decode b_JL_indexOf 7 = .ok (.iconst (-1), 1) := by decide +kernel
theorem d_JL_indexOf_8 : decode b_JL_indexOf 8 = .ok (.ireturn, 1) := by decide +kernel
theorem d_JL_indexOf_9 : decode b_JL_indexOf 9 = .ok (.iload_n 2, 1) := by decide +kernel
theorem d_JL_indexOf_10 : decode b_JL_indexOf 10 = .ok (.iconst 0, 1) := by decide +kernel
theorem d_JL_indexOf_11 : decode b_JL_indexOf 11 = .ok (.invokestatic 92, 3) := by decide +kernel
theorem d_JL_indexOf_14 : decode b_JL_indexOf 14 = .ok (.istore_n 2, 1) := by decide +kernel
theorem d_JL_indexOf_15 : decode b_JL_indexOf 15 = .ok (.iload_n 3, 1) := by decide +kernel
theorem d_JL_indexOf_16 : decode b_JL_indexOf 16 = .ok (.aload_n 0, 1) := by decide +kernel
theorem d_JL_indexOf_17 : decode b_JL_indexOf 17 = .ok (.arraylength, 1) := by decide +kernel
theorem d_JL_indexOf_18 : decode b_JL_indexOf 18 = .ok (.invokestatic 38, 3) := by decide +kernel
theorem d_JL_indexOf_21 : decode b_JL_indexOf 21 = .ok (.istore_n 3, 1) := by decide +kernel
theorem d_JL_indexOf_22 : decode b_JL_indexOf 22 = .ok (.iload_n 2, 1) := by decide +kernel
theorem d_JL_indexOf_23 : decode b_JL_indexOf 23 = .ok (.iload_n 3, 1) := by decide +kernel
theorem d_JL_indexOf_24 : decode b_JL_indexOf 24 = .ok (.if_icmp .lt 5, 3) := by decide +kernel
theorem d_JL_indexOf_27 : decode b_JL_indexOf 27 = .ok (.iconst (-1), 1) := by decide +kernel
theorem d_JL_indexOf_28 : decode b_JL_indexOf 28 = .ok (.ireturn, 1) := by decide +kernel
theorem d_JL_indexOf_29 : decode b_JL_indexOf 29 = .ok (.aload_n 0, 1) := by decide +kernel
theorem d_JL_indexOf_30 : decode b_JL_indexOf 30 = .ok (.iload_n 1, 1) := by decide +kernel
theorem d_JL_indexOf_31 : decode b_JL_indexOf 31 = .ok (.iload_n 2, 1) := by decide +kernel
theorem d_JL_indexOf_32 : decode b_JL_indexOf 32 = .ok (.iload_n 3, 1) := by decide +kernel
theorem d_JL_indexOf_33 : decode b_JL_indexOf 33 = .ok (.invokestatic 95, 3) := by decide +kernel
theorem d_JL_indexOf_36 : decode b_JL_indexOf 36 = .ok (.ireturn, 1) := by decide +kernel
def f_JL_indexOf (S : XS) (a0 : Nat) (a1 : Int32) (a2 : Int32) (a3 : Int32) : Option (Int32) :=
  (f_JL_canEncode S a1).bind fun q2 => if q2 = 0 then (some (-1 : Int32)) else (if a0 < xnl then (if (if a2 < (0 : Int32) then (0 : Int32) else a2) < (if (Int32.ofNat (xlen.getD a0 0)) < a3 then (Int32.ofNat (xlen.getD a0 0)) else a3) then ((f_JL_indexOfChar S a0 a1 (if a2 < (0 : Int32) then (0 : Int32) else a2) (if (Int32.ofNat (xlen.getD a0 0)) < a3 then (Int32.ofNat (xlen.getD a0 0)) else a3)).bind fun q5 => some q5) else (some (-1 : Int32))) else none)
set_option maxHeartbeats 4000000 in
set_option maxRecDepth 100000 in
theorem k_JL_indexOf (l : Launch) {p : Program} {e : Env} {s : State} {m : MethodId} {args : Array Value} {below : List Frame} {meth : Method} {c : Code} {D : va_G} {lay : Nat → Nat} {cA : Nat → ClassId} {adK adV : Nat → Nat} {s0 : State} (C : xB p s m args meth c R_JL b_JL_indexOf ((Option.some Jvm.ClassFile.FieldType.int)) 4) (E : xE D lay cA adK adV s0 s s.heap) : ∀ (S : XS) (a0 : Nat) (a1 : Int32) (a2 : Int32) (a3 : Int32) (r : Int32) (_ : f_JL_indexOf S a0 a1 a2 a3 = some r) (H : Heap) (locs : List Loc) (ls : Array Slot), va_P D xcl (xw lay cA S) H → va_S (xI lay) s.heap H locs → lv_has ls 4 [(0, .ref (adV a0)), (1, .int a1), (2, .int a2), (3, .int a3)] → W p l e rm_JL_indexOf s m args below meth c H locs 0 0 (MQ below (xqi D lay cA r S) args s 0 0 (xI lay)) (F0 m 0 ls []) := by
  obtain ⟨hx, hb, hr, hml, hown, hts, hlk, hnh⟩ := id C
  have hK := E.K
  intro S a0 a1 a2 a3 r h H locs ls hP hS hl
  unfold f_JL_indexOf at h
  refine lv_iload_n hx hb d_JL_indexOf_0 rfl (lv_at hl 1 rfl) ?_
  obtain ⟨q2, e1, h⟩ := xb h
  refine xc_i (va_runS (As := [.int a1]) (rest := []) ⟨hx, hb, hml, hown, hts⟩ (c_JL_canEncode l D lay cA adK adV s0 S a1 q2 e1) ⟨callB_of 1 hts (xT_I wd_319) rfl rfl rfl (hts _ wd_10) (hts _ wd_317) (by decide +kernel) ⟨Nat.le_of_ble_eq_true rfl, Nat.le_of_ble_eq_true rfl⟩, hts _ wd_318⟩ (xpS E hP hS) rfl rfl hl.1 rfl (lv_room (Nat.le_of_ble_eq_true rfl)) d_JL_indexOf_1 ⟨Nat.le_of_ble_eq_true rfl, Nat.le_of_ble_eq_true rfl⟩) hS (fun H locs hP hS => ?_)
  refine lv_if_ne (tgt := 9) hx hb d_JL_indexOf_4 (by decide) (fun c_7 => ?_) (fun c_7 => ?_)
  · have h := xif_f c_7 h
    refine lv_iload_n hx hb d_JL_indexOf_9 rfl (lv_at hl 2 rfl) ?_
    refine lv_iconst (v := (0 : Int32)) hx hb d_JL_indexOf_10 (by decide) ?_
    refine va_mmax hx hb (hml.trans hl.1.symm) hown (hts _ wd_320) (hts _ wd_321) (hts _ wd_8) (hts _ wd_322) (Nat.le_of_ble_eq_true rfl) (Nat.le_of_ble_eq_true rfl) (Nat.zero_le _) (Nat.zero_le _) d_JL_indexOf_11 ?_
    refine lv_istore_n (lv' := [(2, .int (if a2 < (0 : Int32) then (0 : Int32) else a2)), (0, .ref (adV a0)), (1, .int a1), (3, .int a3)]) hx hb d_JL_indexOf_14 rfl hl (by decide) rfl (fun ls hl => ?_)
    refine lv_iload_n hx hb d_JL_indexOf_15 rfl (lv_at hl 3 rfl) ?_
    refine lv_aload_n hx hb d_JL_indexOf_16 rfl (lv_at hl 1 rfl) ?_
    obtain ⟨hk3, h⟩ := xg h
    refine va_tlen hx hb (E.str hk3).2.2.2 hS rfl d_JL_indexOf_17 ?_
    refine va_mmin hx hb (hml.trans hl.1.symm) hown (hts _ wd_323) (hts _ wd_282) (hts _ wd_8) (hts _ wd_283) (Nat.le_of_ble_eq_true rfl) (Nat.le_of_ble_eq_true rfl) (Nat.zero_le _) (Nat.zero_le _) d_JL_indexOf_18 ?_
    refine lv_istore_n (lv' := [(3, .int (if (Int32.ofNat (xlen.getD a0 0)) < a3 then (Int32.ofNat (xlen.getD a0 0)) else a3)), (2, .int (if a2 < (0 : Int32) then (0 : Int32) else a2)), (0, .ref (adV a0)), (1, .int a1)]) hx hb d_JL_indexOf_21 rfl hl (by decide) rfl (fun ls hl => ?_)
    refine lv_iload_n hx hb d_JL_indexOf_22 rfl (lv_at hl 1 rfl) ?_
    refine lv_iload_n hx hb d_JL_indexOf_23 rfl (lv_at hl 0 rfl) ?_
    refine lv_icmp_lt (tgt := 29) hx hb d_JL_indexOf_24 (by decide) (fun c_6 => ?_) (fun c_6 => ?_)
    · have h := xif_t c_6 h
      refine lv_aload_n hx hb d_JL_indexOf_29 rfl (lv_at hl 2 rfl) ?_
      refine lv_iload_n hx hb d_JL_indexOf_30 rfl (lv_at hl 3 rfl) ?_
      refine lv_iload_n hx hb d_JL_indexOf_31 rfl (lv_at hl 1 rfl) ?_
      refine lv_iload_n hx hb d_JL_indexOf_32 rfl (lv_at hl 0 rfl) ?_
      obtain ⟨q5, e4, h⟩ := xb h
      refine xc_i (va_runS (As := [.ref (adV a0), .int a1, .int (if a2 < (0 : Int32) then (0 : Int32) else a2), .int (if (Int32.ofNat (xlen.getD a0 0)) < a3 then (Int32.ofNat (xlen.getD a0 0)) else a3)]) (rest := []) ⟨hx, hb, hml, hown, hts⟩ (c_JL_indexOfChar l D lay cA adK adV s0 S a0 a1 (if a2 < (0 : Int32) then (0 : Int32) else a2) (if (Int32.ofNat (xlen.getD a0 0)) < a3 then (Int32.ofNat (xlen.getD a0 0)) else a3) q5 e4) ⟨callB_of 4 hts (xT_I wd_326) rfl rfl rfl (hts _ wd_10) (hts _ wd_324) (by decide +kernel) ⟨Nat.le_of_ble_eq_true rfl, Nat.le_of_ble_eq_true rfl⟩, hts _ wd_325⟩ (xpS E hP hS) rfl rfl hl.1 rfl (lv_room (Nat.le_of_ble_eq_true rfl)) d_JL_indexOf_33 ⟨Nat.le_of_ble_eq_true rfl, Nat.le_of_ble_eq_true rfl⟩) hS (fun H locs hP hS => ?_)
      have h9 := Option.some.inj h
      subst h9
      exact W.iret (v := q5) hx hb hr (fun t ht hW => ⟨⟨q5, (), rfl, rfl, by show va_P D xcl _ t.heap; rw [ht]; exact hP⟩, hS.F ht⟩) hS.2.2 d_JL_indexOf_36
    · have h := xif_f c_6 h
      refine lv_iconst (v := (-1 : Int32)) hx hb d_JL_indexOf_27 (by decide) ?_
      have h9 := Option.some.inj h
      subst h9
      exact W.iret (v := (-1 : Int32)) hx hb hr (fun t ht hW => ⟨⟨(-1 : Int32), (), rfl, rfl, by show va_P D xcl _ t.heap; rw [ht]; exact hP⟩, hS.F ht⟩) hS.2.2 d_JL_indexOf_28
  · have h := xif_t c_7 h
    refine lv_iconst (v := (-1 : Int32)) hx hb d_JL_indexOf_7 (by decide) ?_
    have h9 := Option.some.inj h
    subst h9
    exact W.iret (v := (-1 : Int32)) hx hb hr (fun t ht hW => ⟨⟨(-1 : Int32), (), rfl, rfl, by show va_P D xcl _ t.heap; rw [ht]; exact hP⟩, hS.F ht⟩) hS.2.2 d_JL_indexOf_8
theorem c_JL_indexOf (l : Launch) (D : va_G) (lay : Nat → Nat) (cA : Nat → ClassId) (adK adV : Nat → Nat) (s0 : State) (S : XS) (a0 : Nat) (a1 : Int32) (a2 : Int32) (a3 : Int32) (r : Int32) (h : f_JL_indexOf S a0 a1 a2 a3 = some r) : Met l y_JL_indexOf (.code y_JL_indexOf b_JL_indexOf 4 ((Option.some Jvm.ClassFile.FieldType.int)) :: xT) rm_JL_indexOf (xPc D lay cA adK adV s0 S [.ref (adV a0), .int a1, .int a2, .int a3]) (xqi D lay cA r S) 0 0 (xI lay) := by
  refine Met.ofW (cc := b_JL_indexOf) (maxL := 4) (ret := (Option.some Jvm.ClassFile.FieldType.int)) (by decide +kernel) rfl ?_
  intro p e s m args below meth c s₁ B hml hv
  obtain ⟨rfl, hP, E⟩ := hv
  have C := xB_of B hml
  have hl := lv_entry ([.ref (adV a0), .int a1, .int a2, .int a3]) (n := 4) (Nat.le_of_ble_eq_true rfl)
  rw [lg_entry_eq]
  generalize (lg_sl ([.ref (adV a0), .int a1, .int a2, .int a3]) ++ List.replicate (4 - (lg_sl ([.ref (adV a0), .int a1, .int a2, .int a3])).length) Slot.unset).toArray = ls at hl ⊢
  exact k_JL_indexOf l C E S a0 a1 a2 a3 r h s.heap [] ls hP va_S.rf hl
/-! java/lang/String.indexOf(II)I -/
def rm_JS_indexOf0 : Room := { frames := 2, cells := 0, slots := 0, locals := 48 }
theorem d_JS_indexOf0_0 : decode b_JS_indexOf0 0 = .ok (.aload_n 0, 1) := by decide +kernel
theorem d_JS_indexOf0_1 : decode b_JS_indexOf0 1 = .ok (.invokevirtual 492, 3) := by decide +kernel
theorem d_JS_indexOf0_4 : decode b_JS_indexOf0 4 = .ok (.ifCond .eq 19, 3) := by decide +kernel
theorem d_JS_indexOf0_7 : decode b_JS_indexOf0 7 = .ok (.aload_n 0, 1) := by decide +kernel
theorem d_JS_indexOf0_8 : decode b_JS_indexOf0 8 = .ok (.getfield 9, 3) := by decide +kernel
theorem d_JS_indexOf0_11 : decode b_JS_indexOf0 11 = .ok (.iload_n 1, 1) := by decide +kernel
theorem d_JS_indexOf0_12 : decode b_JS_indexOf0 12 = .ok (.iload_n 2, 1) := by decide +kernel
theorem d_JS_indexOf0_13 : decode b_JS_indexOf0 13 = .ok (.aload_n 0, 1) := by decide +kernel
theorem d_JS_indexOf0_14 : decode b_JS_indexOf0 14 = .ok (.invokevirtual 505, 3) := by decide +kernel
theorem d_JS_indexOf0_17 : decode b_JS_indexOf0 17 = .ok (.invokestatic 637, 3) := by decide +kernel
theorem d_JS_indexOf0_20 : decode b_JS_indexOf0 20 = .ok (.goto 16, 3) := by decide +kernel
theorem d_JS_indexOf0_23 : decode b_JS_indexOf0 23 = .ok (.aload_n 0, 1) := by decide +kernel
theorem d_JS_indexOf0_24 : decode b_JS_indexOf0 24 = .ok (.getfield 9, 3) := by decide +kernel
theorem d_JS_indexOf0_27 : decode b_JS_indexOf0 27 = .ok (.iload_n 1, 1) := by decide +kernel
theorem d_JS_indexOf0_28 : decode b_JS_indexOf0 28 = .ok (.iload_n 2, 1) := by decide +kernel
theorem d_JS_indexOf0_29 : decode b_JS_indexOf0 29 = .ok (.aload_n 0, 1) := by decide +kernel
theorem d_JS_indexOf0_30 : decode b_JS_indexOf0 30 = .ok (.invokevirtual 505, 3) := by decide +kernel
theorem d_JS_indexOf0_33 : decode b_JS_indexOf0 33 = .ok (.invokestatic 640, 3) := by decide +kernel
theorem d_JS_indexOf0_36 : decode b_JS_indexOf0 36 = .ok (.ireturn, 1) := by decide +kernel
def f_JS_indexOf0 (S : XS) (a0 : Nat) (a1 : Int32) (a2 : Int32) : Option (Int32) :=
  if a0 < xnl then ((f_JS_isLatin1 S a0).bind fun q3 => if q3 = 0 then ((f_JS_length S a0).bind fun q5 => none) else ((f_JS_length S a0).bind fun q7 => (f_JL_indexOf S a0 a1 a2 q7).bind fun q9 => some q9)) else none
set_option maxHeartbeats 4000000 in
set_option maxRecDepth 100000 in
theorem k_JS_indexOf0 (l : Launch) {p : Program} {e : Env} {s : State} {m : MethodId} {args : Array Value} {below : List Frame} {meth : Method} {c : Code} {D : va_G} {lay : Nat → Nat} {cA : Nat → ClassId} {adK adV : Nat → Nat} {s0 : State} (C : xB p s m args meth c R_JS b_JS_indexOf0 ((Option.some Jvm.ClassFile.FieldType.int)) 3) (E : xE D lay cA adK adV s0 s s.heap) : ∀ (S : XS) (a0 : Nat) (a1 : Int32) (a2 : Int32) (r : Int32) (_ : f_JS_indexOf0 S a0 a1 a2 = some r) (H : Heap) (locs : List Loc) (ls : Array Slot), va_P D xcl (xw lay cA S) H → va_S (xI lay) s.heap H locs → lv_has ls 3 [(0, .ref (adK a0)), (1, .int a1), (2, .int a2)] → W p l e rm_JS_indexOf0 s m args below meth c H locs 0 0 (MQ below (xqi D lay cA r S) args s 0 0 (xI lay)) (F0 m 0 ls []) := by
  obtain ⟨hx, hb, hr, hml, hown, hts, hlk, hnh⟩ := id C
  have hK := E.K
  intro S a0 a1 a2 r h H locs ls hP hS hl
  unfold f_JS_indexOf0 at h
  refine lv_aload_n hx hb d_JS_indexOf0_0 rfl (lv_at hl 0 rfl) ?_
  obtain ⟨hk1, h⟩ := xg h
  obtain ⟨q3, e2, h⟩ := xb h
  refine xc_i (va_runV (As := []) (rest := []) ⟨hx, hb, hml, hown, hts⟩ (c_JS_isLatin1 l D lay cA adK adV s0 S a0 q3 e2) (cwV 0 hts (xT_V wd_300 wd_301 wd_302 wd_9 wd_303) rfl rfl rfl (by decide +kernel) ⟨Nat.le_of_ble_eq_true rfl, Nat.le_of_ble_eq_true rfl⟩) (xpT E hP hS hk1 rfl) rfl rfl hl.1 rfl (lv_room (Nat.le_of_ble_eq_true rfl)) d_JS_indexOf0_1 ⟨Nat.le_of_ble_eq_true rfl, Nat.le_of_ble_eq_true rfl⟩) hS (fun H locs hP hS => ?_)
  refine lv_if_eq (tgt := 23) hx hb d_JS_indexOf0_4 (by decide) (fun c_10 => ?_) (fun c_10 => ?_)
  · have h := xif_t c_10 h
    refine lv_aload_n hx hb d_JS_indexOf0_23 rfl (lv_at hl 0 rfl) ?_
    refine vk_getf hx hb (E.str hk1).2.2.1 hS hown (hts _ wd_1025) (fun _ h9 => h9) d_JS_indexOf0_24 ?_
    refine lv_iload_n hx hb d_JS_indexOf0_27 rfl (lv_at hl 1 rfl) ?_
    refine lv_iload_n hx hb d_JS_indexOf0_28 rfl (lv_at hl 2 rfl) ?_
    refine lv_aload_n hx hb d_JS_indexOf0_29 rfl (lv_at hl 0 rfl) ?_
    obtain ⟨q5, e4, h⟩ := xb h
    refine xc_i (va_runV (As := []) (rest := [.int a2, .int a1, .ref (adV a0)]) ⟨hx, hb, hml, hown, hts⟩ (c_JS_length l D lay cA adK adV s0 S a0 q5 e4) (cwV 0 hts (xT_V wd_306 wd_307 wd_308 wd_9 wd_309) rfl rfl rfl (by decide +kernel) ⟨Nat.le_of_ble_eq_true rfl, Nat.le_of_ble_eq_true rfl⟩) (xpT E hP hS hk1 rfl) rfl rfl hl.1 rfl (lv_room (Nat.le_of_ble_eq_true rfl)) d_JS_indexOf0_30 ⟨Nat.le_of_ble_eq_true rfl, Nat.le_of_ble_eq_true rfl⟩) hS (fun H locs hP hS => ?_)
    cases h
  · have h := xif_f c_10 h
    refine lv_aload_n hx hb d_JS_indexOf0_7 rfl (lv_at hl 0 rfl) ?_
    refine vk_getf hx hb (E.str hk1).2.2.1 hS hown (hts _ wd_1025) (fun _ h9 => h9) d_JS_indexOf0_8 ?_
    refine lv_iload_n hx hb d_JS_indexOf0_11 rfl (lv_at hl 1 rfl) ?_
    refine lv_iload_n hx hb d_JS_indexOf0_12 rfl (lv_at hl 2 rfl) ?_
    refine lv_aload_n hx hb d_JS_indexOf0_13 rfl (lv_at hl 0 rfl) ?_
    obtain ⟨q7, e6, h⟩ := xb h
    refine xc_i (va_runV (As := []) (rest := [.int a2, .int a1, .ref (adV a0)]) ⟨hx, hb, hml, hown, hts⟩ (c_JS_length l D lay cA adK adV s0 S a0 q7 e6) (cwV 0 hts (xT_V wd_306 wd_307 wd_308 wd_9 wd_309) rfl rfl rfl (by decide +kernel) ⟨Nat.le_of_ble_eq_true rfl, Nat.le_of_ble_eq_true rfl⟩) (xpT E hP hS hk1 rfl) rfl rfl hl.1 rfl (lv_room (Nat.le_of_ble_eq_true rfl)) d_JS_indexOf0_14 ⟨Nat.le_of_ble_eq_true rfl, Nat.le_of_ble_eq_true rfl⟩) hS (fun H locs hP hS => ?_)
    obtain ⟨q9, e8, h⟩ := xb h
    refine xc_i (va_runS (As := [.ref (adV a0), .int a1, .int a2, .int q7]) (rest := []) ⟨hx, hb, hml, hown, hts⟩ (c_JL_indexOf l D lay cA adK adV s0 S a0 a1 a2 q7 q9 e8) ⟨callB_of 4 hts (xT_I wd_316) rfl rfl rfl (hts _ wd_10) (hts _ wd_314) (by decide +kernel) ⟨Nat.le_of_ble_eq_true rfl, Nat.le_of_ble_eq_true rfl⟩, hts _ wd_315⟩ (xpS E hP hS) rfl rfl hl.1 rfl (lv_room (Nat.le_of_ble_eq_true rfl)) d_JS_indexOf0_17 ⟨Nat.le_of_ble_eq_true rfl, Nat.le_of_ble_eq_true rfl⟩) hS (fun H locs hP hS => ?_)
    refine lv_goto (tgt := 36) hx hb d_JS_indexOf0_20 (by decide) ?_
    have h9 := Option.some.inj h
    subst h9
    exact W.iret (v := q9) hx hb hr (fun t ht hW => ⟨⟨q9, (), rfl, rfl, by show va_P D xcl _ t.heap; rw [ht]; exact hP⟩, hS.F ht⟩) hS.2.2 d_JS_indexOf0_36
theorem c_JS_indexOf0 (l : Launch) (D : va_G) (lay : Nat → Nat) (cA : Nat → ClassId) (adK adV : Nat → Nat) (s0 : State) (S : XS) (a0 : Nat) (a1 : Int32) (a2 : Int32) (r : Int32) (h : f_JS_indexOf0 S a0 a1 a2 = some r) : Met l y_JS_indexOf0 (.code y_JS_indexOf0 b_JS_indexOf0 3 ((Option.some Jvm.ClassFile.FieldType.int)) :: xT) rm_JS_indexOf0 (xPc D lay cA adK adV s0 S [.ref (adK a0), .int a1, .int a2]) (xqi D lay cA r S) 0 0 (xI lay) := by
  refine Met.ofW (cc := b_JS_indexOf0) (maxL := 3) (ret := (Option.some Jvm.ClassFile.FieldType.int)) (by decide +kernel) rfl ?_
  intro p e s m args below meth c s₁ B hml hv
  obtain ⟨rfl, hP, E⟩ := hv
  have C := xB_of B hml
  have hl := lv_entry ([.ref (adK a0), .int a1, .int a2]) (n := 3) (Nat.le_of_ble_eq_true rfl)
  rw [lg_entry_eq]
  generalize (lg_sl ([.ref (adK a0), .int a1, .int a2]) ++ List.replicate (3 - (lg_sl ([.ref (adK a0), .int a1, .int a2])).length) Slot.unset).toArray = ls at hl ⊢
  exact k_JS_indexOf0 l C E S a0 a1 a2 r h s.heap [] ls hP va_S.rf hl
/-! java/lang/String.indexOf(I)I -/
def rm_JS_indexOf1 : Room := { frames := 3, cells := 0, slots := 0, locals := 70 }
theorem d_JS_indexOf1_0 : decode b_JS_indexOf1 0 = .ok (.aload_n 0, 1) := by decide +kernel
theorem d_JS_indexOf1_1 : decode b_JS_indexOf1 1 = .ok (.iload_n 1, 1) := by decide +kernel
theorem d_JS_indexOf1_2 : decode b_JS_indexOf1 2 = .ok (.iconst 0, 1) := by decide +kernel
theorem d_JS_indexOf1_3 : decode b_JS_indexOf1 3 = .ok (.invokevirtual 633, 3) := by decide +kernel
theorem d_JS_indexOf1_6 : decode b_JS_indexOf1 6 = .ok (.ireturn, 1) := by decide +kernel
def f_JS_indexOf1 (S : XS) (a0 : Nat) (a1 : Int32) : Option (Int32) :=
  if a0 < xnl then ((f_JS_indexOf0 S a0 a1 (0 : Int32)).bind fun q3 => some q3) else none
set_option maxHeartbeats 4000000 in
set_option maxRecDepth 100000 in
theorem k_JS_indexOf1 (l : Launch) {p : Program} {e : Env} {s : State} {m : MethodId} {args : Array Value} {below : List Frame} {meth : Method} {c : Code} {D : va_G} {lay : Nat → Nat} {cA : Nat → ClassId} {adK adV : Nat → Nat} {s0 : State} (C : xB p s m args meth c R_JS b_JS_indexOf1 ((Option.some Jvm.ClassFile.FieldType.int)) 2) (E : xE D lay cA adK adV s0 s s.heap) : ∀ (S : XS) (a0 : Nat) (a1 : Int32) (r : Int32) (_ : f_JS_indexOf1 S a0 a1 = some r) (H : Heap) (locs : List Loc) (ls : Array Slot), va_P D xcl (xw lay cA S) H → va_S (xI lay) s.heap H locs → lv_has ls 2 [(0, .ref (adK a0)), (1, .int a1)] → W p l e rm_JS_indexOf1 s m args below meth c H locs 0 0 (MQ below (xqi D lay cA r S) args s 0 0 (xI lay)) (F0 m 0 ls []) := by
  obtain ⟨hx, hb, hr, hml, hown, hts, hlk, hnh⟩ := id C
  have hK := E.K
  intro S a0 a1 r h H locs ls hP hS hl
  unfold f_JS_indexOf1 at h
  refine lv_aload_n hx hb d_JS_indexOf1_0 rfl (lv_at hl 0 rfl) ?_
  refine lv_iload_n hx hb d_JS_indexOf1_1 rfl (lv_at hl 1 rfl) ?_
  refine lv_iconst (v := (0 : Int32)) hx hb d_JS_indexOf1_2 (by decide) ?_
  obtain ⟨hk1, h⟩ := xg h
  obtain ⟨q3, e2, h⟩ := xb h
  refine xc_i (va_runV (As := [.int a1, .int (0 : Int32)]) (rest := []) ⟨hx, hb, hml, hown, hts⟩ (c_JS_indexOf0 l D lay cA adK adV s0 S a0 a1 (0 : Int32) q3 e2) (cwV 2 hts (xT_V wd_296 wd_297 wd_298 wd_9 wd_299) rfl rfl rfl (by decide +kernel) ⟨Nat.le_of_ble_eq_true rfl, Nat.le_of_ble_eq_true rfl⟩) (xpT E hP hS hk1 rfl) rfl rfl hl.1 rfl (lv_room (Nat.le_of_ble_eq_true rfl)) d_JS_indexOf1_3 ⟨Nat.le_of_ble_eq_true rfl, Nat.le_of_ble_eq_true rfl⟩) hS (fun H locs hP hS => ?_)
  have h9 := Option.some.inj h
  subst h9
  exact W.iret (v := q3) hx hb hr (fun t ht hW => ⟨⟨q3, (), rfl, rfl, by show va_P D xcl _ t.heap; rw [ht]; exact hP⟩, hS.F ht⟩) hS.2.2 d_JS_indexOf1_6
theorem c_JS_indexOf1 (l : Launch) (D : va_G) (lay : Nat → Nat) (cA : Nat → ClassId) (adK adV : Nat → Nat) (s0 : State) (S : XS) (a0 : Nat) (a1 : Int32) (r : Int32) (h : f_JS_indexOf1 S a0 a1 = some r) : Met l y_JS_indexOf1 (.code y_JS_indexOf1 b_JS_indexOf1 2 ((Option.some Jvm.ClassFile.FieldType.int)) :: xT) rm_JS_indexOf1 (xPc D lay cA adK adV s0 S [.ref (adK a0), .int a1]) (xqi D lay cA r S) 0 0 (xI lay) := by
  refine Met.ofW (cc := b_JS_indexOf1) (maxL := 2) (ret := (Option.some Jvm.ClassFile.FieldType.int)) (by decide +kernel) rfl ?_
  intro p e s m args below meth c s₁ B hml hv
  obtain ⟨rfl, hP, E⟩ := hv
  have C := xB_of B hml
  have hl := lv_entry ([.ref (adK a0), .int a1]) (n := 2) (Nat.le_of_ble_eq_true rfl)
  rw [lg_entry_eq]
  generalize (lg_sl ([.ref (adK a0), .int a1]) ++ List.replicate (2 - (lg_sl ([.ref (adK a0), .int a1])).length) Slot.unset).toArray = ls at hl ⊢
  exact k_JS_indexOf1 l C E S a0 a1 r h s.heap [] ls hP va_S.rf hl
end
