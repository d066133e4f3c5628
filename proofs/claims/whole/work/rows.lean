section
-- ===== PART A: goes FIRST, ahead of the names: the tables' words, and 'selects' of the private methods out of them =====
/-- a private method of a class that the tables say can be made, by its rows of tables_1 -/
def lw_okq (q : MethodName × Nat) : Prop := (q.1.cls ≠ "java/lang/invoke/MethodHandle" ∧ q.1.cls ≠ "java/lang/invoke/VarHandle") ∧ Cond.instantiable q.1.cls q.2 ∈ tables_1 ∧ Cond.privateMethod q.1 ∈ tables_1 ∧ Cond.instanceMethod q.1 ∈ tables_1
theorem lw_p0 : lw_okq (⟨"TrueArms", "isPosture", "(I)Z"⟩, 9) := ⟨⟨by decide +kernel, by decide +kernel⟩, List.mem_of_getElem? (i := 15) (by decide +kernel), List.mem_of_getElem? (i := 219) (by decide +kernel), List.mem_of_getElem? (i := 220) (by decide +kernel)⟩
theorem lw_p1 : lw_okq (⟨"TrueArms", "sumUsed", "()V"⟩, 9) := ⟨⟨by decide +kernel, by decide +kernel⟩, List.mem_of_getElem? (i := 15) (by decide +kernel), List.mem_of_getElem? (i := 233) (by decide +kernel), List.mem_of_getElem? (i := 234) (by decide +kernel)⟩
theorem lw_p2 : lw_okq (⟨"TrueArms", "listUsed", "()I"⟩, 9) := ⟨⟨by decide +kernel, by decide +kernel⟩, List.mem_of_getElem? (i := 15) (by decide +kernel), List.mem_of_getElem? (i := 237) (by decide +kernel), List.mem_of_getElem? (i := 238) (by decide +kernel)⟩
theorem lw_p3 : lw_okq (⟨"TrueArms", "isMeasured", "(I)Z"⟩, 9) := ⟨⟨by decide +kernel, by decide +kernel⟩, List.mem_of_getElem? (i := 15) (by decide +kernel), List.mem_of_getElem? (i := 241) (by decide +kernel), List.mem_of_getElem? (i := 242) (by decide +kernel)⟩
theorem lw_p4 : lw_okq (⟨"TrueArms", "measured", "(II)I"⟩, 9) := ⟨⟨by decide +kernel, by decide +kernel⟩, List.mem_of_getElem? (i := 15) (by decide +kernel), List.mem_of_getElem? (i := 264) (by decide +kernel), List.mem_of_getElem? (i := 265) (by decide +kernel)⟩
theorem lw_p5 : lw_okq (⟨"TrueArms$Sums", "rankWithout", "(I)I"⟩, 3) := ⟨⟨by decide +kernel, by decide +kernel⟩, List.mem_of_getElem? (i := 47) (by decide +kernel), List.mem_of_getElem? (i := 285) (by decide +kernel), List.mem_of_getElem? (i := 286) (by decide +kernel)⟩
theorem lw_p6 : lw_okq (⟨"TrueArms$Sums", "determinantWithRight", "(I)J"⟩, 3) := ⟨⟨by decide +kernel, by decide +kernel⟩, List.mem_of_getElem? (i := 47) (by decide +kernel), List.mem_of_getElem? (i := 296) (by decide +kernel), List.mem_of_getElem? (i := 297) (by decide +kernel)⟩
theorem lw_p7 : lw_okq (⟨"TrueArms", "missOf", "(I)I"⟩, 9) := ⟨⟨by decide +kernel, by decide +kernel⟩, List.mem_of_getElem? (i := 15) (by decide +kernel), List.mem_of_getElem? (i := 353) (by decide +kernel), List.mem_of_getElem? (i := 354) (by decide +kernel)⟩
theorem lw_p8 : lw_okq (⟨"TrueArms", "choosableSets", "()I"⟩, 9) := ⟨⟨by decide +kernel, by decide +kernel⟩, List.mem_of_getElem? (i := 15) (by decide +kernel), List.mem_of_getElem? (i := 369) (by decide +kernel), List.mem_of_getElem? (i := 370) (by decide +kernel)⟩
theorem lw_p9 : lw_okq (⟨"TrueArms", "weightOf", "(I)J"⟩, 9) := ⟨⟨by decide +kernel, by decide +kernel⟩, List.mem_of_getElem? (i := 15) (by decide +kernel), List.mem_of_getElem? (i := 382) (by decide +kernel), List.mem_of_getElem? (i := 383) (by decide +kernel)⟩
theorem lw_p10 : lw_okq (⟨"TrueArms$Camera", "isAnswer", "(I)Z"⟩, 5) := ⟨⟨by decide +kernel, by decide +kernel⟩, List.mem_of_getElem? (i := 66) (by decide +kernel), List.mem_of_getElem? (i := 414) (by decide +kernel), List.mem_of_getElem? (i := 415) (by decide +kernel)⟩
theorem lw_p11 : lw_okq (⟨"TrueArms$Going", "seekSecond", "(IIII)V"⟩, 4) := ⟨⟨by decide +kernel, by decide +kernel⟩, List.mem_of_getElem? (i := 89) (by decide +kernel), List.mem_of_getElem? (i := 457) (by decide +kernel), List.mem_of_getElem? (i := 458) (by decide +kernel)⟩
theorem lw_p12 : lw_okq (⟨"TrueArms$Going", "atLeastLeft", "(II)J"⟩, 4) := ⟨⟨by decide +kernel, by decide +kernel⟩, List.mem_of_getElem? (i := 89) (by decide +kernel), List.mem_of_getElem? (i := 461) (by decide +kernel), List.mem_of_getElem? (i := 462) (by decide +kernel)⟩
theorem lw_p13 : lw_okq (⟨"TrueArms$Going", "seekThird", "(IIII)V"⟩, 4) := ⟨⟨by decide +kernel, by decide +kernel⟩, List.mem_of_getElem? (i := 89) (by decide +kernel), List.mem_of_getElem? (i := 470) (by decide +kernel), List.mem_of_getElem? (i := 471) (by decide +kernel)⟩
theorem lw_p14 : lw_okq (⟨"TrueArms", "finding", "(I)I"⟩, 9) := ⟨⟨by decide +kernel, by decide +kernel⟩, List.mem_of_getElem? (i := 15) (by decide +kernel), List.mem_of_getElem? (i := 489) (by decide +kernel), List.mem_of_getElem? (i := 490) (by decide +kernel)⟩
theorem lw_p15 : lw_okq (⟨"TrueArms$Signs", "rowsUpTo", "(I)J"⟩, 2) := ⟨⟨by decide +kernel, by decide +kernel⟩, List.mem_of_getElem? (i := 110) (by decide +kernel), List.mem_of_getElem? (i := 504) (by decide +kernel), List.mem_of_getElem? (i := 505) (by decide +kernel)⟩
def lw_privs_1 : List (MethodName × Nat) := [(⟨"TrueArms", "isPosture", "(I)Z"⟩, 9), (⟨"TrueArms", "sumUsed", "()V"⟩, 9), (⟨"TrueArms", "listUsed", "()I"⟩, 9), (⟨"TrueArms", "isMeasured", "(I)Z"⟩, 9), (⟨"TrueArms", "measured", "(II)I"⟩, 9), (⟨"TrueArms$Sums", "rankWithout", "(I)I"⟩, 3), (⟨"TrueArms$Sums", "determinantWithRight", "(I)J"⟩, 3), (⟨"TrueArms", "missOf", "(I)I"⟩, 9), (⟨"TrueArms", "choosableSets", "()I"⟩, 9), (⟨"TrueArms", "weightOf", "(I)J"⟩, 9), (⟨"TrueArms$Camera", "isAnswer", "(I)Z"⟩, 5), (⟨"TrueArms$Going", "seekSecond", "(IIII)V"⟩, 4), (⟨"TrueArms$Going", "atLeastLeft", "(II)J"⟩, 4), (⟨"TrueArms$Going", "seekThird", "(IIII)V"⟩, 4), (⟨"TrueArms", "finding", "(I)I"⟩, 9), (⟨"TrueArms$Signs", "rowsUpTo", "(I)J"⟩, 2)]
theorem lw_r1 : ∀ q ∈ lw_privs_1, lw_okq q := List.forall_mem_cons.mpr ⟨lw_p0, List.forall_mem_cons.mpr ⟨lw_p1, List.forall_mem_cons.mpr ⟨lw_p2, List.forall_mem_cons.mpr ⟨lw_p3, List.forall_mem_cons.mpr ⟨lw_p4, List.forall_mem_cons.mpr ⟨lw_p5, List.forall_mem_cons.mpr ⟨lw_p6, List.forall_mem_cons.mpr ⟨lw_p7, List.forall_mem_cons.mpr ⟨lw_p8, List.forall_mem_cons.mpr ⟨lw_p9, List.forall_mem_cons.mpr ⟨lw_p10, List.forall_mem_cons.mpr ⟨lw_p11, List.forall_mem_cons.mpr ⟨lw_p12, List.forall_mem_cons.mpr ⟨lw_p13, List.forall_mem_cons.mpr ⟨lw_p14, List.forall_mem_cons.mpr ⟨lw_p15, fun _ h => absurd h List.not_mem_nil⟩⟩⟩⟩⟩⟩⟩⟩⟩⟩⟩⟩⟩⟩⟩⟩
theorem lw_p16 : lw_okq (⟨"TrueArms", "countLeftOut", "()I"⟩, 9) := ⟨⟨by decide +kernel, by decide +kernel⟩, List.mem_of_getElem? (i := 15) (by decide +kernel), List.mem_of_getElem? (i := 564) (by decide +kernel), List.mem_of_getElem? (i := 565) (by decide +kernel)⟩
theorem lw_p17 : lw_okq (⟨"TrueArms", "countLost", "()I"⟩, 9) := ⟨⟨by decide +kernel, by decide +kernel⟩, List.mem_of_getElem? (i := 15) (by decide +kernel), List.mem_of_getElem? (i := 568) (by decide +kernel), List.mem_of_getElem? (i := 569) (by decide +kernel)⟩
theorem lw_p18 : lw_okq (⟨"TrueArmsModel", "c", "(I)I"⟩, 24) := ⟨⟨by decide +kernel, by decide +kernel⟩, List.mem_of_getElem? (i := 579) (by decide +kernel), List.mem_of_getElem? (i := 666) (by decide +kernel), List.mem_of_getElem? (i := 667) (by decide +kernel)⟩
theorem lw_p19 : lw_okq (⟨"TrueArmsModel", "s", "(I)I"⟩, 24) := ⟨⟨by decide +kernel, by decide +kernel⟩, List.mem_of_getElem? (i := 579) (by decide +kernel), List.mem_of_getElem? (i := 670) (by decide +kernel), List.mem_of_getElem? (i := 671) (by decide +kernel)⟩
theorem lw_p20 : lw_okq (⟨"TrueArmsModel", "isPosture", "(I)Z"⟩, 24) := ⟨⟨by decide +kernel, by decide +kernel⟩, List.mem_of_getElem? (i := 579) (by decide +kernel), List.mem_of_getElem? (i := 692) (by decide +kernel), List.mem_of_getElem? (i := 693) (by decide +kernel)⟩
theorem lw_p21 : lw_okq (⟨"TrueArmsModel", "handOf", "(II)I"⟩, 24) := ⟨⟨by decide +kernel, by decide +kernel⟩, List.mem_of_getElem? (i := 579) (by decide +kernel), List.mem_of_getElem? (i := 696) (by decide +kernel), List.mem_of_getElem? (i := 697) (by decide +kernel)⟩
theorem lw_p22 : lw_okq (⟨"TrueArmsModel", "part", "(III)I"⟩, 24) := ⟨⟨by decide +kernel, by decide +kernel⟩, List.mem_of_getElem? (i := 579) (by decide +kernel), List.mem_of_getElem? (i := 700) (by decide +kernel), List.mem_of_getElem? (i := 701) (by decide +kernel)⟩
theorem lw_p23 : lw_okq (⟨"TrueArmsModel", "hasMeasure", "(I)Z"⟩, 24) := ⟨⟨by decide +kernel, by decide +kernel⟩, List.mem_of_getElem? (i := 579) (by decide +kernel), List.mem_of_getElem? (i := 709) (by decide +kernel), List.mem_of_getElem? (i := 710) (by decide +kernel)⟩
theorem lw_p24 : lw_okq (⟨"TrueArmsModel", "item", "(I)I"⟩, 24) := ⟨⟨by decide +kernel, by decide +kernel⟩, List.mem_of_getElem? (i := 579) (by decide +kernel), List.mem_of_getElem? (i := 713) (by decide +kernel), List.mem_of_getElem? (i := 714) (by decide +kernel)⟩
theorem lw_p25 : lw_okq (⟨"TrueArmsModel", "findUsed", "()V"⟩, 24) := ⟨⟨by decide +kernel, by decide +kernel⟩, List.mem_of_getElem? (i := 579) (by decide +kernel), List.mem_of_getElem? (i := 727) (by decide +kernel), List.mem_of_getElem? (i := 728) (by decide +kernel)⟩
theorem lw_p26 : lw_okq (⟨"TrueArmsModel", "findTable", "()V"⟩, 24) := ⟨⟨by decide +kernel, by decide +kernel⟩, List.mem_of_getElem? (i := 579) (by decide +kernel), List.mem_of_getElem? (i := 739) (by decide +kernel), List.mem_of_getElem? (i := 740) (by decide +kernel)⟩
theorem lw_p27 : lw_okq (⟨"TrueArmsModel", "nothing", "()V"⟩, 24) := ⟨⟨by decide +kernel, by decide +kernel⟩, List.mem_of_getElem? (i := 579) (by decide +kernel), List.mem_of_getElem? (i := 743) (by decide +kernel), List.mem_of_getElem? (i := 744) (by decide +kernel)⟩
theorem lw_p28 : lw_okq (⟨"TrueArmsModel", "adds", "(I)V"⟩, 24) := ⟨⟨by decide +kernel, by decide +kernel⟩, List.mem_of_getElem? (i := 579) (by decide +kernel), List.mem_of_getElem? (i := 747) (by decide +kernel), List.mem_of_getElem? (i := 748) (by decide +kernel)⟩
theorem lw_p29 : lw_okq (⟨"TrueArmsModel", "rankNow", "()I"⟩, 24) := ⟨⟨by decide +kernel, by decide +kernel⟩, List.mem_of_getElem? (i := 579) (by decide +kernel), List.mem_of_getElem? (i := 755) (by decide +kernel), List.mem_of_getElem? (i := 756) (by decide +kernel)⟩
theorem lw_p30 : lw_okq (⟨"TrueArmsModel", "weightNow", "()J"⟩, 24) := ⟨⟨by decide +kernel, by decide +kernel⟩, List.mem_of_getElem? (i := 579) (by decide +kernel), List.mem_of_getElem? (i := 759) (by decide +kernel), List.mem_of_getElem? (i := 760) (by decide +kernel)⟩
theorem lw_p31 : lw_okq (⟨"TrueArmsModel", "stands", "(II)Z"⟩, 24) := ⟨⟨by decide +kernel, by decide +kernel⟩, List.mem_of_getElem? (i := 579) (by decide +kernel), List.mem_of_getElem? (i := 766) (by decide +kernel), List.mem_of_getElem? (i := 767) (by decide +kernel)⟩
def lw_privs_2 : List (MethodName × Nat) := [(⟨"TrueArms", "countLeftOut", "()I"⟩, 9), (⟨"TrueArms", "countLost", "()I"⟩, 9), (⟨"TrueArmsModel", "c", "(I)I"⟩, 24), (⟨"TrueArmsModel", "s", "(I)I"⟩, 24), (⟨"TrueArmsModel", "isPosture", "(I)Z"⟩, 24), (⟨"TrueArmsModel", "handOf", "(II)I"⟩, 24), (⟨"TrueArmsModel", "part", "(III)I"⟩, 24), (⟨"TrueArmsModel", "hasMeasure", "(I)Z"⟩, 24), (⟨"TrueArmsModel", "item", "(I)I"⟩, 24), (⟨"TrueArmsModel", "findUsed", "()V"⟩, 24), (⟨"TrueArmsModel", "findTable", "()V"⟩, 24), (⟨"TrueArmsModel", "nothing", "()V"⟩, 24), (⟨"TrueArmsModel", "adds", "(I)V"⟩, 24), (⟨"TrueArmsModel", "rankNow", "()I"⟩, 24), (⟨"TrueArmsModel", "weightNow", "()J"⟩, 24), (⟨"TrueArmsModel", "stands", "(II)Z"⟩, 24)]
theorem lw_r2 : ∀ q ∈ lw_privs_2, lw_okq q := List.forall_mem_cons.mpr ⟨lw_p16, List.forall_mem_cons.mpr ⟨lw_p17, List.forall_mem_cons.mpr ⟨lw_p18, List.forall_mem_cons.mpr ⟨lw_p19, List.forall_mem_cons.mpr ⟨lw_p20, List.forall_mem_cons.mpr ⟨lw_p21, List.forall_mem_cons.mpr ⟨lw_p22, List.forall_mem_cons.mpr ⟨lw_p23, List.forall_mem_cons.mpr ⟨lw_p24, List.forall_mem_cons.mpr ⟨lw_p25, List.forall_mem_cons.mpr ⟨lw_p26, List.forall_mem_cons.mpr ⟨lw_p27, List.forall_mem_cons.mpr ⟨lw_p28, List.forall_mem_cons.mpr ⟨lw_p29, List.forall_mem_cons.mpr ⟨lw_p30, List.forall_mem_cons.mpr ⟨lw_p31, fun _ h => absurd h List.not_mem_nil⟩⟩⟩⟩⟩⟩⟩⟩⟩⟩⟩⟩⟩⟩⟩⟩
theorem lw_p32 : lw_okq (⟨"TrueArmsModel", "fitOf", "(I)J"⟩, 24) := ⟨⟨by decide +kernel, by decide +kernel⟩, List.mem_of_getElem? (i := 579) (by decide +kernel), List.mem_of_getElem? (i := 778) (by decide +kernel), List.mem_of_getElem? (i := 779) (by decide +kernel)⟩
theorem lw_p33 : lw_okq (⟨"TrueArmsModel", "missOf", "(I)I"⟩, 24) := ⟨⟨by decide +kernel, by decide +kernel⟩, List.mem_of_getElem? (i := 579) (by decide +kernel), List.mem_of_getElem? (i := 795) (by decide +kernel), List.mem_of_getElem? (i := 796) (by decide +kernel)⟩
theorem lw_p34 : lw_okq (⟨"TrueArmsModel", "first10", "()I"⟩, 24) := ⟨⟨by decide +kernel, by decide +kernel⟩, List.mem_of_getElem? (i := 579) (by decide +kernel), List.mem_of_getElem? (i := 807) (by decide +kernel), List.mem_of_getElem? (i := 808) (by decide +kernel)⟩
theorem lw_p35 : lw_okq (⟨"TrueArmsModel", "weightOf", "(I)J"⟩, 24) := ⟨⟨by decide +kernel, by decide +kernel⟩, List.mem_of_getElem? (i := 579) (by decide +kernel), List.mem_of_getElem? (i := 811) (by decide +kernel), List.mem_of_getElem? (i := 812) (by decide +kernel)⟩
theorem lw_p36 : lw_okq (⟨"TrueArmsModel", "isAnswer", "(I)Z"⟩, 24) := ⟨⟨by decide +kernel, by decide +kernel⟩, List.mem_of_getElem? (i := 579) (by decide +kernel), List.mem_of_getElem? (i := 837) (by decide +kernel), List.mem_of_getElem? (i := 838) (by decide +kernel)⟩
theorem lw_p37 : lw_okq (⟨"TrueArmsModel", "shift", "(III)I"⟩, 24) := ⟨⟨by decide +kernel, by decide +kernel⟩, List.mem_of_getElem? (i := 579) (by decide +kernel), List.mem_of_getElem? (i := 841) (by decide +kernel), List.mem_of_getElem? (i := 842) (by decide +kernel)⟩
theorem lw_p38 : lw_okq (⟨"TrueArmsModel", "findNearest", "(II)V"⟩, 24) := ⟨⟨by decide +kernel, by decide +kernel⟩, List.mem_of_getElem? (i := 579) (by decide +kernel), List.mem_of_getElem? (i := 864) (by decide +kernel), List.mem_of_getElem? (i := 865) (by decide +kernel)⟩
theorem lw_p39 : lw_okq (⟨"TrueArmsModel", "may", "(II)Z"⟩, 24) := ⟨⟨by decide +kernel, by decide +kernel⟩, List.mem_of_getElem? (i := 579) (by decide +kernel), List.mem_of_getElem? (i := 869) (by decide +kernel), List.mem_of_getElem? (i := 870) (by decide +kernel)⟩
theorem lw_p40 : lw_okq (⟨"TrueArmsModel", "met", "(I)I"⟩, 24) := ⟨⟨by decide +kernel, by decide +kernel⟩, List.mem_of_getElem? (i := 579) (by decide +kernel), List.mem_of_getElem? (i := 885) (by decide +kernel), List.mem_of_getElem? (i := 886) (by decide +kernel)⟩
theorem lw_p41 : lw_okq (⟨"TrueArmsModel", "lacks", "(III)I"⟩, 24) := ⟨⟨by decide +kernel, by decide +kernel⟩, List.mem_of_getElem? (i := 579) (by decide +kernel), List.mem_of_getElem? (i := 905) (by decide +kernel), List.mem_of_getElem? (i := 906) (by decide +kernel)⟩
def lw_privs_3 : List (MethodName × Nat) := [(⟨"TrueArmsModel", "fitOf", "(I)J"⟩, 24), (⟨"TrueArmsModel", "missOf", "(I)I"⟩, 24), (⟨"TrueArmsModel", "first10", "()I"⟩, 24), (⟨"TrueArmsModel", "weightOf", "(I)J"⟩, 24), (⟨"TrueArmsModel", "isAnswer", "(I)Z"⟩, 24), (⟨"TrueArmsModel", "shift", "(III)I"⟩, 24), (⟨"TrueArmsModel", "findNearest", "(II)V"⟩, 24), (⟨"TrueArmsModel", "may", "(II)Z"⟩, 24), (⟨"TrueArmsModel", "met", "(I)I"⟩, 24), (⟨"TrueArmsModel", "lacks", "(III)I"⟩, 24)]
theorem lw_r3 : ∀ q ∈ lw_privs_3, lw_okq q := List.forall_mem_cons.mpr ⟨lw_p32, List.forall_mem_cons.mpr ⟨lw_p33, List.forall_mem_cons.mpr ⟨lw_p34, List.forall_mem_cons.mpr ⟨lw_p35, List.forall_mem_cons.mpr ⟨lw_p36, List.forall_mem_cons.mpr ⟨lw_p37, List.forall_mem_cons.mpr ⟨lw_p38, List.forall_mem_cons.mpr ⟨lw_p39, List.forall_mem_cons.mpr ⟨lw_p40, List.forall_mem_cons.mpr ⟨lw_p41, fun _ h => absurd h List.not_mem_nil⟩⟩⟩⟩⟩⟩⟩⟩⟩⟩
def lw_privs : List (MethodName × Nat) := lw_privs_1 ++ (lw_privs_2 ++ (lw_privs_3))
def lw_tbl : List Cond := k2_sels lw_privs ++ tables_1
theorem lw_privs_ok : ∀ q ∈ lw_privs, lw_okq q := by
  show ∀ q ∈ lw_privs_1 ++ (lw_privs_2 ++ (lw_privs_3)), lw_okq q
  exact List.forall_mem_append.mpr ⟨lw_r1, List.forall_mem_append.mpr ⟨lw_r2, lw_r3⟩⟩
end
section
def RX0 : String := "TrueArms$Arm"
def TX0 : u_T := fun k => match k with
  | 0 => ("TrueArms$Arm", "lengths", "[I", true)
  | 1 => ("TrueArms$Arm", "headings", "[I", true)
  | 2 => ("TrueArms$Arm", "products", "[I", true)
  | _ => ("TrueArms$Arm", "postures", "I", false)
def tyX0 : Nat → FieldType := fun k => match k with
  | 0 => .array .int
  | 1 => .array .int
  | 2 => .array .int
  | _ => .int
abbrev wsX00 : List Cond := u_ws RX0 TX0 4
theorem nmX0 : ∀ a, a < 4 → ∀ b, b < 4 → a ≠ b → (TX0 a).2.1 ≠ (TX0 b).2.1 := by decide +kernel
theorem tyX0_ok : ∀ k, k < 4 → parseFieldDescriptor (TX0 k).2.2.1 = some (tyX0 k) := by decide +kernel
abbrev cX0_init : ByteArray := prog_2_method_1_code
def yX0_init : MethodName := ⟨RX0, "<init>", "()V"⟩
abbrev cX0_stand : ByteArray := prog_2_method_2_code
def yX0_stand : MethodName := ⟨RX0, "stand", "(III)I"⟩
abbrev cX0_productOf : ByteArray := prog_2_method_3_code
def yX0_productOf : MethodName := ⟨RX0, "productOf", "(II)I"⟩
abbrev cX0_reached : ByteArray := prog_2_method_4_code
def yX0_reached : MethodName := ⟨RX0, "reached", "(II)I"⟩
def RX1 : String := "TrueArms$Camera"
def TX1 : u_T := fun k => match k with
  | 0 => ("TrueArms$Camera", "ownP", "[I", true)
  | 1 => ("TrueArms$Camera", "ownQ", "[I", true)
  | 2 => ("TrueArms$Camera", "armX", "[I", true)
  | 3 => ("TrueArms$Camera", "armY", "[I", true)
  | _ => ("TrueArms$Camera", "pairs", "I", false)
def tyX1 : Nat → FieldType := fun k => match k with
  | 0 => .array .int
  | 1 => .array .int
  | 2 => .array .int
  | 3 => .array .int
  | _ => .int
abbrev wsX10 : List Cond := u_ws RX1 TX1 5
theorem nmX1 : ∀ a, a < 5 → ∀ b, b < 5 → a ≠ b → (TX1 a).2.1 ≠ (TX1 b).2.1 := by decide +kernel
theorem tyX1_ok : ∀ k, k < 5 → parseFieldDescriptor (TX1 k).2.2.1 = some (tyX1 k) := by decide +kernel
abbrev cX1_init : ByteArray := prog_3_method_1_code
def yX1_init : MethodName := ⟨RX1, "<init>", "()V"⟩
abbrev cX1_mayBe : ByteArray := prog_3_method_2_code
def yX1_mayBe : MethodName := ⟨RX1, "mayBe", "(I)Z"⟩
abbrev cX1_see : ByteArray := prog_3_method_3_code
def yX1_see : MethodName := ⟨RX1, "see", "(IIII)I"⟩
abbrev cX1_shift : ByteArray := prog_3_method_4_code
def yX1_shift : MethodName := ⟨RX1, "shift", "(III)I"⟩
abbrev cX1_isAnswer : ByteArray := prog_3_method_5_code
def yX1_isAnswer : MethodName := ⟨RX1, "isAnswer", "(I)Z"⟩
abbrev cX1_headingsThatAnswer : ByteArray := prog_3_method_6_code
def yX1_headingsThatAnswer : MethodName := ⟨RX1, "headingsThatAnswer", "()I"⟩
abbrev cX1_headingOfAnswer : ByteArray := prog_3_method_7_code
def yX1_headingOfAnswer : MethodName := ⟨RX1, "headingOfAnswer", "(I)I"⟩
def RX2 : String := "TrueArms$Going"
def TX2 : u_T := fun k => match k with
  | 0 => ("TrueArms$Going", "may", "[Z", true)
  | 1 => ("TrueArms$Going", "lastLength", "I", false)
  | 2 => ("TrueArms$Going", "foundTurns", "I", false)
  | _ => ("TrueArms$Going", "least", "J", false)
def tyX2 : Nat → FieldType := fun k => match k with
  | 0 => .array .boolean
  | 1 => .int
  | 2 => .int
  | _ => .long
abbrev wsX20 : List Cond := u_ws RX2 TX2 4
theorem nmX2 : ∀ a, a < 4 → ∀ b, b < 4 → a ≠ b → (TX2 a).2.1 ≠ (TX2 b).2.1 := by decide +kernel
theorem tyX2_ok : ∀ k, k < 4 → parseFieldDescriptor (TX2 k).2.2.1 = some (tyX2 k) := by decide +kernel
abbrev cX2_init : ByteArray := prog_4_method_1_code
def yX2_init : MethodName := ⟨RX2, "<init>", "()V"⟩
abbrev cX2_isPlace : ByteArray := prog_4_method_2_code
def yX2_isPlace : MethodName := ⟨RX2, "isPlace", "(II)Z"⟩
abbrev cX2_keepWithin : ByteArray := prog_4_method_3_code
def yX2_keepWithin : MethodName := ⟨RX2, "keepWithin", "(III)V"⟩
abbrev cX2_seek : ByteArray := prog_4_method_4_code
def yX2_seek : MethodName := ⟨RX2, "seek", "([III)V"⟩
abbrev cX2_seekSecond : ByteArray := prog_4_method_5_code
def yX2_seekSecond : MethodName := ⟨RX2, "seekSecond", "(IIII)V"⟩
abbrev cX2_seekThird : ByteArray := prog_4_method_6_code
def yX2_seekThird : MethodName := ⟨RX2, "seekThird", "(IIII)V"⟩
abbrev cX2_atLeastLeft : ByteArray := prog_4_method_7_code
def yX2_atLeastLeft : MethodName := ⟨RX2, "atLeastLeft", "(II)J"⟩
def RX3 : String := "TrueArms$Headings"
def TX3 : u_T := fun k => match k with
  | _ => ("", "", "", false)
def tyX3 : Nat → FieldType := fun k => match k with
  | _ => .int
abbrev wsX30 : List Cond := u_ws RX3 TX3 0
theorem nmX3 : ∀ a, a < 0 → ∀ b, b < 0 → a ≠ b → (TX3 a).2.1 ≠ (TX3 b).2.1 := by decide +kernel
theorem tyX3_ok : ∀ k, k < 0 → parseFieldDescriptor (TX3 k).2.2.1 = some (tyX3 k) := by decide +kernel
abbrev cX3_cOf : ByteArray := prog_5_method_2_code
def yX3_cOf : MethodName := ⟨RX3, "cOf", "(I)I"⟩
abbrev cX3_sOf : ByteArray := prog_5_method_3_code
def yX3_sOf : MethodName := ⟨RX3, "sOf", "(I)I"⟩
abbrev cX3_part : ByteArray := prog_5_method_4_code
def yX3_part : MethodName := ⟨RX3, "part", "(II)I"⟩
abbrev cX3_round : ByteArray := prog_5_method_5_code
def yX3_round : MethodName := ⟨RX3, "round", "(I)I"⟩
def RX4 : String := "TrueArms$Sheet"
def TX4 : u_T := fun k => match k with
  | 0 => ("TrueArms$Sheet", "items", "[I", true)
  | 1 => ("TrueArms$Sheet", "form", "I", false)
  | _ => ("TrueArms$Sheet", "size", "I", false)
def tyX4 : Nat → FieldType := fun k => match k with
  | 0 => .array .int
  | 1 => .int
  | _ => .int
abbrev wsX40 : List Cond := u_ws RX4 TX4 3
theorem nmX4 : ∀ a, a < 3 → ∀ b, b < 3 → a ≠ b → (TX4 a).2.1 ≠ (TX4 b).2.1 := by decide +kernel
theorem tyX4_ok : ∀ k, k < 3 → parseFieldDescriptor (TX4 k).2.2.1 = some (tyX4 k) := by decide +kernel
abbrev cX4_init : ByteArray := prog_6_method_1_code
def yX4_init : MethodName := ⟨RX4, "<init>", "()V"⟩
abbrev cX4_isForm : ByteArray := prog_6_method_2_code
def yX4_isForm : MethodName := ⟨RX4, "isForm", "(I)Z"⟩
abbrev cX4_lowestBits : ByteArray := prog_6_method_3_code
def yX4_lowestBits : MethodName := ⟨RX4, "lowestBits", "(II)I"⟩
abbrev cX4_isLost : ByteArray := prog_6_method_4_code
def yX4_isLost : MethodName := ⟨RX4, "isLost", "()Z"⟩
abbrev cX4_begin : ByteArray := prog_6_method_5_code
def yX4_begin : MethodName := ⟨RX4, "begin", "(II)V"⟩
abbrev cX4_end : ByteArray := prog_6_method_6_code
def yX4_end : MethodName := ⟨RX4, "end", "()I"⟩
abbrev cX4_has : ByteArray := prog_6_method_7_code
def yX4_has : MethodName := ⟨RX4, "has", "(I)Z"⟩
abbrev cX4_hasRun : ByteArray := prog_6_method_8_code
def yX4_hasRun : MethodName := ⟨RX4, "hasRun", "(II)Z"⟩
abbrev cX4_hasMeasureAt : ByteArray := prog_6_method_9_code
def yX4_hasMeasureAt : MethodName := ⟨RX4, "hasMeasureAt", "(I)Z"⟩
def RX5 : String := "TrueArms$Signs"
def TX5 : u_T := fun k => match k with
  | 0 => ("TrueArms$Signs", "counted", "I", false)
  | _ => ("TrueArms$Signs", "above", "I", false)
def tyX5 : Nat → FieldType := fun k => match k with
  | 0 => .int
  | _ => .int
abbrev wsX50 : List Cond := u_ws RX5 TX5 2
theorem nmX5 : ∀ a, a < 2 → ∀ b, b < 2 → a ≠ b → (TX5 a).2.1 ≠ (TX5 b).2.1 := by decide +kernel
theorem tyX5_ok : ∀ k, k < 2 → parseFieldDescriptor (TX5 k).2.2.1 = some (tyX5 k) := by decide +kernel
abbrev cX5_init : ByteArray := prog_7_method_1_code
def yX5_init : MethodName := ⟨RX5, "<init>", "()V"⟩
abbrev cX5_read : ByteArray := prog_7_method_2_code
def yX5_read : MethodName := ⟨RX5, "read", "(LTrueArms$Sheet;II)V"⟩
abbrev cX5_falseShare : ByteArray := prog_7_method_3_code
def yX5_falseShare : MethodName := ⟨RX5, "falseShare", "()I"⟩
abbrev cX5_rowsUpTo : ByteArray := prog_7_method_4_code
def yX5_rowsUpTo : MethodName := ⟨RX5, "rowsUpTo", "(I)J"⟩
abbrev cX5_millionths : ByteArray := prog_7_method_5_code
def yX5_millionths : MethodName := ⟨RX5, "millionths", "(JI)I"⟩
def RX6 : String := "TrueArms$Sums"
def TX6 : u_T := fun k => match k with
  | 0 => ("TrueArms$Sums", "cells", "[J", true)
  | 1 => ("TrueArms$Sums", "right", "[J", true)
  | _ => ("TrueArms$Sums", "changed", "[J", true)
def tyX6 : Nat → FieldType := fun k => match k with
  | 0 => .array .long
  | 1 => .array .long
  | _ => .array .long
abbrev wsX60 : List Cond := u_ws RX6 TX6 3
theorem nmX6 : ∀ a, a < 3 → ∀ b, b < 3 → a ≠ b → (TX6 a).2.1 ≠ (TX6 b).2.1 := by decide +kernel
theorem tyX6_ok : ∀ k, k < 3 → parseFieldDescriptor (TX6 k).2.2.1 = some (tyX6 k) := by decide +kernel
abbrev cX6_init : ByteArray := prog_8_method_1_code
def yX6_init : MethodName := ⟨RX6, "<init>", "()V"⟩
abbrev cX6_forget : ByteArray := prog_8_method_2_code
def yX6_forget : MethodName := ⟨RX6, "forget", "()V"⟩
abbrev cX6_addLeft : ByteArray := prog_8_method_3_code
def yX6_addLeft : MethodName := ⟨RX6, "addLeft", "(LTrueArms$Arm;I)V"⟩
abbrev cX6_addRight : ByteArray := prog_8_method_4_code
def yX6_addRight : MethodName := ⟨RX6, "addRight", "(LTrueArms$Arm;III)V"⟩
abbrev cX6_determinant : ByteArray := prog_8_method_5_code
def yX6_determinant : MethodName := ⟨RX6, "determinant", "()J"⟩
abbrev cX6_determinantOf : ByteArray := prog_8_method_6_code
def yX6_determinantOf : MethodName := ⟨RX6, "determinantOf", "([J)J"⟩
abbrev cX6_determinantWithRight : ByteArray := prog_8_method_7_code
def yX6_determinantWithRight : MethodName := ⟨RX6, "determinantWithRight", "(I)J"⟩
abbrev cX6_rankOfAll : ByteArray := prog_8_method_8_code
def yX6_rankOfAll : MethodName := ⟨RX6, "rankOfAll", "()I"⟩
abbrev cX6_rankWithout : ByteArray := prog_8_method_9_code
def yX6_rankWithout : MethodName := ⟨RX6, "rankWithout", "(I)I"⟩
abbrev cX6_tells : ByteArray := prog_8_method_10_code
def yX6_tells : MethodName := ⟨RX6, "tells", "(I)Z"⟩
abbrev cX6_fitted : ByteArray := prog_8_method_11_code
def yX6_fitted : MethodName := ⟨RX6, "fitted", "(I)J"⟩
def RX7 : String := "TrueArms"
def TX7 : u_T := fun k => match k with
  | 0 => ("TrueArms", "arm", "LTrueArms$Arm;", true)
  | 1 => ("TrueArms", "leftOut", "[Z", true)
  | 2 => ("TrueArms", "usedOnes", "[I", true)
  | 3 => ("TrueArms", "sums", "LTrueArms$Sums;", true)
  | 4 => ("TrueArms", "camera", "LTrueArms$Camera;", true)
  | 5 => ("TrueArms", "going", "LTrueArms$Going;", true)
  | 6 => ("TrueArms", "signs", "LTrueArms$Signs;", true)
  | 7 => ("TrueArms", "sheets", "[LTrueArms$Sheet;", true)
  | _ => ("TrueArms", "latestFinding", "I", false)
def tyX7 : Nat → FieldType := fun k => match k with
  | 0 => .object "TrueArms$Arm"
  | 1 => .array .boolean
  | 2 => .array .int
  | 3 => .object "TrueArms$Sums"
  | 4 => .object "TrueArms$Camera"
  | 5 => .object "TrueArms$Going"
  | 6 => .object "TrueArms$Signs"
  | 7 => .array (.object "TrueArms$Sheet")
  | _ => .int
abbrev wsX70 : List Cond := u_ws RX7 TX7 9
theorem nmX7 : ∀ a, a < 9 → ∀ b, b < 9 → a ≠ b → (TX7 a).2.1 ≠ (TX7 b).2.1 := by decide +kernel
theorem tyX7_ok : ∀ k, k < 9 → parseFieldDescriptor (TX7 k).2.2.1 = some (tyX7 k) := by decide +kernel
abbrev cX7_init : ByteArray := prog_1_method_1_code
def yX7_init : MethodName := ⟨RX7, "<init>", "()V"⟩
abbrev cX7_turn : ByteArray := prog_1_method_2_code
def yX7_turn : MethodName := ⟨RX7, "turn", "(II)I"⟩
abbrev cX7_length : ByteArray := prog_1_method_3_code
def yX7_length : MethodName := ⟨RX7, "length", "(II)I"⟩
abbrev cX7_posture : ByteArray := prog_1_method_4_code
def yX7_posture : MethodName := ⟨RX7, "posture", "(III)I"⟩
abbrev cX7_clear : ByteArray := prog_1_method_5_code
def yX7_clear : MethodName := ⟨RX7, "clear", "()I"⟩
abbrev cX7_hand : ByteArray := prog_1_method_6_code
def yX7_hand : MethodName := ⟨RX7, "hand", "(II)I"⟩
abbrev cX7_mend : ByteArray := prog_1_method_7_code
def yX7_mend : MethodName := ⟨RX7, "mend", "()I"⟩
abbrev cX7_measure : ByteArray := prog_1_method_8_code
def yX7_measure : MethodName := ⟨RX7, "measure", "(II)I"⟩
abbrev cX7_leave : ByteArray := prog_1_method_9_code
def yX7_leave : MethodName := ⟨RX7, "leave", "(IZ)I"⟩
abbrev cX7_used : ByteArray := prog_1_method_10_code
def yX7_used : MethodName := ⟨RX7, "used", "()I"⟩
abbrev cX7_table : ByteArray := prog_1_method_11_code
def yX7_table : MethodName := ⟨RX7, "table", "(II)J"⟩
abbrev cX7_rank : ByteArray := prog_1_method_12_code
def yX7_rank : MethodName := ⟨RX7, "rank", "()I"⟩
abbrev cX7_told : ByteArray := prog_1_method_13_code
def yX7_told : MethodName := ⟨RX7, "told", "(I)I"⟩
abbrev cX7_fit : ByteArray := prog_1_method_14_code
def yX7_fit : MethodName := ⟨RX7, "fit", "(I)J"⟩
abbrev cX7_miss : ByteArray := prog_1_method_15_code
def yX7_miss : MethodName := ⟨RX7, "miss", "(I)I"⟩
abbrev cX7_worst : ByteArray := prog_1_method_16_code
def yX7_worst : MethodName := ⟨RX7, "worst", "()I"⟩
abbrev cX7_best : ByteArray := prog_1_method_17_code
def yX7_best : MethodName := ⟨RX7, "best", "(I)I"⟩
abbrev cX7_weight : ByteArray := prog_1_method_18_code
def yX7_weight : MethodName := ⟨RX7, "weight", "(I)J"⟩
abbrev cX7_pair : ByteArray := prog_1_method_19_code
def yX7_pair : MethodName := ⟨RX7, "pair", "(IIII)I"⟩
abbrev cX7_shut : ByteArray := prog_1_method_20_code
def yX7_shut : MethodName := ⟨RX7, "shut", "()I"⟩
abbrev cX7_answers : ByteArray := prog_1_method_21_code
def yX7_answers : MethodName := ⟨RX7, "answers", "()I"⟩
abbrev cX7_answer : ByteArray := prog_1_method_22_code
def yX7_answer : MethodName := ⟨RX7, "answer", "(II)I"⟩
abbrev cX7_limit : ByteArray := prog_1_method_23_code
def yX7_limit : MethodName := ⟨RX7, "limit", "(III)I"⟩
abbrev cX7_nearest : ByteArray := prog_1_method_24_code
def yX7_nearest : MethodName := ⟨RX7, "nearest", "(II)I"⟩
abbrev cX7_near : ByteArray := prog_1_method_25_code
def yX7_near : MethodName := ⟨RX7, "near", "(II)J"⟩
abbrev cX7_drift : ByteArray := prog_1_method_26_code
def yX7_drift : MethodName := ⟨RX7, "drift", "(IIII)I"⟩
abbrev cX7_sheet : ByteArray := prog_1_method_27_code
def yX7_sheet : MethodName := ⟨RX7, "sheet", "(III)I"⟩
abbrev cX7_lose : ByteArray := prog_1_method_28_code
def yX7_lose : MethodName := ⟨RX7, "lose", "(I)I"⟩
abbrev cX7_put : ByteArray := prog_1_method_29_code
def yX7_put : MethodName := ⟨RX7, "put", "(IIII)I"⟩
abbrev cX7_get : ByteArray := prog_1_method_30_code
def yX7_get : MethodName := ⟨RX7, "get", "(III)I"⟩
abbrev cX7_copy : ByteArray := prog_1_method_31_code
def yX7_copy : MethodName := ⟨RX7, "copy", "(IIIII)I"⟩
abbrev cX7_count : ByteArray := prog_1_method_32_code
def yX7_count : MethodName := ⟨RX7, "count", "(I)I"⟩
abbrev cX7_digest : ByteArray := prog_1_method_33_code
def yX7_digest : MethodName := ⟨RX7, "digest", "()J"⟩
abbrev cX7_within : ByteArray := prog_1_method_34_code
def yX7_within : MethodName := ⟨RX7, "within", "(III)Z"⟩
abbrev cX7_isPosture : ByteArray := prog_1_method_35_code
def yX7_isPosture : MethodName := ⟨RX7, "isPosture", "(I)Z"⟩
abbrev cX7_isSheet : ByteArray := prog_1_method_36_code
def yX7_isSheet : MethodName := ⟨RX7, "isSheet", "(I)Z"⟩
abbrev cX7_finding : ByteArray := prog_1_method_37_code
def yX7_finding : MethodName := ⟨RX7, "finding", "(I)I"⟩
abbrev cX7_troubleWith : ByteArray := prog_1_method_38_code
def yX7_troubleWith : MethodName := ⟨RX7, "troubleWith", "(LTrueArms$Sheet;II)I"⟩
abbrev cX7_countLeftOut : ByteArray := prog_1_method_39_code
def yX7_countLeftOut : MethodName := ⟨RX7, "countLeftOut", "()I"⟩
abbrev cX7_countLost : ByteArray := prog_1_method_40_code
def yX7_countLost : MethodName := ⟨RX7, "countLost", "()I"⟩
abbrev cX7_isMeasured : ByteArray := prog_1_method_41_code
def yX7_isMeasured : MethodName := ⟨RX7, "isMeasured", "(I)Z"⟩
abbrev cX7_measured : ByteArray := prog_1_method_42_code
def yX7_measured : MethodName := ⟨RX7, "measured", "(II)I"⟩
abbrev cX7_missOf : ByteArray := prog_1_method_43_code
def yX7_missOf : MethodName := ⟨RX7, "missOf", "(I)I"⟩
abbrev cX7_listUsed : ByteArray := prog_1_method_44_code
def yX7_listUsed : MethodName := ⟨RX7, "listUsed", "()I"⟩
abbrev cX7_sumUsed : ByteArray := prog_1_method_45_code
def yX7_sumUsed : MethodName := ⟨RX7, "sumUsed", "()V"⟩
abbrev cX7_choosableSets : ByteArray := prog_1_method_46_code
def yX7_choosableSets : MethodName := ⟨RX7, "choosableSets", "()I"⟩
abbrev cX7_weightOf : ByteArray := prog_1_method_47_code
def yX7_weightOf : MethodName := ⟨RX7, "weightOf", "(I)J"⟩
def RX8 : String := "TrueArmsModel"
def TX8 : u_T := fun k => match k with
  | 0 => ("TrueArmsModel", "cs", "[I", true)
  | 1 => ("TrueArmsModel", "lengths", "[I", true)
  | 2 => ("TrueArmsModel", "postures", "I", false)
  | 3 => ("TrueArmsModel", "headings", "[I", true)
  | 4 => ("TrueArmsModel", "isOut", "[Z", true)
  | 5 => ("TrueArmsModel", "used", "[I", true)
  | 6 => ("TrueArmsModel", "usedMany", "I", false)
  | 7 => ("TrueArmsModel", "g", "[J", true)
  | 8 => ("TrueArmsModel", "right", "[J", true)
  | 9 => ("TrueArmsModel", "upright", "[J", true)
  | 10 => ("TrueArmsModel", "pairs", "I", false)
  | 11 => ("TrueArmsModel", "pp", "[I", true)
  | 12 => ("TrueArmsModel", "qq", "[I", true)
  | 13 => ("TrueArmsModel", "xx", "[I", true)
  | 14 => ("TrueArmsModel", "yy", "[I", true)
  | 15 => ("TrueArmsModel", "lows", "[I", true)
  | 16 => ("TrueArmsModel", "spans", "[I", true)
  | 17 => ("TrueArmsModel", "nearSquare", "J", false)
  | 18 => ("TrueArmsModel", "nearPosture", "I", false)
  | 19 => ("TrueArmsModel", "forms", "[I", true)
  | 20 => ("TrueArmsModel", "sizes", "[I", true)
  | 21 => ("TrueArmsModel", "items", "[I", true)
  | 22 => ("TrueArmsModel", "moved", "[I", true)
  | _ => ("TrueArmsModel", "latest", "I", false)
def tyX8 : Nat → FieldType := fun k => match k with
  | 0 => .array .int
  | 1 => .array .int
  | 2 => .int
  | 3 => .array .int
  | 4 => .array .boolean
  | 5 => .array .int
  | 6 => .int
  | 7 => .array .long
  | 8 => .array .long
  | 9 => .array .long
  | 10 => .int
  | 11 => .array .int
  | 12 => .array .int
  | 13 => .array .int
  | 14 => .array .int
  | 15 => .array .int
  | 16 => .array .int
  | 17 => .long
  | 18 => .int
  | 19 => .array .int
  | 20 => .array .int
  | 21 => .array .int
  | 22 => .array .int
  | _ => .int
abbrev wsX80 : List Cond := u_ws RX8 TX8 24
theorem nmX8 : ∀ a, a < 24 → ∀ b, b < 24 → a ≠ b → (TX8 a).2.1 ≠ (TX8 b).2.1 := by decide +kernel
theorem tyX8_ok : ∀ k, k < 24 → parseFieldDescriptor (TX8 k).2.2.1 = some (tyX8 k) := by decide +kernel
abbrev cX8_init : ByteArray := prog_10_method_1_code
def yX8_init : MethodName := ⟨RX8, "<init>", "()V"⟩
abbrev cX8_in : ByteArray := prog_10_method_3_code
def yX8_in : MethodName := ⟨RX8, "in", "(JJJ)Z"⟩
abbrev cX8_no : ByteArray := prog_10_method_4_code
def yX8_no : MethodName := ⟨RX8, "no", "(I)J"⟩
abbrev cX8_c : ByteArray := prog_10_method_5_code
def yX8_c : MethodName := ⟨RX8, "c", "(I)I"⟩
abbrev cX8_s : ByteArray := prog_10_method_6_code
def yX8_s : MethodName := ⟨RX8, "s", "(I)I"⟩
abbrev cX8_turn : ByteArray := prog_10_method_7_code
def yX8_turn : MethodName := ⟨RX8, "turn", "(II)I"⟩
abbrev cX8_length : ByteArray := prog_10_method_8_code
def yX8_length : MethodName := ⟨RX8, "length", "(II)I"⟩
abbrev cX8_posture : ByteArray := prog_10_method_9_code
def yX8_posture : MethodName := ⟨RX8, "posture", "(III)I"⟩
abbrev cX8_clear : ByteArray := prog_10_method_10_code
def yX8_clear : MethodName := ⟨RX8, "clear", "()I"⟩
abbrev cX8_isPosture : ByteArray := prog_10_method_11_code
def yX8_isPosture : MethodName := ⟨RX8, "isPosture", "(I)Z"⟩
abbrev cX8_part : ByteArray := prog_10_method_12_code
def yX8_part : MethodName := ⟨RX8, "part", "(III)I"⟩
abbrev cX8_handOf : ByteArray := prog_10_method_13_code
def yX8_handOf : MethodName := ⟨RX8, "handOf", "(II)I"⟩
abbrev cX8_hand : ByteArray := prog_10_method_14_code
def yX8_hand : MethodName := ⟨RX8, "hand", "(II)I"⟩
abbrev cX8_item : ByteArray := prog_10_method_15_code
def yX8_item : MethodName := ⟨RX8, "item", "(I)I"⟩
abbrev cX8_hasMeasure : ByteArray := prog_10_method_16_code
def yX8_hasMeasure : MethodName := ⟨RX8, "hasMeasure", "(I)Z"⟩
abbrev cX8_measure : ByteArray := prog_10_method_17_code
def yX8_measure : MethodName := ⟨RX8, "measure", "(II)I"⟩
abbrev cX8_leave : ByteArray := prog_10_method_18_code
def yX8_leave : MethodName := ⟨RX8, "leave", "(IZ)I"⟩
abbrev cX8_findUsed : ByteArray := prog_10_method_19_code
def yX8_findUsed : MethodName := ⟨RX8, "findUsed", "()V"⟩
abbrev cX8_used : ByteArray := prog_10_method_20_code
def yX8_used : MethodName := ⟨RX8, "used", "()I"⟩
abbrev cX8_nothing : ByteArray := prog_10_method_21_code
def yX8_nothing : MethodName := ⟨RX8, "nothing", "()V"⟩
abbrev cX8_adds : ByteArray := prog_10_method_22_code
def yX8_adds : MethodName := ⟨RX8, "adds", "(I)V"⟩
abbrev cX8_findTable : ByteArray := prog_10_method_23_code
def yX8_findTable : MethodName := ⟨RX8, "findTable", "()V"⟩
abbrev cX8_table : ByteArray := prog_10_method_24_code
def yX8_table : MethodName := ⟨RX8, "table", "(II)J"⟩
abbrev cX8_det : ByteArray := prog_10_method_25_code
def yX8_det : MethodName := ⟨RX8, "det", "(JJJJJJJJJ)J"⟩
abbrev cX8_weightNow : ByteArray := prog_10_method_26_code
def yX8_weightNow : MethodName := ⟨RX8, "weightNow", "()J"⟩
abbrev cX8_stands : ByteArray := prog_10_method_27_code
def yX8_stands : MethodName := ⟨RX8, "stands", "(II)Z"⟩
abbrev cX8_rankNow : ByteArray := prog_10_method_28_code
def yX8_rankNow : MethodName := ⟨RX8, "rankNow", "()I"⟩
abbrev cX8_rank : ByteArray := prog_10_method_29_code
def yX8_rank : MethodName := ⟨RX8, "rank", "()I"⟩
abbrev cX8_told : ByteArray := prog_10_method_30_code
def yX8_told : MethodName := ⟨RX8, "told", "(I)I"⟩
abbrev cX8_fitOf : ByteArray := prog_10_method_31_code
def yX8_fitOf : MethodName := ⟨RX8, "fitOf", "(I)J"⟩
abbrev cX8_fit : ByteArray := prog_10_method_32_code
def yX8_fit : MethodName := ⟨RX8, "fit", "(I)J"⟩
abbrev cX8_mend : ByteArray := prog_10_method_33_code
def yX8_mend : MethodName := ⟨RX8, "mend", "()I"⟩
abbrev cX8_missOf : ByteArray := prog_10_method_34_code
def yX8_missOf : MethodName := ⟨RX8, "missOf", "(I)I"⟩
abbrev cX8_miss : ByteArray := prog_10_method_35_code
def yX8_miss : MethodName := ⟨RX8, "miss", "(I)I"⟩
abbrev cX8_worst : ByteArray := prog_10_method_36_code
def yX8_worst : MethodName := ⟨RX8, "worst", "()I"⟩
abbrev cX8_first10 : ByteArray := prog_10_method_37_code
def yX8_first10 : MethodName := ⟨RX8, "first10", "()I"⟩
abbrev cX8_weightOf : ByteArray := prog_10_method_38_code
def yX8_weightOf : MethodName := ⟨RX8, "weightOf", "(I)J"⟩
abbrev cX8_weight : ByteArray := prog_10_method_39_code
def yX8_weight : MethodName := ⟨RX8, "weight", "(I)J"⟩
abbrev cX8_best : ByteArray := prog_10_method_40_code
def yX8_best : MethodName := ⟨RX8, "best", "(I)I"⟩
abbrev cX8_isPart : ByteArray := prog_10_method_41_code
def yX8_isPart : MethodName := ⟨RX8, "isPart", "(I)Z"⟩
abbrev cX8_pair : ByteArray := prog_10_method_42_code
def yX8_pair : MethodName := ⟨RX8, "pair", "(IIII)I"⟩
abbrev cX8_shut : ByteArray := prog_10_method_43_code
def yX8_shut : MethodName := ⟨RX8, "shut", "()I"⟩
abbrev cX8_shift : ByteArray := prog_10_method_44_code
def yX8_shift : MethodName := ⟨RX8, "shift", "(III)I"⟩
abbrev cX8_isAnswer : ByteArray := prog_10_method_45_code
def yX8_isAnswer : MethodName := ⟨RX8, "isAnswer", "(I)Z"⟩
abbrev cX8_answers : ByteArray := prog_10_method_46_code
def yX8_answers : MethodName := ⟨RX8, "answers", "()I"⟩
abbrev cX8_answer : ByteArray := prog_10_method_47_code
def yX8_answer : MethodName := ⟨RX8, "answer", "(II)I"⟩
abbrev cX8_limit : ByteArray := prog_10_method_48_code
def yX8_limit : MethodName := ⟨RX8, "limit", "(III)I"⟩
abbrev cX8_may : ByteArray := prog_10_method_49_code
def yX8_may : MethodName := ⟨RX8, "may", "(II)Z"⟩
abbrev cX8_findNearest : ByteArray := prog_10_method_50_code
def yX8_findNearest : MethodName := ⟨RX8, "findNearest", "(II)V"⟩
abbrev cX8_isPlace : ByteArray := prog_10_method_51_code
def yX8_isPlace : MethodName := ⟨RX8, "isPlace", "(II)Z"⟩
abbrev cX8_nearest : ByteArray := prog_10_method_52_code
def yX8_nearest : MethodName := ⟨RX8, "nearest", "(II)I"⟩
abbrev cX8_near : ByteArray := prog_10_method_53_code
def yX8_near : MethodName := ⟨RX8, "near", "(II)J"⟩
abbrev cX8_falseShare : ByteArray := prog_10_method_54_code
def yX8_falseShare : MethodName := ⟨RX8, "falseShare", "(II)I"⟩
abbrev cX8_drift : ByteArray := prog_10_method_55_code
def yX8_drift : MethodName := ⟨RX8, "drift", "(IIII)I"⟩
abbrev cX8_met : ByteArray := prog_10_method_56_code
def yX8_met : MethodName := ⟨RX8, "met", "(I)I"⟩
abbrev cX8_isSheet : ByteArray := prog_10_method_57_code
def yX8_isSheet : MethodName := ⟨RX8, "isSheet", "(I)Z"⟩
abbrev cX8_sheet : ByteArray := prog_10_method_58_code
def yX8_sheet : MethodName := ⟨RX8, "sheet", "(III)I"⟩
abbrev cX8_lose : ByteArray := prog_10_method_59_code
def yX8_lose : MethodName := ⟨RX8, "lose", "(I)I"⟩
abbrev cX8_lacks : ByteArray := prog_10_method_60_code
def yX8_lacks : MethodName := ⟨RX8, "lacks", "(III)I"⟩
abbrev cX8_put : ByteArray := prog_10_method_61_code
def yX8_put : MethodName := ⟨RX8, "put", "(IIII)I"⟩
abbrev cX8_get : ByteArray := prog_10_method_62_code
def yX8_get : MethodName := ⟨RX8, "get", "(III)I"⟩
abbrev cX8_copy : ByteArray := prog_10_method_63_code
def yX8_copy : MethodName := ⟨RX8, "copy", "(IIIII)I"⟩
abbrev cX8_count : ByteArray := prog_10_method_64_code
def yX8_count : MethodName := ⟨RX8, "count", "(I)I"⟩
abbrev cX8_digest : ByteArray := prog_10_method_65_code
def yX8_digest : MethodName := ⟨RX8, "digest", "()J"⟩
def RJ6 : String := "java/lang/Integer"
def TJ6 : u_T := fun k => match k with
  | _ => ("", "", "", false)
def tyJ6 : Nat → FieldType := fun k => match k with
  | _ => .int
abbrev wsJ60 : List Cond := u_ws RJ6 TJ6 0
theorem nmJ6 : ∀ a, a < 0 → ∀ b, b < 0 → a ≠ b → (TJ6 a).2.1 ≠ (TJ6 b).2.1 := by decide +kernel
theorem tyJ6_ok : ∀ k, k < 0 → parseFieldDescriptor (TJ6 k).2.2.1 = some (tyJ6 k) := by decide +kernel
abbrev cJ6_bitCount_0f7a4 : ByteArray := prog_11_method_49_code
def yJ6_bitCount_0f7a4 : MethodName := ⟨RJ6, "bitCount", "(I)I"⟩
def RJ9 : String := "java/lang/Math"
def TJ9 : u_T := fun k => match k with
  | _ => ("", "", "", false)
def tyJ9 : Nat → FieldType := fun k => match k with
  | _ => .int
abbrev wsJ90 : List Cond := u_ws RJ9 TJ9 0
theorem nmJ9 : ∀ a, a < 0 → ∀ b, b < 0 → a ≠ b → (TJ9 a).2.1 ≠ (TJ9 b).2.1 := by decide +kernel
theorem tyJ9_ok : ∀ k, k < 0 → parseFieldDescriptor (TJ9 k).2.2.1 = some (tyJ9 k) := by decide +kernel
abbrev cJ9_floorDiv_f86c9 : ByteArray := prog_12_method_49_code
def yJ9_floorDiv_f86c9 : MethodName := ⟨RJ9, "floorDiv", "(JJ)J"⟩
abbrev cJ9_abs_0f7a4 : ByteArray := prog_12_method_59_code
def yJ9_abs_0f7a4 : MethodName := ⟨RJ9, "abs", "(I)I"⟩
abbrev cJ9_max_7cf53 : ByteArray := prog_12_method_65_code
def yJ9_max_7cf53 : MethodName := ⟨RJ9, "max", "(II)I"⟩
abbrev cJ9_max_f86c9 : ByteArray := prog_12_method_66_code
def yJ9_max_f86c9 : MethodName := ⟨RJ9, "max", "(JJ)J"⟩
abbrev cJ9_min_7cf53 : ByteArray := prog_12_method_69_code
def yJ9_min_7cf53 : MethodName := ⟨RJ9, "min", "(II)I"⟩
abbrev cJ9_min_f86c9 : ByteArray := prog_12_method_70_code
def yJ9_min_f86c9 : MethodName := ⟨RJ9, "min", "(JJ)J"⟩
def RJ10 : String := "java/lang/System"
def TJ10 : u_T := fun k => match k with
  | _ => ("", "", "", false)
def tyJ10 : Nat → FieldType := fun k => match k with
  | _ => .int
abbrev wsJ100 : List Cond := u_ws RJ10 TJ10 0
theorem nmJ10 : ∀ a, a < 0 → ∀ b, b < 0 → a ≠ b → (TJ10 a).2.1 ≠ (TJ10 b).2.1 := by decide +kernel
theorem tyJ10_ok : ∀ k, k < 0 → parseFieldDescriptor (TJ10 k).2.2.1 = some (tyJ10 k) := by decide +kernel
def RJ7 : String := "java/util/Arrays"
def TJ7 : u_T := fun k => match k with
  | _ => ("", "", "", false)
def tyJ7 : Nat → FieldType := fun k => match k with
  | _ => .int
abbrev wsJ70 : List Cond := u_ws RJ7 TJ7 0
theorem nmJ7 : ∀ a, a < 0 → ∀ b, b < 0 → a ≠ b → (TJ7 a).2.1 ≠ (TJ7 b).2.1 := by decide +kernel
theorem tyJ7_ok : ∀ k, k < 0 → parseFieldDescriptor (TJ7 k).2.2.1 = some (tyJ7 k) := by decide +kernel
abbrev cJ7_fill_d0a16 : ByteArray := prog_14_method_101_code
def yJ7_fill_d0a16 : MethodName := ⟨RJ7, "fill", "([JJ)V"⟩
abbrev cJ7_fill_53178 : ByteArray := prog_14_method_103_code
def yJ7_fill_53178 : MethodName := ⟨RJ7, "fill", "([II)V"⟩
def RL : String := "TrueArmsLaw"
abbrev cL_law : ByteArray := code
def yL_law : MethodName := ⟨RL, "law", "([I)Z"⟩
abbrev vwCl : List vw_C := [(RX0, TX0, 4), (RX1, TX1, 5), (RX2, TX2, 4), (RX4, TX4, 3), (RX5, TX5, 2), (RX6, TX6, 3), (RX7, TX7, 9), (RX8, TX8, 24)]
/-- the words that all methods share: those of the tables that keep -/
def wAll : List Cond := lw_tbl.filter goodWord
theorem wAll_of {w : Cond} (h : w ∈ lw_tbl) (hg : goodWord w = true) : w ∈ wAll := List.mem_filter.mpr ⟨h, hg⟩
theorem wAll_good (big : List Cond) (h : ∀ w ∈ wAll, w ∈ big) : GoodIn big wAll := fun w hw => ⟨h w hw, good_of_word (List.mem_filter.mp hw).2⟩
theorem wT_1 {w : Cond} (i : Nat) (hi : tables_1_1[i]? = some w) (hg : goodWord w = true) : w ∈ wAll := wAll_of (List.mem_append_right _ (by have h := List.mem_of_getElem? hi; exact List.mem_append_left _ h)) hg
theorem wT_2 {w : Cond} (i : Nat) (hi : tables_1_2[i]? = some w) (hg : goodWord w = true) : w ∈ wAll := wAll_of (List.mem_append_right _ (by have h := List.mem_of_getElem? hi; exact List.mem_append_right _ (List.mem_append_left _ h))) hg
theorem wT_3 {w : Cond} (i : Nat) (hi : tables_1_3[i]? = some w) (hg : goodWord w = true) : w ∈ wAll := wAll_of (List.mem_append_right _ (by have h := List.mem_of_getElem? hi; exact List.mem_append_right _ (List.mem_append_right _ (List.mem_append_left _ h)))) hg
theorem wT_4 {w : Cond} (i : Nat) (hi : tables_1_4[i]? = some w) (hg : goodWord w = true) : w ∈ wAll := wAll_of (List.mem_append_right _ (by have h := List.mem_of_getElem? hi; exact List.mem_append_right _ (List.mem_append_right _ (List.mem_append_right _ (h))))) hg
end
section
theorem wm_0 : (Jvm.Cond.initialized "TrueArmsLaw") ∈ wAll := wT_1 0 rfl rfl
theorem wm_1 : (Jvm.Cond.initialized "TrueArms") ∈ wAll := wT_1 1 rfl rfl
theorem wm_2 : (Jvm.Cond.initialized "TrueArms$Arm") ∈ wAll := wT_1 2 rfl rfl
theorem wm_3 : (Jvm.Cond.initialized "TrueArms$Sums") ∈ wAll := wT_1 3 rfl rfl
theorem wm_4 : (Jvm.Cond.initialized "TrueArms$Camera") ∈ wAll := wT_1 4 rfl rfl
theorem wm_5 : (Jvm.Cond.initialized "TrueArms$Going") ∈ wAll := wT_1 5 rfl rfl
theorem wm_6 : (Jvm.Cond.initialized "TrueArms$Signs") ∈ wAll := wT_1 6 rfl rfl
theorem wm_7 : (Jvm.Cond.initialized "TrueArms$Sheet") ∈ wAll := wT_1 7 rfl rfl
theorem wm_8 : (Jvm.Cond.initialized "TrueArmsModel") ∈ wAll := wT_1 8 rfl rfl
theorem wm_9 : (Jvm.Cond.initialized "TrueArms$Headings") ∈ wAll := wT_1 9 rfl rfl
theorem wm_10 : (Jvm.Cond.initialized "java/util/Arrays") ∈ wAll := wT_1 10 rfl rfl
theorem wm_11 : (Jvm.Cond.initialized "java/lang/Math") ∈ wAll := wT_1 11 rfl rfl
theorem wm_12 : (Jvm.Cond.initialized "java/lang/Integer") ∈ wAll := wT_1 12 rfl rfl
theorem wm_13 : (Jvm.Cond.initialized "java/lang/System") ∈ wAll := wT_1 13 rfl rfl
theorem wm_14 : (Jvm.Cond.classLink "TrueArmsLaw" (7 : Nat) "TrueArms") ∈ wAll := wT_1 14 rfl rfl
theorem wm_15 : (Jvm.Cond.instantiable "TrueArms" (9 : Nat)) ∈ wAll := wT_1 15 rfl rfl
theorem wm_16 : (Jvm.Cond.methodLink "TrueArmsLaw" (9 : Nat) ({ cls := "TrueArms", name := "<init>", desc := "()V" } : Jvm.MethodName)) ∈ wAll := wT_1 16 rfl rfl
theorem wm_17 : (Jvm.Cond.instanceMethod ({ cls := "TrueArms", name := "<init>", desc := "()V" } : Jvm.MethodName)) ∈ wAll := wT_1 17 rfl rfl
theorem wm_18 : (Jvm.Cond.code ({ cls := "TrueArms", name := "<init>", desc := "()V" } : Jvm.MethodName) prog_1_method_1_code (2 : Nat) (Option.none : Option Jvm.ClassFile.FieldType)) ∈ wAll := wT_1 18 rfl rfl
theorem wm_19 : (Jvm.Cond.methodLink "TrueArms" (1 : Nat) ({ cls := "java/lang/Object", name := "<init>", desc := "()V" } : Jvm.MethodName)) ∈ wAll := wT_1 19 rfl rfl
theorem wm_20 : (Jvm.Cond.instanceMethod ({ cls := "java/lang/Object", name := "<init>", desc := "()V" } : Jvm.MethodName)) ∈ wAll := wT_1 20 rfl rfl
theorem wm_21 : (Jvm.Cond.code ({ cls := "java/lang/Object", name := "<init>", desc := "()V" } : Jvm.MethodName) object_method_1_code (1 : Nat) (Option.none : Option Jvm.ClassFile.FieldType)) ∈ wAll := wT_1 21 rfl rfl
theorem wm_22 : (Jvm.Cond.classLink "TrueArms" (7 : Nat) "TrueArms$Arm") ∈ wAll := wT_1 22 rfl rfl
theorem wm_23 : (Jvm.Cond.instantiable "TrueArms$Arm" (4 : Nat)) ∈ wAll := wT_1 23 rfl rfl
theorem wm_24 : (Jvm.Cond.methodLink "TrueArms" (9 : Nat) ({ cls := "TrueArms$Arm", name := "<init>", desc := "()V" } : Jvm.MethodName)) ∈ wAll := wT_1 24 rfl rfl
theorem wm_25 : (Jvm.Cond.instanceMethod ({ cls := "TrueArms$Arm", name := "<init>", desc := "()V" } : Jvm.MethodName)) ∈ wAll := wT_1 25 rfl rfl
theorem wm_26 : (Jvm.Cond.code ({ cls := "TrueArms$Arm", name := "<init>", desc := "()V" } : Jvm.MethodName) prog_2_method_1_code (1 : Nat) (Option.none : Option Jvm.ClassFile.FieldType)) ∈ wAll := wT_1 26 rfl rfl
theorem wm_27 : (Jvm.Cond.methodLink "TrueArms$Arm" (1 : Nat) ({ cls := "java/lang/Object", name := "<init>", desc := "()V" } : Jvm.MethodName)) ∈ wAll := wT_1 27 rfl rfl
theorem wm_28 : (Jvm.Cond.fieldLink "TrueArms$Arm" (7 : Nat) "TrueArms$Arm" "lengths" "[I") ∈ wAll := wT_1 28 rfl rfl
theorem wm_29 : (Jvm.Cond.fieldLink "TrueArms" (73 : Nat) "TrueArms$Arm" "lengths" "[I") ∈ wAll := wT_1 29 rfl rfl
theorem wm_30 : (Jvm.Cond.fieldLink "TrueArms$Arm" (13 : Nat) "TrueArms$Arm" "headings" "[I") ∈ wAll := wT_1 30 rfl rfl
theorem wm_31 : (Jvm.Cond.fieldLink "TrueArms$Sums" (31 : Nat) "TrueArms$Arm" "headings" "[I") ∈ wAll := wT_1 31 rfl rfl
theorem wm_32 : (Jvm.Cond.fieldLink "TrueArms$Arm" (16 : Nat) "TrueArms$Arm" "products" "[I") ∈ wAll := wT_1 32 rfl rfl
theorem wm_33 : (Jvm.Cond.fieldLink "TrueArms$Sums" (25 : Nat) "TrueArms$Arm" "products" "[I") ∈ wAll := wT_1 33 rfl rfl
theorem wm_34 : (Jvm.Cond.fieldLink "TrueArms$Arm" (19 : Nat) "TrueArms$Arm" "postures" "I") ∈ wAll := wT_1 34 rfl rfl
theorem wm_35 : (Jvm.Cond.fieldLink "TrueArms" (76 : Nat) "TrueArms$Arm" "postures" "I") ∈ wAll := wT_1 35 rfl rfl
theorem wm_36 : (Jvm.Cond.laysFinal "TrueArms$Arm" "TrueArms$Arm" "lengths" "[I") ∈ wAll := wT_1 36 rfl rfl
theorem wm_37 : (Jvm.Cond.soleField "TrueArms$Arm" "lengths") ∈ wAll := wT_1 37 rfl rfl
theorem wm_38 : (Jvm.Cond.laysFinal "TrueArms$Arm" "TrueArms$Arm" "headings" "[I") ∈ wAll := wT_1 38 rfl rfl
theorem wm_39 : (Jvm.Cond.soleField "TrueArms$Arm" "headings") ∈ wAll := wT_1 39 rfl rfl
theorem wm_40 : (Jvm.Cond.laysFinal "TrueArms$Arm" "TrueArms$Arm" "products" "[I") ∈ wAll := wT_1 40 rfl rfl
theorem wm_41 : (Jvm.Cond.soleField "TrueArms$Arm" "products") ∈ wAll := wT_1 41 rfl rfl
theorem wm_42 : (Jvm.Cond.lays "TrueArms$Arm" "TrueArms$Arm" "postures" "I") ∈ wAll := wT_1 42 rfl rfl
theorem wm_43 : (Jvm.Cond.soleField "TrueArms$Arm" "postures") ∈ wAll := wT_1 43 rfl rfl
theorem wm_44 : (Jvm.Cond.superclass "TrueArms$Arm" "java/lang/Object") ∈ wAll := wT_1 44 rfl rfl
theorem wm_45 : (Jvm.Cond.arrayClass Jvm.ClassFile.FieldType.int) ∈ wAll := wT_1 45 rfl rfl
theorem wm_46 : (Jvm.Cond.classLink "TrueArms" (24 : Nat) "TrueArms$Sums") ∈ wAll := wT_1 46 rfl rfl
theorem wm_47 : (Jvm.Cond.instantiable "TrueArms$Sums" (3 : Nat)) ∈ wAll := wT_1 47 rfl rfl
theorem wm_48 : (Jvm.Cond.methodLink "TrueArms" (26 : Nat) ({ cls := "TrueArms$Sums", name := "<init>", desc := "()V" } : Jvm.MethodName)) ∈ wAll := wT_1 48 rfl rfl
theorem wm_49 : (Jvm.Cond.instanceMethod ({ cls := "TrueArms$Sums", name := "<init>", desc := "()V" } : Jvm.MethodName)) ∈ wAll := wT_1 49 rfl rfl
theorem wm_50 : (Jvm.Cond.code ({ cls := "TrueArms$Sums", name := "<init>", desc := "()V" } : Jvm.MethodName) prog_8_method_1_code (1 : Nat) (Option.none : Option Jvm.ClassFile.FieldType)) ∈ wAll := wT_1 50 rfl rfl
theorem wm_51 : (Jvm.Cond.methodLink "TrueArms$Sums" (1 : Nat) ({ cls := "java/lang/Object", name := "<init>", desc := "()V" } : Jvm.MethodName)) ∈ wAll := wT_1 51 rfl rfl
theorem wm_52 : (Jvm.Cond.fieldLink "TrueArms$Sums" (7 : Nat) "TrueArms$Sums" "cells" "[J") ∈ wAll := wT_1 52 rfl rfl
theorem wm_53 : (Jvm.Cond.fieldLink "TrueArms" (131 : Nat) "TrueArms$Sums" "cells" "[J") ∈ wAll := wT_1 53 rfl rfl
theorem wm_54 : (Jvm.Cond.fieldLink "TrueArms$Sums" (13 : Nat) "TrueArms$Sums" "right" "[J") ∈ wAll := wT_1 54 rfl rfl
theorem wm_55 : (Jvm.Cond.fieldLink "TrueArms$Sums" (16 : Nat) "TrueArms$Sums" "changed" "[J") ∈ wAll := wT_1 55 rfl rfl
theorem wm_56 : (Jvm.Cond.laysFinal "TrueArms$Sums" "TrueArms$Sums" "cells" "[J") ∈ wAll := wT_1 56 rfl rfl
theorem wm_57 : (Jvm.Cond.soleField "TrueArms$Sums" "cells") ∈ wAll := wT_1 57 rfl rfl
theorem wm_58 : (Jvm.Cond.laysFinal "TrueArms$Sums" "TrueArms$Sums" "right" "[J") ∈ wAll := wT_1 58 rfl rfl
theorem wm_59 : (Jvm.Cond.soleField "TrueArms$Sums" "right") ∈ wAll := wT_1 59 rfl rfl
theorem wm_60 : (Jvm.Cond.laysFinal "TrueArms$Sums" "TrueArms$Sums" "changed" "[J") ∈ wAll := wT_1 60 rfl rfl
theorem wm_61 : (Jvm.Cond.soleField "TrueArms$Sums" "changed") ∈ wAll := wT_1 61 rfl rfl
theorem wm_62 : (Jvm.Cond.superclass "TrueArms$Sums" "java/lang/Object") ∈ wAll := wT_1 62 rfl rfl
theorem wm_63 : (Jvm.Cond.arrayClass Jvm.ClassFile.FieldType.boolean) ∈ wAll := wT_1 63 rfl rfl
theorem wm_64 : (Jvm.Cond.arrayClass Jvm.ClassFile.FieldType.long) ∈ wAll := wT_1 64 rfl rfl
theorem wm_65 : (Jvm.Cond.classLink "TrueArms" (31 : Nat) "TrueArms$Camera") ∈ wAll := wT_1 65 rfl rfl
theorem wm_66 : (Jvm.Cond.instantiable "TrueArms$Camera" (5 : Nat)) ∈ wAll := wT_1 66 rfl rfl
theorem wm_67 : (Jvm.Cond.methodLink "TrueArms" (33 : Nat) ({ cls := "TrueArms$Camera", name := "<init>", desc := "()V" } : Jvm.MethodName)) ∈ wAll := wT_1 67 rfl rfl
theorem wm_68 : (Jvm.Cond.instanceMethod ({ cls := "TrueArms$Camera", name := "<init>", desc := "()V" } : Jvm.MethodName)) ∈ wAll := wT_1 68 rfl rfl
theorem wm_69 : (Jvm.Cond.code ({ cls := "TrueArms$Camera", name := "<init>", desc := "()V" } : Jvm.MethodName) prog_3_method_1_code (1 : Nat) (Option.none : Option Jvm.ClassFile.FieldType)) ∈ wAll := wT_1 69 rfl rfl
theorem wm_70 : (Jvm.Cond.methodLink "TrueArms$Camera" (3 : Nat) ({ cls := "java/lang/Object", name := "<init>", desc := "()V" } : Jvm.MethodName)) ∈ wAll := wT_1 70 rfl rfl
theorem wm_71 : (Jvm.Cond.fieldLink "TrueArms$Camera" (11 : Nat) "TrueArms$Camera" "ownP" "[I") ∈ wAll := wT_1 71 rfl rfl
theorem wm_72 : (Jvm.Cond.fieldLink "TrueArms$Camera" (15 : Nat) "TrueArms$Camera" "ownQ" "[I") ∈ wAll := wT_1 72 rfl rfl
theorem wm_73 : (Jvm.Cond.fieldLink "TrueArms$Camera" (18 : Nat) "TrueArms$Camera" "armX" "[I") ∈ wAll := wT_1 73 rfl rfl
theorem wm_74 : (Jvm.Cond.fieldLink "TrueArms$Camera" (21 : Nat) "TrueArms$Camera" "armY" "[I") ∈ wAll := wT_1 74 rfl rfl
theorem wm_75 : (Jvm.Cond.fieldLink "TrueArms$Camera" (24 : Nat) "TrueArms$Camera" "pairs" "I") ∈ wAll := wT_1 75 rfl rfl
theorem wm_76 : (Jvm.Cond.fieldLink "TrueArms" (158 : Nat) "TrueArms$Camera" "pairs" "I") ∈ wAll := wT_1 76 rfl rfl
theorem wm_77 : (Jvm.Cond.laysFinal "TrueArms$Camera" "TrueArms$Camera" "ownP" "[I") ∈ wAll := wT_1 77 rfl rfl
theorem wm_78 : (Jvm.Cond.soleField "TrueArms$Camera" "ownP") ∈ wAll := wT_1 78 rfl rfl
theorem wm_79 : (Jvm.Cond.laysFinal "TrueArms$Camera" "TrueArms$Camera" "ownQ" "[I") ∈ wAll := wT_1 79 rfl rfl
theorem wm_80 : (Jvm.Cond.soleField "TrueArms$Camera" "ownQ") ∈ wAll := wT_1 80 rfl rfl
theorem wm_81 : (Jvm.Cond.laysFinal "TrueArms$Camera" "TrueArms$Camera" "armX" "[I") ∈ wAll := wT_1 81 rfl rfl
theorem wm_82 : (Jvm.Cond.soleField "TrueArms$Camera" "armX") ∈ wAll := wT_1 82 rfl rfl
theorem wm_83 : (Jvm.Cond.laysFinal "TrueArms$Camera" "TrueArms$Camera" "armY" "[I") ∈ wAll := wT_1 83 rfl rfl
theorem wm_84 : (Jvm.Cond.soleField "TrueArms$Camera" "armY") ∈ wAll := wT_1 84 rfl rfl
theorem wm_85 : (Jvm.Cond.lays "TrueArms$Camera" "TrueArms$Camera" "pairs" "I") ∈ wAll := wT_1 85 rfl rfl
theorem wm_86 : (Jvm.Cond.soleField "TrueArms$Camera" "pairs") ∈ wAll := wT_1 86 rfl rfl
theorem wm_87 : (Jvm.Cond.superclass "TrueArms$Camera" "java/lang/Object") ∈ wAll := wT_1 87 rfl rfl
theorem wm_88 : (Jvm.Cond.classLink "TrueArms" (38 : Nat) "TrueArms$Going") ∈ wAll := wT_1 88 rfl rfl
theorem wm_89 : (Jvm.Cond.instantiable "TrueArms$Going" (4 : Nat)) ∈ wAll := wT_1 89 rfl rfl
theorem wm_90 : (Jvm.Cond.methodLink "TrueArms" (40 : Nat) ({ cls := "TrueArms$Going", name := "<init>", desc := "()V" } : Jvm.MethodName)) ∈ wAll := wT_1 90 rfl rfl
theorem wm_91 : (Jvm.Cond.instanceMethod ({ cls := "TrueArms$Going", name := "<init>", desc := "()V" } : Jvm.MethodName)) ∈ wAll := wT_1 91 rfl rfl
theorem wm_92 : (Jvm.Cond.code ({ cls := "TrueArms$Going", name := "<init>", desc := "()V" } : Jvm.MethodName) prog_4_method_1_code (2 : Nat) (Option.none : Option Jvm.ClassFile.FieldType)) ∈ wAll := wT_1 92 rfl rfl
theorem wm_93 : (Jvm.Cond.methodLink "TrueArms$Going" (1 : Nat) ({ cls := "java/lang/Object", name := "<init>", desc := "()V" } : Jvm.MethodName)) ∈ wAll := wT_1 93 rfl rfl
theorem wm_94 : (Jvm.Cond.fieldLink "TrueArms$Going" (9 : Nat) "TrueArms$Going" "may" "[Z") ∈ wAll := wT_1 94 rfl rfl
theorem wm_95 : (Jvm.Cond.fieldLink "TrueArms$Going" (15 : Nat) "TrueArms$Going" "lastLength" "I") ∈ wAll := wT_1 95 rfl rfl
theorem wm_96 : (Jvm.Cond.fieldLink "TrueArms$Going" (19 : Nat) "TrueArms$Going" "foundTurns" "I") ∈ wAll := wT_1 96 rfl rfl
theorem wm_97 : (Jvm.Cond.fieldLink "TrueArms" (187 : Nat) "TrueArms$Going" "foundTurns" "I") ∈ wAll := wT_1 97 rfl rfl
theorem wm_98 : (Jvm.Cond.fieldLink "TrueArms$Going" (22 : Nat) "TrueArms$Going" "least" "J") ∈ wAll := wT_1 98 rfl rfl
theorem wm_99 : (Jvm.Cond.fieldLink "TrueArms" (190 : Nat) "TrueArms$Going" "least" "J") ∈ wAll := wT_1 99 rfl rfl
theorem wm_100 : (Jvm.Cond.laysFinal "TrueArms$Going" "TrueArms$Going" "may" "[Z") ∈ wAll := wT_1 100 rfl rfl
theorem wm_101 : (Jvm.Cond.soleField "TrueArms$Going" "may") ∈ wAll := wT_1 101 rfl rfl
theorem wm_102 : (Jvm.Cond.lays "TrueArms$Going" "TrueArms$Going" "lastLength" "I") ∈ wAll := wT_1 102 rfl rfl
theorem wm_103 : (Jvm.Cond.soleField "TrueArms$Going" "lastLength") ∈ wAll := wT_1 103 rfl rfl
theorem wm_104 : (Jvm.Cond.lays "TrueArms$Going" "TrueArms$Going" "foundTurns" "I") ∈ wAll := wT_1 104 rfl rfl
theorem wm_105 : (Jvm.Cond.soleField "TrueArms$Going" "foundTurns") ∈ wAll := wT_1 105 rfl rfl
theorem wm_106 : (Jvm.Cond.lays "TrueArms$Going" "TrueArms$Going" "least" "J") ∈ wAll := wT_1 106 rfl rfl
theorem wm_107 : (Jvm.Cond.soleField "TrueArms$Going" "least") ∈ wAll := wT_1 107 rfl rfl
theorem wm_108 : (Jvm.Cond.superclass "TrueArms$Going" "java/lang/Object") ∈ wAll := wT_1 108 rfl rfl
theorem wm_109 : (Jvm.Cond.classLink "TrueArms" (45 : Nat) "TrueArms$Signs") ∈ wAll := wT_1 109 rfl rfl
theorem wm_110 : (Jvm.Cond.instantiable "TrueArms$Signs" (2 : Nat)) ∈ wAll := wT_1 110 rfl rfl
theorem wm_111 : (Jvm.Cond.methodLink "TrueArms" (47 : Nat) ({ cls := "TrueArms$Signs", name := "<init>", desc := "()V" } : Jvm.MethodName)) ∈ wAll := wT_1 111 rfl rfl
theorem wm_112 : (Jvm.Cond.instanceMethod ({ cls := "TrueArms$Signs", name := "<init>", desc := "()V" } : Jvm.MethodName)) ∈ wAll := wT_1 112 rfl rfl
theorem wm_113 : (Jvm.Cond.code ({ cls := "TrueArms$Signs", name := "<init>", desc := "()V" } : Jvm.MethodName) prog_7_method_1_code (1 : Nat) (Option.none : Option Jvm.ClassFile.FieldType)) ∈ wAll := wT_1 113 rfl rfl
theorem wm_114 : (Jvm.Cond.methodLink "TrueArms$Signs" (1 : Nat) ({ cls := "java/lang/Object", name := "<init>", desc := "()V" } : Jvm.MethodName)) ∈ wAll := wT_1 114 rfl rfl
theorem wm_115 : (Jvm.Cond.fieldLink "TrueArms$Signs" (7 : Nat) "TrueArms$Signs" "counted" "I") ∈ wAll := wT_1 115 rfl rfl
theorem wm_116 : (Jvm.Cond.fieldLink "TrueArms" (211 : Nat) "TrueArms$Signs" "counted" "I") ∈ wAll := wT_1 116 rfl rfl
theorem wm_117 : (Jvm.Cond.fieldLink "TrueArms$Signs" (13 : Nat) "TrueArms$Signs" "above" "I") ∈ wAll := wT_1 117 rfl rfl
theorem wm_118 : (Jvm.Cond.fieldLink "TrueArms" (214 : Nat) "TrueArms$Signs" "above" "I") ∈ wAll := wT_1 118 rfl rfl
theorem wm_119 : (Jvm.Cond.lays "TrueArms$Signs" "TrueArms$Signs" "counted" "I") ∈ wAll := wT_1 119 rfl rfl
theorem wm_120 : (Jvm.Cond.soleField "TrueArms$Signs" "counted") ∈ wAll := wT_1 120 rfl rfl
theorem wm_121 : (Jvm.Cond.lays "TrueArms$Signs" "TrueArms$Signs" "above" "I") ∈ wAll := wT_1 121 rfl rfl
theorem wm_122 : (Jvm.Cond.soleField "TrueArms$Signs" "above") ∈ wAll := wT_1 122 rfl rfl
theorem wm_123 : (Jvm.Cond.superclass "TrueArms$Signs" "java/lang/Object") ∈ wAll := wT_1 123 rfl rfl
theorem wm_124 : (Jvm.Cond.classLink "TrueArms" (52 : Nat) "TrueArms$Sheet") ∈ wAll := wT_1 124 rfl rfl
theorem wm_125 : (Jvm.Cond.instantiable "TrueArms$Sheet" (3 : Nat)) ∈ wAll := wT_1 126 rfl rfl
theorem wm_126 : (Jvm.Cond.methodLink "TrueArms" (62 : Nat) ({ cls := "TrueArms$Sheet", name := "<init>", desc := "()V" } : Jvm.MethodName)) ∈ wAll := wT_1 127 rfl rfl
theorem wm_127 : (Jvm.Cond.instanceMethod ({ cls := "TrueArms$Sheet", name := "<init>", desc := "()V" } : Jvm.MethodName)) ∈ wAll := wT_1 128 rfl rfl
theorem wm_128 : (Jvm.Cond.code ({ cls := "TrueArms$Sheet", name := "<init>", desc := "()V" } : Jvm.MethodName) prog_6_method_1_code (1 : Nat) (Option.none : Option Jvm.ClassFile.FieldType)) ∈ wAll := wT_1 129 rfl rfl
theorem wm_129 : (Jvm.Cond.methodLink "TrueArms$Sheet" (1 : Nat) ({ cls := "java/lang/Object", name := "<init>", desc := "()V" } : Jvm.MethodName)) ∈ wAll := wT_1 130 rfl rfl
theorem wm_130 : (Jvm.Cond.fieldLink "TrueArms$Sheet" (9 : Nat) "TrueArms$Sheet" "items" "[I") ∈ wAll := wT_1 131 rfl rfl
theorem wm_131 : (Jvm.Cond.fieldLink "TrueArms$Signs" (16 : Nat) "TrueArms$Sheet" "items" "[I") ∈ wAll := wT_1 132 rfl rfl
theorem wm_132 : (Jvm.Cond.fieldLink "TrueArms" (234 : Nat) "TrueArms$Sheet" "items" "[I") ∈ wAll := wT_1 133 rfl rfl
theorem wm_133 : (Jvm.Cond.fieldLink "TrueArms$Sheet" (13 : Nat) "TrueArms$Sheet" "form" "I") ∈ wAll := wT_1 134 rfl rfl
theorem wm_134 : (Jvm.Cond.fieldLink "TrueArms" (240 : Nat) "TrueArms$Sheet" "form" "I") ∈ wAll := wT_1 135 rfl rfl
theorem wm_135 : (Jvm.Cond.fieldLink "TrueArms$Sheet" (17 : Nat) "TrueArms$Sheet" "size" "I") ∈ wAll := wT_1 136 rfl rfl
theorem wm_136 : (Jvm.Cond.laysFinal "TrueArms$Sheet" "TrueArms$Sheet" "items" "[I") ∈ wAll := wT_1 137 rfl rfl
theorem wm_137 : (Jvm.Cond.soleField "TrueArms$Sheet" "items") ∈ wAll := wT_1 138 rfl rfl
theorem wm_138 : (Jvm.Cond.lays "TrueArms$Sheet" "TrueArms$Sheet" "form" "I") ∈ wAll := wT_1 139 rfl rfl
theorem wm_139 : (Jvm.Cond.soleField "TrueArms$Sheet" "form") ∈ wAll := wT_1 140 rfl rfl
theorem wm_140 : (Jvm.Cond.lays "TrueArms$Sheet" "TrueArms$Sheet" "size" "I") ∈ wAll := wT_1 141 rfl rfl
theorem wm_141 : (Jvm.Cond.soleField "TrueArms$Sheet" "size") ∈ wAll := wT_1 142 rfl rfl
theorem wm_142 : (Jvm.Cond.superclass "TrueArms$Sheet" "java/lang/Object") ∈ wAll := wT_1 143 rfl rfl
theorem wm_143 : (Jvm.Cond.fieldLink "TrueArms" (10 : Nat) "TrueArms" "arm" "LTrueArms$Arm;") ∈ wAll := wT_1 144 rfl rfl
theorem wm_144 : (Jvm.Cond.fieldLink "TrueArms" (16 : Nat) "TrueArms" "leftOut" "[Z") ∈ wAll := wT_1 145 rfl rfl
theorem wm_145 : (Jvm.Cond.fieldLink "TrueArms" (20 : Nat) "TrueArms" "usedOnes" "[I") ∈ wAll := wT_1 146 rfl rfl
theorem wm_146 : (Jvm.Cond.fieldLink "TrueArms" (27 : Nat) "TrueArms" "sums" "LTrueArms$Sums;") ∈ wAll := wT_1 147 rfl rfl
theorem wm_147 : (Jvm.Cond.fieldLink "TrueArms" (34 : Nat) "TrueArms" "camera" "LTrueArms$Camera;") ∈ wAll := wT_1 148 rfl rfl
theorem wm_148 : (Jvm.Cond.fieldLink "TrueArms" (41 : Nat) "TrueArms" "going" "LTrueArms$Going;") ∈ wAll := wT_1 149 rfl rfl
theorem wm_149 : (Jvm.Cond.fieldLink "TrueArms" (48 : Nat) "TrueArms" "signs" "LTrueArms$Signs;") ∈ wAll := wT_1 150 rfl rfl
theorem wm_150 : (Jvm.Cond.fieldLink "TrueArms" (54 : Nat) "TrueArms" "sheets" "[LTrueArms$Sheet;") ∈ wAll := wT_1 151 rfl rfl
theorem wm_151 : (Jvm.Cond.fieldLink "TrueArms" (58 : Nat) "TrueArms" "latestFinding" "I") ∈ wAll := wT_1 152 rfl rfl
theorem wm_152 : (Jvm.Cond.laysFinal "TrueArms" "TrueArms" "arm" "LTrueArms$Arm;") ∈ wAll := wT_1 153 rfl rfl
theorem wm_153 : (Jvm.Cond.soleField "TrueArms" "arm") ∈ wAll := wT_1 154 rfl rfl
theorem wm_154 : (Jvm.Cond.laysFinal "TrueArms" "TrueArms" "leftOut" "[Z") ∈ wAll := wT_1 155 rfl rfl
theorem wm_155 : (Jvm.Cond.soleField "TrueArms" "leftOut") ∈ wAll := wT_1 156 rfl rfl
theorem wm_156 : (Jvm.Cond.laysFinal "TrueArms" "TrueArms" "usedOnes" "[I") ∈ wAll := wT_1 157 rfl rfl
theorem wm_157 : (Jvm.Cond.soleField "TrueArms" "usedOnes") ∈ wAll := wT_1 158 rfl rfl
theorem wm_158 : (Jvm.Cond.laysFinal "TrueArms" "TrueArms" "sums" "LTrueArms$Sums;") ∈ wAll := wT_1 159 rfl rfl
theorem wm_159 : (Jvm.Cond.soleField "TrueArms" "sums") ∈ wAll := wT_1 160 rfl rfl
theorem wm_160 : (Jvm.Cond.laysFinal "TrueArms" "TrueArms" "camera" "LTrueArms$Camera;") ∈ wAll := wT_1 161 rfl rfl
theorem wm_161 : (Jvm.Cond.soleField "TrueArms" "camera") ∈ wAll := wT_1 162 rfl rfl
theorem wm_162 : (Jvm.Cond.laysFinal "TrueArms" "TrueArms" "going" "LTrueArms$Going;") ∈ wAll := wT_1 163 rfl rfl
theorem wm_163 : (Jvm.Cond.soleField "TrueArms" "going") ∈ wAll := wT_1 164 rfl rfl
theorem wm_164 : (Jvm.Cond.laysFinal "TrueArms" "TrueArms" "signs" "LTrueArms$Signs;") ∈ wAll := wT_1 165 rfl rfl
theorem wm_165 : (Jvm.Cond.soleField "TrueArms" "signs") ∈ wAll := wT_1 166 rfl rfl
theorem wm_166 : (Jvm.Cond.laysFinal "TrueArms" "TrueArms" "sheets" "[LTrueArms$Sheet;") ∈ wAll := wT_1 167 rfl rfl
theorem wm_167 : (Jvm.Cond.soleField "TrueArms" "sheets") ∈ wAll := wT_1 168 rfl rfl
theorem wm_168 : (Jvm.Cond.lays "TrueArms" "TrueArms" "latestFinding" "I") ∈ wAll := wT_1 169 rfl rfl
theorem wm_169 : (Jvm.Cond.soleField "TrueArms" "latestFinding") ∈ wAll := wT_1 170 rfl rfl
theorem wm_170 : (Jvm.Cond.superclass "TrueArms" "java/lang/Object") ∈ wAll := wT_1 171 rfl rfl
theorem wm_171 : (Jvm.Cond.methodLink "TrueArmsLaw" (13 : Nat) ({ cls := "TrueArms", name := "turn", desc := "(II)I" } : Jvm.MethodName)) ∈ wAll := wT_1 172 rfl rfl
theorem wm_172 : (Jvm.Cond.instanceMethod ({ cls := "TrueArms", name := "turn", desc := "(II)I" } : Jvm.MethodName)) ∈ wAll := wT_1 173 rfl rfl
theorem wm_173 : (Jvm.Cond.selects "TrueArms" ({ cls := "TrueArms", name := "turn", desc := "(II)I" } : Jvm.MethodName) ({ cls := "TrueArms", name := "turn", desc := "(II)I" } : Jvm.MethodName)) ∈ wAll := wT_1 174 rfl rfl
theorem wm_174 : (Jvm.Cond.code ({ cls := "TrueArms", name := "turn", desc := "(II)I" } : Jvm.MethodName) prog_1_method_2_code (3 : Nat) (Option.some Jvm.ClassFile.FieldType.int)) ∈ wAll := wT_1 175 rfl rfl
theorem wm_175 : (Jvm.Cond.methodLink "TrueArms" (65 : Nat) ({ cls := "TrueArms", name := "within", desc := "(III)Z" } : Jvm.MethodName)) ∈ wAll := wT_1 176 rfl rfl
theorem wm_176 : (Jvm.Cond.static ({ cls := "TrueArms", name := "within", desc := "(III)Z" } : Jvm.MethodName)) ∈ wAll := wT_1 177 rfl rfl
theorem wm_177 : (Jvm.Cond.code ({ cls := "TrueArms", name := "within", desc := "(III)Z" } : Jvm.MethodName) prog_1_method_34_code (3 : Nat) (Option.some Jvm.ClassFile.FieldType.boolean)) ∈ wAll := wT_1 178 rfl rfl
theorem wm_178 : (Jvm.Cond.methodLink "TrueArms" (69 : Nat) ({ cls := "TrueArms$Headings", name := "part", desc := "(II)I" } : Jvm.MethodName)) ∈ wAll := wT_1 179 rfl rfl
theorem wm_179 : (Jvm.Cond.static ({ cls := "TrueArms$Headings", name := "part", desc := "(II)I" } : Jvm.MethodName)) ∈ wAll := wT_1 180 rfl rfl
theorem wm_180 : (Jvm.Cond.code ({ cls := "TrueArms$Headings", name := "part", desc := "(II)I" } : Jvm.MethodName) prog_5_method_4_code (2 : Nat) (Option.some Jvm.ClassFile.FieldType.int)) ∈ wAll := wT_1 181 rfl rfl
theorem wm_181 : (Jvm.Cond.methodLink "TrueArms$Headings" (13 : Nat) ({ cls := "TrueArms$Headings", name := "cOf", desc := "(I)I" } : Jvm.MethodName)) ∈ wAll := wT_1 182 rfl rfl
theorem wm_182 : (Jvm.Cond.static ({ cls := "TrueArms$Headings", name := "cOf", desc := "(I)I" } : Jvm.MethodName)) ∈ wAll := wT_1 183 rfl rfl
theorem wm_183 : (Jvm.Cond.code ({ cls := "TrueArms$Headings", name := "cOf", desc := "(I)I" } : Jvm.MethodName) prog_5_method_2_code (1 : Nat) (Option.some Jvm.ClassFile.FieldType.int)) ∈ wAll := wT_1 184 rfl rfl
theorem wm_184 : (Jvm.Cond.fieldLink "TrueArms$Headings" (7 : Nat) "TrueArms$Headings" "C_OF" "[I") ∈ wAll := wT_1 185 rfl rfl
theorem wm_185 : (Jvm.Cond.methodLink "TrueArms$Headings" (17 : Nat) ({ cls := "TrueArms$Headings", name := "sOf", desc := "(I)I" } : Jvm.MethodName)) ∈ wAll := wT_1 187 rfl rfl
theorem wm_186 : (Jvm.Cond.static ({ cls := "TrueArms$Headings", name := "sOf", desc := "(I)I" } : Jvm.MethodName)) ∈ wAll := wT_1 188 rfl rfl
theorem wm_187 : (Jvm.Cond.code ({ cls := "TrueArms$Headings", name := "sOf", desc := "(I)I" } : Jvm.MethodName) prog_5_method_3_code (1 : Nat) (Option.some Jvm.ClassFile.FieldType.int)) ∈ wAll := wT_1 189 rfl rfl
theorem wm_188 : (Jvm.Cond.methodLink "TrueArmsLaw" (18 : Nat) ({ cls := "TrueArms", name := "length", desc := "(II)I" } : Jvm.MethodName)) ∈ wAll := wT_1 190 rfl rfl
theorem wm_189 : (Jvm.Cond.instanceMethod ({ cls := "TrueArms", name := "length", desc := "(II)I" } : Jvm.MethodName)) ∈ wAll := wT_1 191 rfl rfl
theorem wm_190 : (Jvm.Cond.selects "TrueArms" ({ cls := "TrueArms", name := "length", desc := "(II)I" } : Jvm.MethodName) ({ cls := "TrueArms", name := "length", desc := "(II)I" } : Jvm.MethodName)) ∈ wAll := wT_1 192 rfl rfl
theorem wm_191 : (Jvm.Cond.code ({ cls := "TrueArms", name := "length", desc := "(II)I" } : Jvm.MethodName) prog_1_method_3_code (4 : Nat) (Option.some Jvm.ClassFile.FieldType.int)) ∈ wAll := wT_1 193 rfl rfl
theorem wm_192 : (Jvm.Cond.methodLink "TrueArmsLaw" (22 : Nat) ({ cls := "TrueArms", name := "posture", desc := "(III)I" } : Jvm.MethodName)) ∈ wAll := wT_1 194 rfl rfl
theorem wm_193 : (Jvm.Cond.instanceMethod ({ cls := "TrueArms", name := "posture", desc := "(III)I" } : Jvm.MethodName)) ∈ wAll := wT_1 195 rfl rfl
theorem wm_194 : (Jvm.Cond.selects "TrueArms" ({ cls := "TrueArms", name := "posture", desc := "(III)I" } : Jvm.MethodName) ({ cls := "TrueArms", name := "posture", desc := "(III)I" } : Jvm.MethodName)) ∈ wAll := wT_1 196 rfl rfl
theorem wm_195 : (Jvm.Cond.code ({ cls := "TrueArms", name := "posture", desc := "(III)I" } : Jvm.MethodName) prog_1_method_4_code (4 : Nat) (Option.some Jvm.ClassFile.FieldType.int)) ∈ wAll := wT_1 197 rfl rfl
theorem wm_196 : (Jvm.Cond.methodLink "TrueArms" (79 : Nat) ({ cls := "TrueArms$Arm", name := "stand", desc := "(III)I" } : Jvm.MethodName)) ∈ wAll := wT_1 198 rfl rfl
theorem wm_197 : (Jvm.Cond.instanceMethod ({ cls := "TrueArms$Arm", name := "stand", desc := "(III)I" } : Jvm.MethodName)) ∈ wAll := wT_1 199 rfl rfl
theorem wm_198 : (Jvm.Cond.selects "TrueArms$Arm" ({ cls := "TrueArms$Arm", name := "stand", desc := "(III)I" } : Jvm.MethodName) ({ cls := "TrueArms$Arm", name := "stand", desc := "(III)I" } : Jvm.MethodName)) ∈ wAll := wT_1 200 rfl rfl
theorem wm_199 : (Jvm.Cond.code ({ cls := "TrueArms$Arm", name := "stand", desc := "(III)I" } : Jvm.MethodName) prog_2_method_2_code (7 : Nat) (Option.some Jvm.ClassFile.FieldType.int)) ∈ wAll := wT_1 201 rfl rfl
theorem wm_200 : (Jvm.Cond.methodLink "TrueArms$Arm" (23 : Nat) ({ cls := "TrueArms$Headings", name := "round", desc := "(I)I" } : Jvm.MethodName)) ∈ wAll := wT_1 202 rfl rfl
theorem wm_201 : (Jvm.Cond.static ({ cls := "TrueArms$Headings", name := "round", desc := "(I)I" } : Jvm.MethodName)) ∈ wAll := wT_1 203 rfl rfl
theorem wm_202 : (Jvm.Cond.code ({ cls := "TrueArms$Headings", name := "round", desc := "(I)I" } : Jvm.MethodName) prog_5_method_5_code (1 : Nat) (Option.some Jvm.ClassFile.FieldType.int)) ∈ wAll := wT_1 204 rfl rfl
theorem wm_203 : (Jvm.Cond.methodLink "TrueArms$Arm" (29 : Nat) ({ cls := "TrueArms$Arm", name := "productOf", desc := "(II)I" } : Jvm.MethodName)) ∈ wAll := wT_1 205 rfl rfl
theorem wm_204 : (Jvm.Cond.static ({ cls := "TrueArms$Arm", name := "productOf", desc := "(II)I" } : Jvm.MethodName)) ∈ wAll := wT_1 206 rfl rfl
theorem wm_205 : (Jvm.Cond.code ({ cls := "TrueArms$Arm", name := "productOf", desc := "(II)I" } : Jvm.MethodName) prog_2_method_3_code (2 : Nat) (Option.some Jvm.ClassFile.FieldType.int)) ∈ wAll := wT_1 207 rfl rfl
theorem wm_206 : (Jvm.Cond.methodLink "TrueArms$Arm" (33 : Nat) ({ cls := "TrueArms$Headings", name := "cOf", desc := "(I)I" } : Jvm.MethodName)) ∈ wAll := wT_1 208 rfl rfl
theorem wm_207 : (Jvm.Cond.methodLink "TrueArms$Arm" (36 : Nat) ({ cls := "TrueArms$Headings", name := "sOf", desc := "(I)I" } : Jvm.MethodName)) ∈ wAll := wT_1 209 rfl rfl
theorem wm_208 : (Jvm.Cond.methodLink "TrueArmsLaw" (27 : Nat) ({ cls := "TrueArms", name := "clear", desc := "()I" } : Jvm.MethodName)) ∈ wAll := wT_1 210 rfl rfl
theorem wm_209 : (Jvm.Cond.instanceMethod ({ cls := "TrueArms", name := "clear", desc := "()I" } : Jvm.MethodName)) ∈ wAll := wT_1 211 rfl rfl
theorem wm_210 : (Jvm.Cond.selects "TrueArms" ({ cls := "TrueArms", name := "clear", desc := "()I" } : Jvm.MethodName) ({ cls := "TrueArms", name := "clear", desc := "()I" } : Jvm.MethodName)) ∈ wAll := wT_1 212 rfl rfl
theorem wm_211 : (Jvm.Cond.code ({ cls := "TrueArms", name := "clear", desc := "()I" } : Jvm.MethodName) prog_1_method_5_code (3 : Nat) (Option.some Jvm.ClassFile.FieldType.int)) ∈ wAll := wT_1 213 rfl rfl
theorem wm_212 : (Jvm.Cond.methodLink "TrueArmsLaw" (32 : Nat) ({ cls := "TrueArms", name := "hand", desc := "(II)I" } : Jvm.MethodName)) ∈ wAll := wT_1 214 rfl rfl
theorem wm_213 : (Jvm.Cond.instanceMethod ({ cls := "TrueArms", name := "hand", desc := "(II)I" } : Jvm.MethodName)) ∈ wAll := wT_1 215 rfl rfl
theorem wm_214 : (Jvm.Cond.selects "TrueArms" ({ cls := "TrueArms", name := "hand", desc := "(II)I" } : Jvm.MethodName) ({ cls := "TrueArms", name := "hand", desc := "(II)I" } : Jvm.MethodName)) ∈ wAll := wT_1 216 rfl rfl
theorem wm_215 : (Jvm.Cond.code ({ cls := "TrueArms", name := "hand", desc := "(II)I" } : Jvm.MethodName) prog_1_method_6_code (3 : Nat) (Option.some Jvm.ClassFile.FieldType.int)) ∈ wAll := wT_1 217 rfl rfl
theorem wm_216 : (Jvm.Cond.methodLink "TrueArms" (83 : Nat) ({ cls := "TrueArms", name := "isPosture", desc := "(I)Z" } : Jvm.MethodName)) ∈ wAll := wT_1 218 rfl rfl
theorem wm_217 : (Jvm.Cond.instanceMethod ({ cls := "TrueArms", name := "isPosture", desc := "(I)Z" } : Jvm.MethodName)) ∈ wAll := wT_1 220 rfl rfl
theorem wm_218 : (Jvm.Cond.code ({ cls := "TrueArms", name := "isPosture", desc := "(I)Z" } : Jvm.MethodName) prog_1_method_35_code (2 : Nat) (Option.some Jvm.ClassFile.FieldType.boolean)) ∈ wAll := wT_1 221 rfl rfl
theorem wm_219 : (Jvm.Cond.constant "TrueArms" (87 : Nat) (-2147483648 : Int32)) ∈ wAll := wT_1 222 rfl rfl
theorem wm_220 : (Jvm.Cond.methodLink "TrueArms" (88 : Nat) ({ cls := "TrueArms$Arm", name := "reached", desc := "(II)I" } : Jvm.MethodName)) ∈ wAll := wT_1 223 rfl rfl
theorem wm_221 : (Jvm.Cond.instanceMethod ({ cls := "TrueArms$Arm", name := "reached", desc := "(II)I" } : Jvm.MethodName)) ∈ wAll := wT_1 224 rfl rfl
theorem wm_222 : (Jvm.Cond.selects "TrueArms$Arm" ({ cls := "TrueArms$Arm", name := "reached", desc := "(II)I" } : Jvm.MethodName) ({ cls := "TrueArms$Arm", name := "reached", desc := "(II)I" } : Jvm.MethodName)) ∈ wAll := wT_1 225 rfl rfl
theorem wm_223 : (Jvm.Cond.code ({ cls := "TrueArms$Arm", name := "reached", desc := "(II)I" } : Jvm.MethodName) prog_2_method_4_code (5 : Nat) (Option.some Jvm.ClassFile.FieldType.int)) ∈ wAll := wT_1 226 rfl rfl
theorem wm_224 : (Jvm.Cond.methodLink "TrueArms$Arm" (39 : Nat) ({ cls := "TrueArms$Headings", name := "part", desc := "(II)I" } : Jvm.MethodName)) ∈ wAll := wT_1 227 rfl rfl
theorem wm_225 : (Jvm.Cond.methodLink "TrueArmsLaw" (36 : Nat) ({ cls := "TrueArms", name := "mend", desc := "()I" } : Jvm.MethodName)) ∈ wAll := wT_1 228 rfl rfl
theorem wm_226 : (Jvm.Cond.instanceMethod ({ cls := "TrueArms", name := "mend", desc := "()I" } : Jvm.MethodName)) ∈ wAll := wT_1 229 rfl rfl
theorem wm_227 : (Jvm.Cond.selects "TrueArms" ({ cls := "TrueArms", name := "mend", desc := "()I" } : Jvm.MethodName) ({ cls := "TrueArms", name := "mend", desc := "()I" } : Jvm.MethodName)) ∈ wAll := wT_1 230 rfl rfl
theorem wm_228 : (Jvm.Cond.code ({ cls := "TrueArms", name := "mend", desc := "()I" } : Jvm.MethodName) prog_1_method_7_code (4 : Nat) (Option.some Jvm.ClassFile.FieldType.int)) ∈ wAll := wT_1 231 rfl rfl
theorem wm_229 : (Jvm.Cond.methodLink "TrueArms" (91 : Nat) ({ cls := "TrueArms", name := "sumUsed", desc := "()V" } : Jvm.MethodName)) ∈ wAll := wT_1 232 rfl rfl
theorem wm_230 : (Jvm.Cond.instanceMethod ({ cls := "TrueArms", name := "sumUsed", desc := "()V" } : Jvm.MethodName)) ∈ wAll := wT_1 234 rfl rfl
theorem wm_231 : (Jvm.Cond.code ({ cls := "TrueArms", name := "sumUsed", desc := "()V" } : Jvm.MethodName) prog_1_method_45_code (4 : Nat) (Option.none : Option Jvm.ClassFile.FieldType)) ∈ wAll := wT_1 235 rfl rfl
theorem wm_232 : (Jvm.Cond.methodLink "TrueArms" (126 : Nat) ({ cls := "TrueArms", name := "listUsed", desc := "()I" } : Jvm.MethodName)) ∈ wAll := wT_1 236 rfl rfl
theorem wm_233 : (Jvm.Cond.instanceMethod ({ cls := "TrueArms", name := "listUsed", desc := "()I" } : Jvm.MethodName)) ∈ wAll := wT_1 238 rfl rfl
theorem wm_234 : (Jvm.Cond.code ({ cls := "TrueArms", name := "listUsed", desc := "()I" } : Jvm.MethodName) prog_1_method_44_code (3 : Nat) (Option.some Jvm.ClassFile.FieldType.int)) ∈ wAll := wT_1 239 rfl rfl
theorem wm_235 : (Jvm.Cond.methodLink "TrueArms" (120 : Nat) ({ cls := "TrueArms", name := "isMeasured", desc := "(I)Z" } : Jvm.MethodName)) ∈ wAll := wT_2 0 rfl rfl
theorem wm_236 : (Jvm.Cond.instanceMethod ({ cls := "TrueArms", name := "isMeasured", desc := "(I)Z" } : Jvm.MethodName)) ∈ wAll := wT_2 2 rfl rfl
theorem wm_237 : (Jvm.Cond.code ({ cls := "TrueArms", name := "isMeasured", desc := "(I)Z" } : Jvm.MethodName) prog_1_method_41_code (2 : Nat) (Option.some Jvm.ClassFile.FieldType.boolean)) ∈ wAll := wT_2 3 rfl rfl
theorem wm_238 : (Jvm.Cond.methodLink "TrueArms" (265 : Nat) ({ cls := "TrueArms$Sheet", name := "hasMeasureAt", desc := "(I)Z" } : Jvm.MethodName)) ∈ wAll := wT_2 4 rfl rfl
theorem wm_239 : (Jvm.Cond.instanceMethod ({ cls := "TrueArms$Sheet", name := "hasMeasureAt", desc := "(I)Z" } : Jvm.MethodName)) ∈ wAll := wT_2 5 rfl rfl
theorem wm_240 : (Jvm.Cond.selects "TrueArms$Sheet" ({ cls := "TrueArms$Sheet", name := "hasMeasureAt", desc := "(I)Z" } : Jvm.MethodName) ({ cls := "TrueArms$Sheet", name := "hasMeasureAt", desc := "(I)Z" } : Jvm.MethodName)) ∈ wAll := wT_2 6 rfl rfl
theorem wm_241 : (Jvm.Cond.code ({ cls := "TrueArms$Sheet", name := "hasMeasureAt", desc := "(I)Z" } : Jvm.MethodName) prog_6_method_9_code (2 : Nat) (Option.some Jvm.ClassFile.FieldType.boolean)) ∈ wAll := wT_2 7 rfl rfl
theorem wm_242 : (Jvm.Cond.methodLink "TrueArms$Sheet" (26 : Nat) ({ cls := "TrueArms$Sheet", name := "has", desc := "(I)Z" } : Jvm.MethodName)) ∈ wAll := wT_2 8 rfl rfl
theorem wm_243 : (Jvm.Cond.instanceMethod ({ cls := "TrueArms$Sheet", name := "has", desc := "(I)Z" } : Jvm.MethodName)) ∈ wAll := wT_2 9 rfl rfl
theorem wm_244 : (Jvm.Cond.selects "TrueArms$Sheet" ({ cls := "TrueArms$Sheet", name := "has", desc := "(I)Z" } : Jvm.MethodName) ({ cls := "TrueArms$Sheet", name := "has", desc := "(I)Z" } : Jvm.MethodName)) ∈ wAll := wT_2 10 rfl rfl
theorem wm_245 : (Jvm.Cond.code ({ cls := "TrueArms$Sheet", name := "has", desc := "(I)Z" } : Jvm.MethodName) prog_6_method_7_code (2 : Nat) (Option.some Jvm.ClassFile.FieldType.boolean)) ∈ wAll := wT_2 11 rfl rfl
theorem wm_246 : (Jvm.Cond.methodLink "TrueArms" (273 : Nat) ({ cls := "TrueArms$Sums", name := "forget", desc := "()V" } : Jvm.MethodName)) ∈ wAll := wT_2 12 rfl rfl
theorem wm_247 : (Jvm.Cond.instanceMethod ({ cls := "TrueArms$Sums", name := "forget", desc := "()V" } : Jvm.MethodName)) ∈ wAll := wT_2 13 rfl rfl
theorem wm_248 : (Jvm.Cond.selects "TrueArms$Sums" ({ cls := "TrueArms$Sums", name := "forget", desc := "()V" } : Jvm.MethodName) ({ cls := "TrueArms$Sums", name := "forget", desc := "()V" } : Jvm.MethodName)) ∈ wAll := wT_2 14 rfl rfl
theorem wm_249 : (Jvm.Cond.code ({ cls := "TrueArms$Sums", name := "forget", desc := "()V" } : Jvm.MethodName) prog_8_method_2_code (1 : Nat) (Option.none : Option Jvm.ClassFile.FieldType)) ∈ wAll := wT_2 15 rfl rfl
theorem wm_250 : (Jvm.Cond.methodLink "TrueArms$Sums" (19 : Nat) ({ cls := "java/util/Arrays", name := "fill", desc := "([JJ)V" } : Jvm.MethodName)) ∈ wAll := wT_2 16 rfl rfl
theorem wm_251 : (Jvm.Cond.static ({ cls := "java/util/Arrays", name := "fill", desc := "([JJ)V" } : Jvm.MethodName)) ∈ wAll := wT_2 17 rfl rfl
theorem wm_252 : (Jvm.Cond.code ({ cls := "java/util/Arrays", name := "fill", desc := "([JJ)V" } : Jvm.MethodName) prog_14_method_101_code (5 : Nat) (Option.none : Option Jvm.ClassFile.FieldType)) ∈ wAll := wT_2 18 rfl rfl
theorem wm_253 : (Jvm.Cond.methodLink "TrueArms" (276 : Nat) ({ cls := "TrueArms$Sums", name := "addLeft", desc := "(LTrueArms$Arm;I)V" } : Jvm.MethodName)) ∈ wAll := wT_2 19 rfl rfl
theorem wm_254 : (Jvm.Cond.instanceMethod ({ cls := "TrueArms$Sums", name := "addLeft", desc := "(LTrueArms$Arm;I)V" } : Jvm.MethodName)) ∈ wAll := wT_2 20 rfl rfl
theorem wm_255 : (Jvm.Cond.selects "TrueArms$Sums" ({ cls := "TrueArms$Sums", name := "addLeft", desc := "(LTrueArms$Arm;I)V" } : Jvm.MethodName) ({ cls := "TrueArms$Sums", name := "addLeft", desc := "(LTrueArms$Arm;I)V" } : Jvm.MethodName)) ∈ wAll := wT_2 21 rfl rfl
theorem wm_256 : (Jvm.Cond.code ({ cls := "TrueArms$Sums", name := "addLeft", desc := "(LTrueArms$Arm;I)V" } : Jvm.MethodName) prog_8_method_3_code (4 : Nat) (Option.none : Option Jvm.ClassFile.FieldType)) ∈ wAll := wT_2 22 rfl rfl
theorem wm_257 : (Jvm.Cond.methodLink "TrueArms" (123 : Nat) ({ cls := "TrueArms", name := "measured", desc := "(II)I" } : Jvm.MethodName)) ∈ wAll := wT_2 23 rfl rfl
theorem wm_258 : (Jvm.Cond.instanceMethod ({ cls := "TrueArms", name := "measured", desc := "(II)I" } : Jvm.MethodName)) ∈ wAll := wT_2 25 rfl rfl
theorem wm_259 : (Jvm.Cond.code ({ cls := "TrueArms", name := "measured", desc := "(II)I" } : Jvm.MethodName) prog_1_method_42_code (3 : Nat) (Option.some Jvm.ClassFile.FieldType.int)) ∈ wAll := wT_2 26 rfl rfl
theorem wm_260 : (Jvm.Cond.methodLink "TrueArms" (280 : Nat) ({ cls := "TrueArms$Sums", name := "addRight", desc := "(LTrueArms$Arm;III)V" } : Jvm.MethodName)) ∈ wAll := wT_2 27 rfl rfl
theorem wm_261 : (Jvm.Cond.instanceMethod ({ cls := "TrueArms$Sums", name := "addRight", desc := "(LTrueArms$Arm;III)V" } : Jvm.MethodName)) ∈ wAll := wT_2 28 rfl rfl
theorem wm_262 : (Jvm.Cond.selects "TrueArms$Sums" ({ cls := "TrueArms$Sums", name := "addRight", desc := "(LTrueArms$Arm;III)V" } : Jvm.MethodName) ({ cls := "TrueArms$Sums", name := "addRight", desc := "(LTrueArms$Arm;III)V" } : Jvm.MethodName)) ∈ wAll := wT_2 29 rfl rfl
theorem wm_263 : (Jvm.Cond.code ({ cls := "TrueArms$Sums", name := "addRight", desc := "(LTrueArms$Arm;III)V" } : Jvm.MethodName) prog_8_method_4_code (7 : Nat) (Option.none : Option Jvm.ClassFile.FieldType)) ∈ wAll := wT_2 30 rfl rfl
theorem wm_264 : (Jvm.Cond.methodLink "TrueArms$Sums" (34 : Nat) ({ cls := "TrueArms$Headings", name := "cOf", desc := "(I)I" } : Jvm.MethodName)) ∈ wAll := wT_2 31 rfl rfl
theorem wm_265 : (Jvm.Cond.methodLink "TrueArms$Sums" (40 : Nat) ({ cls := "TrueArms$Headings", name := "sOf", desc := "(I)I" } : Jvm.MethodName)) ∈ wAll := wT_2 32 rfl rfl
theorem wm_266 : (Jvm.Cond.methodLink "TrueArms" (94 : Nat) ({ cls := "TrueArms$Sums", name := "rankOfAll", desc := "()I" } : Jvm.MethodName)) ∈ wAll := wT_2 33 rfl rfl
theorem wm_267 : (Jvm.Cond.instanceMethod ({ cls := "TrueArms$Sums", name := "rankOfAll", desc := "()I" } : Jvm.MethodName)) ∈ wAll := wT_2 34 rfl rfl
theorem wm_268 : (Jvm.Cond.selects "TrueArms$Sums" ({ cls := "TrueArms$Sums", name := "rankOfAll", desc := "()I" } : Jvm.MethodName) ({ cls := "TrueArms$Sums", name := "rankOfAll", desc := "()I" } : Jvm.MethodName)) ∈ wAll := wT_2 35 rfl rfl
theorem wm_269 : (Jvm.Cond.code ({ cls := "TrueArms$Sums", name := "rankOfAll", desc := "()I" } : Jvm.MethodName) prog_8_method_8_code (1 : Nat) (Option.some Jvm.ClassFile.FieldType.int)) ∈ wAll := wT_2 36 rfl rfl
theorem wm_270 : (Jvm.Cond.methodLink "TrueArms$Sums" (47 : Nat) ({ cls := "TrueArms$Sums", name := "determinant", desc := "()J" } : Jvm.MethodName)) ∈ wAll := wT_2 37 rfl rfl
theorem wm_271 : (Jvm.Cond.instanceMethod ({ cls := "TrueArms$Sums", name := "determinant", desc := "()J" } : Jvm.MethodName)) ∈ wAll := wT_2 38 rfl rfl
theorem wm_272 : (Jvm.Cond.selects "TrueArms$Sums" ({ cls := "TrueArms$Sums", name := "determinant", desc := "()J" } : Jvm.MethodName) ({ cls := "TrueArms$Sums", name := "determinant", desc := "()J" } : Jvm.MethodName)) ∈ wAll := wT_2 39 rfl rfl
theorem wm_273 : (Jvm.Cond.code ({ cls := "TrueArms$Sums", name := "determinant", desc := "()J" } : Jvm.MethodName) prog_8_method_5_code (1 : Nat) (Option.some Jvm.ClassFile.FieldType.long)) ∈ wAll := wT_2 40 rfl rfl
theorem wm_274 : (Jvm.Cond.methodLink "TrueArms$Sums" (43 : Nat) ({ cls := "TrueArms$Sums", name := "determinantOf", desc := "([J)J" } : Jvm.MethodName)) ∈ wAll := wT_2 41 rfl rfl
theorem wm_275 : (Jvm.Cond.static ({ cls := "TrueArms$Sums", name := "determinantOf", desc := "([J)J" } : Jvm.MethodName)) ∈ wAll := wT_2 42 rfl rfl
theorem wm_276 : (Jvm.Cond.code ({ cls := "TrueArms$Sums", name := "determinantOf", desc := "([J)J" } : Jvm.MethodName) prog_8_method_6_code (1 : Nat) (Option.some Jvm.ClassFile.FieldType.long)) ∈ wAll := wT_2 43 rfl rfl
theorem wm_277 : (Jvm.Cond.methodLink "TrueArms$Sums" (51 : Nat) ({ cls := "TrueArms$Sums", name := "rankWithout", desc := "(I)I" } : Jvm.MethodName)) ∈ wAll := wT_2 44 rfl rfl
theorem wm_278 : (Jvm.Cond.instanceMethod ({ cls := "TrueArms$Sums", name := "rankWithout", desc := "(I)I" } : Jvm.MethodName)) ∈ wAll := wT_2 46 rfl rfl
theorem wm_279 : (Jvm.Cond.code ({ cls := "TrueArms$Sums", name := "rankWithout", desc := "(I)I" } : Jvm.MethodName) prog_8_method_9_code (10 : Nat) (Option.some Jvm.ClassFile.FieldType.int)) ∈ wAll := wT_2 47 rfl rfl
theorem wm_280 : (Jvm.Cond.methodLink "TrueArms$Sums" (54 : Nat) ({ cls := "java/lang/Math", name := "max", desc := "(II)I" } : Jvm.MethodName)) ∈ wAll := wT_2 48 rfl rfl
theorem wm_281 : (Jvm.Cond.static ({ cls := "java/lang/Math", name := "max", desc := "(II)I" } : Jvm.MethodName)) ∈ wAll := wT_2 49 rfl rfl
theorem wm_282 : (Jvm.Cond.code ({ cls := "java/lang/Math", name := "max", desc := "(II)I" } : Jvm.MethodName) prog_12_method_65_code (2 : Nat) (Option.some Jvm.ClassFile.FieldType.int)) ∈ wAll := wT_2 50 rfl rfl
theorem wm_283 : (Jvm.Cond.methodLink "TrueArms" (98 : Nat) ({ cls := "TrueArms$Sums", name := "fitted", desc := "(I)J" } : Jvm.MethodName)) ∈ wAll := wT_2 51 rfl rfl
theorem wm_284 : (Jvm.Cond.instanceMethod ({ cls := "TrueArms$Sums", name := "fitted", desc := "(I)J" } : Jvm.MethodName)) ∈ wAll := wT_2 52 rfl rfl
theorem wm_285 : (Jvm.Cond.selects "TrueArms$Sums" ({ cls := "TrueArms$Sums", name := "fitted", desc := "(I)J" } : Jvm.MethodName) ({ cls := "TrueArms$Sums", name := "fitted", desc := "(I)J" } : Jvm.MethodName)) ∈ wAll := wT_2 53 rfl rfl
theorem wm_286 : (Jvm.Cond.code ({ cls := "TrueArms$Sums", name := "fitted", desc := "(I)J" } : Jvm.MethodName) prog_8_method_11_code (10 : Nat) (Option.some Jvm.ClassFile.FieldType.long)) ∈ wAll := wT_2 54 rfl rfl
theorem wm_287 : (Jvm.Cond.methodLink "TrueArms$Sums" (64 : Nat) ({ cls := "TrueArms$Sums", name := "determinantWithRight", desc := "(I)J" } : Jvm.MethodName)) ∈ wAll := wT_2 55 rfl rfl
theorem wm_288 : (Jvm.Cond.instanceMethod ({ cls := "TrueArms$Sums", name := "determinantWithRight", desc := "(I)J" } : Jvm.MethodName)) ∈ wAll := wT_2 57 rfl rfl
theorem wm_289 : (Jvm.Cond.code ({ cls := "TrueArms$Sums", name := "determinantWithRight", desc := "(I)J" } : Jvm.MethodName) prog_8_method_7_code (3 : Nat) (Option.some Jvm.ClassFile.FieldType.long)) ∈ wAll := wT_2 58 rfl rfl
theorem wm_290 : (Jvm.Cond.methodLink "TrueArms$Sums" (68 : Nat) ({ cls := "java/lang/Math", name := "floorDiv", desc := "(JJ)J" } : Jvm.MethodName)) ∈ wAll := wT_2 59 rfl rfl
theorem wm_291 : (Jvm.Cond.static ({ cls := "java/lang/Math", name := "floorDiv", desc := "(JJ)J" } : Jvm.MethodName)) ∈ wAll := wT_2 60 rfl rfl
theorem wm_292 : (Jvm.Cond.code ({ cls := "java/lang/Math", name := "floorDiv", desc := "(JJ)J" } : Jvm.MethodName) prog_12_method_49_code (6 : Nat) (Option.some Jvm.ClassFile.FieldType.long)) ∈ wAll := wT_2 61 rfl rfl
theorem wm_293 : (Jvm.Cond.constantLong "TrueArms$Sums" (72 : Nat) (6500 : Int64)) ∈ wAll := wT_2 62 rfl rfl
theorem wm_294 : (Jvm.Cond.constantLong "TrueArms" (102 : Nat) (50 : Int64)) ∈ wAll := wT_2 63 rfl rfl
theorem wm_295 : (Jvm.Cond.constantLong "TrueArms" (104 : Nat) (100 : Int64)) ∈ wAll := wT_2 64 rfl rfl
theorem wm_296 : (Jvm.Cond.methodLink "TrueArms" (106 : Nat) ({ cls := "java/lang/Math", name := "floorDiv", desc := "(JJ)J" } : Jvm.MethodName)) ∈ wAll := wT_2 65 rfl rfl
theorem wm_297 : (Jvm.Cond.constantLong "TrueArms" (112 : Nat) (999 : Int64)) ∈ wAll := wT_2 66 rfl rfl
theorem wm_298 : (Jvm.Cond.methodLink "TrueArms" (114 : Nat) ({ cls := "java/lang/Math", name := "min", desc := "(JJ)J" } : Jvm.MethodName)) ∈ wAll := wT_2 67 rfl rfl
theorem wm_299 : (Jvm.Cond.static ({ cls := "java/lang/Math", name := "min", desc := "(JJ)J" } : Jvm.MethodName)) ∈ wAll := wT_2 68 rfl rfl
theorem wm_300 : (Jvm.Cond.code ({ cls := "java/lang/Math", name := "min", desc := "(JJ)J" } : Jvm.MethodName) prog_12_method_70_code (4 : Nat) (Option.some Jvm.ClassFile.FieldType.long)) ∈ wAll := wT_2 69 rfl rfl
theorem wm_301 : (Jvm.Cond.methodLink "TrueArms" (117 : Nat) ({ cls := "java/lang/Math", name := "max", desc := "(JJ)J" } : Jvm.MethodName)) ∈ wAll := wT_2 70 rfl rfl
theorem wm_302 : (Jvm.Cond.static ({ cls := "java/lang/Math", name := "max", desc := "(JJ)J" } : Jvm.MethodName)) ∈ wAll := wT_2 71 rfl rfl
theorem wm_303 : (Jvm.Cond.code ({ cls := "java/lang/Math", name := "max", desc := "(JJ)J" } : Jvm.MethodName) prog_12_method_66_code (4 : Nat) (Option.some Jvm.ClassFile.FieldType.long)) ∈ wAll := wT_2 72 rfl rfl
theorem wm_304 : (Jvm.Cond.methodLink "TrueArmsLaw" (40 : Nat) ({ cls := "TrueArms", name := "measure", desc := "(II)I" } : Jvm.MethodName)) ∈ wAll := wT_2 73 rfl rfl
theorem wm_305 : (Jvm.Cond.instanceMethod ({ cls := "TrueArms", name := "measure", desc := "(II)I" } : Jvm.MethodName)) ∈ wAll := wT_2 74 rfl rfl
theorem wm_306 : (Jvm.Cond.selects "TrueArms" ({ cls := "TrueArms", name := "measure", desc := "(II)I" } : Jvm.MethodName) ({ cls := "TrueArms", name := "measure", desc := "(II)I" } : Jvm.MethodName)) ∈ wAll := wT_2 75 rfl rfl
theorem wm_307 : (Jvm.Cond.code ({ cls := "TrueArms", name := "measure", desc := "(II)I" } : Jvm.MethodName) prog_1_method_8_code (3 : Nat) (Option.some Jvm.ClassFile.FieldType.int)) ∈ wAll := wT_2 76 rfl rfl
theorem wm_308 : (Jvm.Cond.methodLink "TrueArmsLaw" (44 : Nat) ({ cls := "TrueArms", name := "leave", desc := "(IZ)I" } : Jvm.MethodName)) ∈ wAll := wT_2 77 rfl rfl
theorem wm_309 : (Jvm.Cond.instanceMethod ({ cls := "TrueArms", name := "leave", desc := "(IZ)I" } : Jvm.MethodName)) ∈ wAll := wT_2 78 rfl rfl
theorem wm_310 : (Jvm.Cond.selects "TrueArms" ({ cls := "TrueArms", name := "leave", desc := "(IZ)I" } : Jvm.MethodName) ({ cls := "TrueArms", name := "leave", desc := "(IZ)I" } : Jvm.MethodName)) ∈ wAll := wT_2 79 rfl rfl
theorem wm_311 : (Jvm.Cond.code ({ cls := "TrueArms", name := "leave", desc := "(IZ)I" } : Jvm.MethodName) prog_1_method_9_code (3 : Nat) (Option.some Jvm.ClassFile.FieldType.int)) ∈ wAll := wT_2 80 rfl rfl
theorem wm_312 : (Jvm.Cond.methodLink "TrueArmsLaw" (49 : Nat) ({ cls := "TrueArms", name := "used", desc := "()I" } : Jvm.MethodName)) ∈ wAll := wT_2 81 rfl rfl
theorem wm_313 : (Jvm.Cond.instanceMethod ({ cls := "TrueArms", name := "used", desc := "()I" } : Jvm.MethodName)) ∈ wAll := wT_2 82 rfl rfl
theorem wm_314 : (Jvm.Cond.selects "TrueArms" ({ cls := "TrueArms", name := "used", desc := "()I" } : Jvm.MethodName) ({ cls := "TrueArms", name := "used", desc := "()I" } : Jvm.MethodName)) ∈ wAll := wT_2 83 rfl rfl
theorem wm_315 : (Jvm.Cond.code ({ cls := "TrueArms", name := "used", desc := "()I" } : Jvm.MethodName) prog_1_method_10_code (1 : Nat) (Option.some Jvm.ClassFile.FieldType.int)) ∈ wAll := wT_2 84 rfl rfl
theorem wm_316 : (Jvm.Cond.methodLink "TrueArmsLaw" (53 : Nat) ({ cls := "TrueArms", name := "table", desc := "(II)J" } : Jvm.MethodName)) ∈ wAll := wT_2 85 rfl rfl
theorem wm_317 : (Jvm.Cond.instanceMethod ({ cls := "TrueArms", name := "table", desc := "(II)J" } : Jvm.MethodName)) ∈ wAll := wT_2 86 rfl rfl
theorem wm_318 : (Jvm.Cond.selects "TrueArms" ({ cls := "TrueArms", name := "table", desc := "(II)J" } : Jvm.MethodName) ({ cls := "TrueArms", name := "table", desc := "(II)J" } : Jvm.MethodName)) ∈ wAll := wT_2 87 rfl rfl
theorem wm_319 : (Jvm.Cond.code ({ cls := "TrueArms", name := "table", desc := "(II)J" } : Jvm.MethodName) prog_1_method_11_code (3 : Nat) (Option.some Jvm.ClassFile.FieldType.long)) ∈ wAll := wT_2 88 rfl rfl
theorem wm_320 : (Jvm.Cond.constantLong "TrueArms" (129 : Nat) (-9223372036854775806 : Int64)) ∈ wAll := wT_2 89 rfl rfl
theorem wm_321 : (Jvm.Cond.methodLink "TrueArmsLaw" (58 : Nat) ({ cls := "TrueArms", name := "rank", desc := "()I" } : Jvm.MethodName)) ∈ wAll := wT_2 90 rfl rfl
theorem wm_322 : (Jvm.Cond.instanceMethod ({ cls := "TrueArms", name := "rank", desc := "()I" } : Jvm.MethodName)) ∈ wAll := wT_2 91 rfl rfl
theorem wm_323 : (Jvm.Cond.selects "TrueArms" ({ cls := "TrueArms", name := "rank", desc := "()I" } : Jvm.MethodName) ({ cls := "TrueArms", name := "rank", desc := "()I" } : Jvm.MethodName)) ∈ wAll := wT_2 92 rfl rfl
theorem wm_324 : (Jvm.Cond.code ({ cls := "TrueArms", name := "rank", desc := "()I" } : Jvm.MethodName) prog_1_method_12_code (1 : Nat) (Option.some Jvm.ClassFile.FieldType.int)) ∈ wAll := wT_2 93 rfl rfl
theorem wm_325 : (Jvm.Cond.methodLink "TrueArmsLaw" (62 : Nat) ({ cls := "TrueArms", name := "told", desc := "(I)I" } : Jvm.MethodName)) ∈ wAll := wT_2 94 rfl rfl
theorem wm_326 : (Jvm.Cond.instanceMethod ({ cls := "TrueArms", name := "told", desc := "(I)I" } : Jvm.MethodName)) ∈ wAll := wT_2 95 rfl rfl
theorem wm_327 : (Jvm.Cond.selects "TrueArms" ({ cls := "TrueArms", name := "told", desc := "(I)I" } : Jvm.MethodName) ({ cls := "TrueArms", name := "told", desc := "(I)I" } : Jvm.MethodName)) ∈ wAll := wT_2 96 rfl rfl
theorem wm_328 : (Jvm.Cond.code ({ cls := "TrueArms", name := "told", desc := "(I)I" } : Jvm.MethodName) prog_1_method_13_code (2 : Nat) (Option.some Jvm.ClassFile.FieldType.int)) ∈ wAll := wT_2 97 rfl rfl
theorem wm_329 : (Jvm.Cond.methodLink "TrueArms" (135 : Nat) ({ cls := "TrueArms$Sums", name := "tells", desc := "(I)Z" } : Jvm.MethodName)) ∈ wAll := wT_2 98 rfl rfl
theorem wm_330 : (Jvm.Cond.instanceMethod ({ cls := "TrueArms$Sums", name := "tells", desc := "(I)Z" } : Jvm.MethodName)) ∈ wAll := wT_2 99 rfl rfl
theorem wm_331 : (Jvm.Cond.selects "TrueArms$Sums" ({ cls := "TrueArms$Sums", name := "tells", desc := "(I)Z" } : Jvm.MethodName) ({ cls := "TrueArms$Sums", name := "tells", desc := "(I)Z" } : Jvm.MethodName)) ∈ wAll := wT_2 100 rfl rfl
theorem wm_332 : (Jvm.Cond.code ({ cls := "TrueArms$Sums", name := "tells", desc := "(I)Z" } : Jvm.MethodName) prog_8_method_10_code (2 : Nat) (Option.some Jvm.ClassFile.FieldType.boolean)) ∈ wAll := wT_2 101 rfl rfl
theorem wm_333 : (Jvm.Cond.methodLink "TrueArms$Sums" (60 : Nat) ({ cls := "TrueArms$Sums", name := "rankOfAll", desc := "()I" } : Jvm.MethodName)) ∈ wAll := wT_2 102 rfl rfl
theorem wm_334 : (Jvm.Cond.methodLink "TrueArmsLaw" (67 : Nat) ({ cls := "TrueArms", name := "fit", desc := "(I)J" } : Jvm.MethodName)) ∈ wAll := wT_2 103 rfl rfl
theorem wm_335 : (Jvm.Cond.instanceMethod ({ cls := "TrueArms", name := "fit", desc := "(I)J" } : Jvm.MethodName)) ∈ wAll := wT_2 104 rfl rfl
theorem wm_336 : (Jvm.Cond.selects "TrueArms" ({ cls := "TrueArms", name := "fit", desc := "(I)J" } : Jvm.MethodName) ({ cls := "TrueArms", name := "fit", desc := "(I)J" } : Jvm.MethodName)) ∈ wAll := wT_2 105 rfl rfl
theorem wm_337 : (Jvm.Cond.code ({ cls := "TrueArms", name := "fit", desc := "(I)J" } : Jvm.MethodName) prog_1_method_14_code (2 : Nat) (Option.some Jvm.ClassFile.FieldType.long)) ∈ wAll := wT_2 106 rfl rfl
theorem wm_338 : (Jvm.Cond.constantLong "TrueArms" (138 : Nat) (-9223372036854775805 : Int64)) ∈ wAll := wT_2 107 rfl rfl
theorem wm_339 : (Jvm.Cond.methodLink "TrueArmsLaw" (72 : Nat) ({ cls := "TrueArms", name := "miss", desc := "(I)I" } : Jvm.MethodName)) ∈ wAll := wT_2 108 rfl rfl
theorem wm_340 : (Jvm.Cond.instanceMethod ({ cls := "TrueArms", name := "miss", desc := "(I)I" } : Jvm.MethodName)) ∈ wAll := wT_2 109 rfl rfl
theorem wm_341 : (Jvm.Cond.selects "TrueArms" ({ cls := "TrueArms", name := "miss", desc := "(I)I" } : Jvm.MethodName) ({ cls := "TrueArms", name := "miss", desc := "(I)I" } : Jvm.MethodName)) ∈ wAll := wT_2 110 rfl rfl
theorem wm_342 : (Jvm.Cond.code ({ cls := "TrueArms", name := "miss", desc := "(I)I" } : Jvm.MethodName) prog_1_method_15_code (2 : Nat) (Option.some Jvm.ClassFile.FieldType.int)) ∈ wAll := wT_2 111 rfl rfl
theorem wm_343 : (Jvm.Cond.methodLink "TrueArms" (140 : Nat) ({ cls := "TrueArms", name := "missOf", desc := "(I)I" } : Jvm.MethodName)) ∈ wAll := wT_2 112 rfl rfl
theorem wm_344 : (Jvm.Cond.instanceMethod ({ cls := "TrueArms", name := "missOf", desc := "(I)I" } : Jvm.MethodName)) ∈ wAll := wT_2 114 rfl rfl
theorem wm_345 : (Jvm.Cond.code ({ cls := "TrueArms", name := "missOf", desc := "(I)I" } : Jvm.MethodName) prog_1_method_43_code (4 : Nat) (Option.some Jvm.ClassFile.FieldType.int)) ∈ wAll := wT_2 115 rfl rfl
theorem wm_346 : (Jvm.Cond.methodLink "TrueArms" (268 : Nat) ({ cls := "java/lang/Math", name := "abs", desc := "(I)I" } : Jvm.MethodName)) ∈ wAll := wT_2 116 rfl rfl
theorem wm_347 : (Jvm.Cond.static ({ cls := "java/lang/Math", name := "abs", desc := "(I)I" } : Jvm.MethodName)) ∈ wAll := wT_2 117 rfl rfl
theorem wm_348 : (Jvm.Cond.code ({ cls := "java/lang/Math", name := "abs", desc := "(I)I" } : Jvm.MethodName) prog_12_method_59_code (1 : Nat) (Option.some Jvm.ClassFile.FieldType.int)) ∈ wAll := wT_2 118 rfl rfl
theorem wm_349 : (Jvm.Cond.methodLink "TrueArms" (271 : Nat) ({ cls := "java/lang/Math", name := "max", desc := "(II)I" } : Jvm.MethodName)) ∈ wAll := wT_2 119 rfl rfl
theorem wm_350 : (Jvm.Cond.methodLink "TrueArmsLaw" (76 : Nat) ({ cls := "TrueArms", name := "worst", desc := "()I" } : Jvm.MethodName)) ∈ wAll := wT_2 120 rfl rfl
theorem wm_351 : (Jvm.Cond.instanceMethod ({ cls := "TrueArms", name := "worst", desc := "()I" } : Jvm.MethodName)) ∈ wAll := wT_2 121 rfl rfl
theorem wm_352 : (Jvm.Cond.selects "TrueArms" ({ cls := "TrueArms", name := "worst", desc := "()I" } : Jvm.MethodName) ({ cls := "TrueArms", name := "worst", desc := "()I" } : Jvm.MethodName)) ∈ wAll := wT_2 122 rfl rfl
theorem wm_353 : (Jvm.Cond.code ({ cls := "TrueArms", name := "worst", desc := "()I" } : Jvm.MethodName) prog_1_method_16_code (6 : Nat) (Option.some Jvm.ClassFile.FieldType.int)) ∈ wAll := wT_2 123 rfl rfl
theorem wm_354 : (Jvm.Cond.methodLink "TrueArmsLaw" (80 : Nat) ({ cls := "TrueArms", name := "best", desc := "(I)I" } : Jvm.MethodName)) ∈ wAll := wT_2 124 rfl rfl
theorem wm_355 : (Jvm.Cond.instanceMethod ({ cls := "TrueArms", name := "best", desc := "(I)I" } : Jvm.MethodName)) ∈ wAll := wT_2 125 rfl rfl
theorem wm_356 : (Jvm.Cond.selects "TrueArms" ({ cls := "TrueArms", name := "best", desc := "(I)I" } : Jvm.MethodName) ({ cls := "TrueArms", name := "best", desc := "(I)I" } : Jvm.MethodName)) ∈ wAll := wT_2 126 rfl rfl
theorem wm_357 : (Jvm.Cond.code ({ cls := "TrueArms", name := "best", desc := "(I)I" } : Jvm.MethodName) prog_1_method_17_code (9 : Nat) (Option.some Jvm.ClassFile.FieldType.int)) ∈ wAll := wT_2 127 rfl rfl
theorem wm_358 : (Jvm.Cond.methodLink "TrueArms" (144 : Nat) ({ cls := "TrueArms", name := "choosableSets", desc := "()I" } : Jvm.MethodName)) ∈ wAll := wT_2 128 rfl rfl
theorem wm_359 : (Jvm.Cond.instanceMethod ({ cls := "TrueArms", name := "choosableSets", desc := "()I" } : Jvm.MethodName)) ∈ wAll := wT_2 130 rfl rfl
theorem wm_360 : (Jvm.Cond.code ({ cls := "TrueArms", name := "choosableSets", desc := "()I" } : Jvm.MethodName) prog_1_method_46_code (1 : Nat) (Option.some Jvm.ClassFile.FieldType.int)) ∈ wAll := wT_2 131 rfl rfl
theorem wm_361 : (Jvm.Cond.methodLink "TrueArms" (284 : Nat) ({ cls := "java/lang/Math", name := "min", desc := "(II)I" } : Jvm.MethodName)) ∈ wAll := wT_2 132 rfl rfl
theorem wm_362 : (Jvm.Cond.static ({ cls := "java/lang/Math", name := "min", desc := "(II)I" } : Jvm.MethodName)) ∈ wAll := wT_2 133 rfl rfl
theorem wm_363 : (Jvm.Cond.code ({ cls := "java/lang/Math", name := "min", desc := "(II)I" } : Jvm.MethodName) prog_12_method_69_code (2 : Nat) (Option.some Jvm.ClassFile.FieldType.int)) ∈ wAll := wT_2 134 rfl rfl
theorem wm_364 : (Jvm.Cond.methodLink "TrueArms" (147 : Nat) ({ cls := "java/lang/Integer", name := "bitCount", desc := "(I)I" } : Jvm.MethodName)) ∈ wAll := wT_2 135 rfl rfl
theorem wm_365 : (Jvm.Cond.static ({ cls := "java/lang/Integer", name := "bitCount", desc := "(I)I" } : Jvm.MethodName)) ∈ wAll := wT_2 136 rfl rfl
theorem wm_366 : (Jvm.Cond.code ({ cls := "java/lang/Integer", name := "bitCount", desc := "(I)I" } : Jvm.MethodName) prog_11_method_49_code (1 : Nat) (Option.some Jvm.ClassFile.FieldType.int)) ∈ wAll := wT_2 137 rfl rfl
theorem wm_367 : (Jvm.Cond.constant "java/lang/Integer" (265 : Nat) (1431655765 : Int32)) ∈ wAll := wT_2 138 rfl rfl
theorem wm_368 : (Jvm.Cond.constant "java/lang/Integer" (266 : Nat) (858993459 : Int32)) ∈ wAll := wT_2 139 rfl rfl
theorem wm_369 : (Jvm.Cond.constant "java/lang/Integer" (267 : Nat) (252645135 : Int32)) ∈ wAll := wT_2 140 rfl rfl
theorem wm_370 : (Jvm.Cond.methodLink "TrueArms" (152 : Nat) ({ cls := "TrueArms", name := "weightOf", desc := "(I)J" } : Jvm.MethodName)) ∈ wAll := wT_2 141 rfl rfl
theorem wm_371 : (Jvm.Cond.instanceMethod ({ cls := "TrueArms", name := "weightOf", desc := "(I)J" } : Jvm.MethodName)) ∈ wAll := wT_2 143 rfl rfl
theorem wm_372 : (Jvm.Cond.code ({ cls := "TrueArms", name := "weightOf", desc := "(I)J" } : Jvm.MethodName) prog_1_method_47_code (3 : Nat) (Option.some Jvm.ClassFile.FieldType.long)) ∈ wAll := wT_2 144 rfl rfl
theorem wm_373 : (Jvm.Cond.methodLink "TrueArms" (286 : Nat) ({ cls := "TrueArms$Sums", name := "determinant", desc := "()J" } : Jvm.MethodName)) ∈ wAll := wT_2 145 rfl rfl
theorem wm_374 : (Jvm.Cond.methodLink "TrueArmsLaw" (84 : Nat) ({ cls := "TrueArms", name := "weight", desc := "(I)J" } : Jvm.MethodName)) ∈ wAll := wT_2 146 rfl rfl
theorem wm_375 : (Jvm.Cond.instanceMethod ({ cls := "TrueArms", name := "weight", desc := "(I)J" } : Jvm.MethodName)) ∈ wAll := wT_2 147 rfl rfl
theorem wm_376 : (Jvm.Cond.selects "TrueArms" ({ cls := "TrueArms", name := "weight", desc := "(I)J" } : Jvm.MethodName) ({ cls := "TrueArms", name := "weight", desc := "(I)J" } : Jvm.MethodName)) ∈ wAll := wT_2 148 rfl rfl
theorem wm_377 : (Jvm.Cond.code ({ cls := "TrueArms", name := "weight", desc := "(I)J" } : Jvm.MethodName) prog_1_method_18_code (2 : Nat) (Option.some Jvm.ClassFile.FieldType.long)) ∈ wAll := wT_2 149 rfl rfl
theorem wm_378 : (Jvm.Cond.methodLink "TrueArmsLaw" (88 : Nat) ({ cls := "TrueArms", name := "pair", desc := "(IIII)I" } : Jvm.MethodName)) ∈ wAll := wT_2 150 rfl rfl
theorem wm_379 : (Jvm.Cond.instanceMethod ({ cls := "TrueArms", name := "pair", desc := "(IIII)I" } : Jvm.MethodName)) ∈ wAll := wT_2 151 rfl rfl
theorem wm_380 : (Jvm.Cond.selects "TrueArms" ({ cls := "TrueArms", name := "pair", desc := "(IIII)I" } : Jvm.MethodName) ({ cls := "TrueArms", name := "pair", desc := "(IIII)I" } : Jvm.MethodName)) ∈ wAll := wT_2 152 rfl rfl
theorem wm_381 : (Jvm.Cond.code ({ cls := "TrueArms", name := "pair", desc := "(IIII)I" } : Jvm.MethodName) prog_1_method_19_code (5 : Nat) (Option.some Jvm.ClassFile.FieldType.int)) ∈ wAll := wT_2 153 rfl rfl
theorem wm_382 : (Jvm.Cond.methodLink "TrueArms" (155 : Nat) ({ cls := "TrueArms$Camera", name := "mayBe", desc := "(I)Z" } : Jvm.MethodName)) ∈ wAll := wT_2 154 rfl rfl
theorem wm_383 : (Jvm.Cond.static ({ cls := "TrueArms$Camera", name := "mayBe", desc := "(I)Z" } : Jvm.MethodName)) ∈ wAll := wT_2 155 rfl rfl
theorem wm_384 : (Jvm.Cond.code ({ cls := "TrueArms$Camera", name := "mayBe", desc := "(I)Z" } : Jvm.MethodName) prog_3_method_2_code (1 : Nat) (Option.some Jvm.ClassFile.FieldType.boolean)) ∈ wAll := wT_2 156 rfl rfl
theorem wm_385 : (Jvm.Cond.methodLink "TrueArms" (161 : Nat) ({ cls := "TrueArms$Camera", name := "see", desc := "(IIII)I" } : Jvm.MethodName)) ∈ wAll := wT_2 157 rfl rfl
theorem wm_386 : (Jvm.Cond.instanceMethod ({ cls := "TrueArms$Camera", name := "see", desc := "(IIII)I" } : Jvm.MethodName)) ∈ wAll := wT_2 158 rfl rfl
theorem wm_387 : (Jvm.Cond.selects "TrueArms$Camera" ({ cls := "TrueArms$Camera", name := "see", desc := "(IIII)I" } : Jvm.MethodName) ({ cls := "TrueArms$Camera", name := "see", desc := "(IIII)I" } : Jvm.MethodName)) ∈ wAll := wT_2 159 rfl rfl
theorem wm_388 : (Jvm.Cond.code ({ cls := "TrueArms$Camera", name := "see", desc := "(IIII)I" } : Jvm.MethodName) prog_3_method_3_code (5 : Nat) (Option.some Jvm.ClassFile.FieldType.int)) ∈ wAll := wT_2 160 rfl rfl
theorem wm_389 : (Jvm.Cond.methodLink "TrueArmsLaw" (93 : Nat) ({ cls := "TrueArms", name := "shut", desc := "()I" } : Jvm.MethodName)) ∈ wAll := wT_2 161 rfl rfl
theorem wm_390 : (Jvm.Cond.instanceMethod ({ cls := "TrueArms", name := "shut", desc := "()I" } : Jvm.MethodName)) ∈ wAll := wT_2 162 rfl rfl
theorem wm_391 : (Jvm.Cond.selects "TrueArms" ({ cls := "TrueArms", name := "shut", desc := "()I" } : Jvm.MethodName) ({ cls := "TrueArms", name := "shut", desc := "()I" } : Jvm.MethodName)) ∈ wAll := wT_2 163 rfl rfl
theorem wm_392 : (Jvm.Cond.code ({ cls := "TrueArms", name := "shut", desc := "()I" } : Jvm.MethodName) prog_1_method_20_code (2 : Nat) (Option.some Jvm.ClassFile.FieldType.int)) ∈ wAll := wT_2 164 rfl rfl
theorem wm_393 : (Jvm.Cond.methodLink "TrueArmsLaw" (97 : Nat) ({ cls := "TrueArms", name := "answers", desc := "()I" } : Jvm.MethodName)) ∈ wAll := wT_2 165 rfl rfl
theorem wm_394 : (Jvm.Cond.instanceMethod ({ cls := "TrueArms", name := "answers", desc := "()I" } : Jvm.MethodName)) ∈ wAll := wT_2 166 rfl rfl
theorem wm_395 : (Jvm.Cond.selects "TrueArms" ({ cls := "TrueArms", name := "answers", desc := "()I" } : Jvm.MethodName) ({ cls := "TrueArms", name := "answers", desc := "()I" } : Jvm.MethodName)) ∈ wAll := wT_2 167 rfl rfl
theorem wm_396 : (Jvm.Cond.code ({ cls := "TrueArms", name := "answers", desc := "()I" } : Jvm.MethodName) prog_1_method_21_code (1 : Nat) (Option.some Jvm.ClassFile.FieldType.int)) ∈ wAll := wT_2 168 rfl rfl
theorem wm_397 : (Jvm.Cond.methodLink "TrueArms" (165 : Nat) ({ cls := "TrueArms$Camera", name := "headingsThatAnswer", desc := "()I" } : Jvm.MethodName)) ∈ wAll := wT_2 169 rfl rfl
theorem wm_398 : (Jvm.Cond.instanceMethod ({ cls := "TrueArms$Camera", name := "headingsThatAnswer", desc := "()I" } : Jvm.MethodName)) ∈ wAll := wT_2 170 rfl rfl
theorem wm_399 : (Jvm.Cond.selects "TrueArms$Camera" ({ cls := "TrueArms$Camera", name := "headingsThatAnswer", desc := "()I" } : Jvm.MethodName) ({ cls := "TrueArms$Camera", name := "headingsThatAnswer", desc := "()I" } : Jvm.MethodName)) ∈ wAll := wT_2 171 rfl rfl
theorem wm_400 : (Jvm.Cond.code ({ cls := "TrueArms$Camera", name := "headingsThatAnswer", desc := "()I" } : Jvm.MethodName) prog_3_method_6_code (3 : Nat) (Option.some Jvm.ClassFile.FieldType.int)) ∈ wAll := wT_2 172 rfl rfl
theorem wm_401 : (Jvm.Cond.methodLink "TrueArms$Camera" (41 : Nat) ({ cls := "TrueArms$Camera", name := "isAnswer", desc := "(I)Z" } : Jvm.MethodName)) ∈ wAll := wT_2 173 rfl rfl
theorem wm_402 : (Jvm.Cond.instanceMethod ({ cls := "TrueArms$Camera", name := "isAnswer", desc := "(I)Z" } : Jvm.MethodName)) ∈ wAll := wT_2 175 rfl rfl
theorem wm_403 : (Jvm.Cond.code ({ cls := "TrueArms$Camera", name := "isAnswer", desc := "(I)Z" } : Jvm.MethodName) prog_3_method_5_code (3 : Nat) (Option.some Jvm.ClassFile.FieldType.boolean)) ∈ wAll := wT_2 176 rfl rfl
theorem wm_404 : (Jvm.Cond.methodLink "TrueArms$Camera" (37 : Nat) ({ cls := "TrueArms$Camera", name := "shift", desc := "(III)I" } : Jvm.MethodName)) ∈ wAll := wT_2 177 rfl rfl
theorem wm_405 : (Jvm.Cond.instanceMethod ({ cls := "TrueArms$Camera", name := "shift", desc := "(III)I" } : Jvm.MethodName)) ∈ wAll := wT_2 178 rfl rfl
theorem wm_406 : (Jvm.Cond.selects "TrueArms$Camera" ({ cls := "TrueArms$Camera", name := "shift", desc := "(III)I" } : Jvm.MethodName) ({ cls := "TrueArms$Camera", name := "shift", desc := "(III)I" } : Jvm.MethodName)) ∈ wAll := wT_2 179 rfl rfl
theorem wm_407 : (Jvm.Cond.code ({ cls := "TrueArms$Camera", name := "shift", desc := "(III)I" } : Jvm.MethodName) prog_3_method_4_code (6 : Nat) (Option.some Jvm.ClassFile.FieldType.int)) ∈ wAll := wT_2 180 rfl rfl
theorem wm_408 : (Jvm.Cond.methodLink "TrueArms$Camera" (28 : Nat) ({ cls := "TrueArms$Headings", name := "cOf", desc := "(I)I" } : Jvm.MethodName)) ∈ wAll := wT_2 181 rfl rfl
theorem wm_409 : (Jvm.Cond.methodLink "TrueArms$Camera" (34 : Nat) ({ cls := "TrueArms$Headings", name := "sOf", desc := "(I)I" } : Jvm.MethodName)) ∈ wAll := wT_2 182 rfl rfl
theorem wm_410 : (Jvm.Cond.methodLink "TrueArmsLaw" (101 : Nat) ({ cls := "TrueArms", name := "answer", desc := "(II)I" } : Jvm.MethodName)) ∈ wAll := wT_2 183 rfl rfl
theorem wm_411 : (Jvm.Cond.instanceMethod ({ cls := "TrueArms", name := "answer", desc := "(II)I" } : Jvm.MethodName)) ∈ wAll := wT_2 184 rfl rfl
theorem wm_412 : (Jvm.Cond.selects "TrueArms" ({ cls := "TrueArms", name := "answer", desc := "(II)I" } : Jvm.MethodName) ({ cls := "TrueArms", name := "answer", desc := "(II)I" } : Jvm.MethodName)) ∈ wAll := wT_2 185 rfl rfl
theorem wm_413 : (Jvm.Cond.code ({ cls := "TrueArms", name := "answer", desc := "(II)I" } : Jvm.MethodName) prog_1_method_22_code (4 : Nat) (Option.some Jvm.ClassFile.FieldType.int)) ∈ wAll := wT_2 186 rfl rfl
theorem wm_414 : (Jvm.Cond.methodLink "TrueArms" (168 : Nat) ({ cls := "TrueArms$Camera", name := "headingOfAnswer", desc := "(I)I" } : Jvm.MethodName)) ∈ wAll := wT_2 187 rfl rfl
theorem wm_415 : (Jvm.Cond.instanceMethod ({ cls := "TrueArms$Camera", name := "headingOfAnswer", desc := "(I)I" } : Jvm.MethodName)) ∈ wAll := wT_2 188 rfl rfl
theorem wm_416 : (Jvm.Cond.selects "TrueArms$Camera" ({ cls := "TrueArms$Camera", name := "headingOfAnswer", desc := "(I)I" } : Jvm.MethodName) ({ cls := "TrueArms$Camera", name := "headingOfAnswer", desc := "(I)I" } : Jvm.MethodName)) ∈ wAll := wT_2 189 rfl rfl
theorem wm_417 : (Jvm.Cond.code ({ cls := "TrueArms$Camera", name := "headingOfAnswer", desc := "(I)I" } : Jvm.MethodName) prog_3_method_7_code (4 : Nat) (Option.some Jvm.ClassFile.FieldType.int)) ∈ wAll := wT_2 190 rfl rfl
theorem wm_418 : (Jvm.Cond.constant "TrueArms" (171 : Nat) (-2147483647 : Int32)) ∈ wAll := wT_2 191 rfl rfl
theorem wm_419 : (Jvm.Cond.methodLink "TrueArms" (172 : Nat) ({ cls := "TrueArms$Camera", name := "shift", desc := "(III)I" } : Jvm.MethodName)) ∈ wAll := wT_2 192 rfl rfl
theorem wm_420 : (Jvm.Cond.methodLink "TrueArmsLaw" (105 : Nat) ({ cls := "TrueArms", name := "limit", desc := "(III)I" } : Jvm.MethodName)) ∈ wAll := wT_2 193 rfl rfl
theorem wm_421 : (Jvm.Cond.instanceMethod ({ cls := "TrueArms", name := "limit", desc := "(III)I" } : Jvm.MethodName)) ∈ wAll := wT_2 194 rfl rfl
theorem wm_422 : (Jvm.Cond.selects "TrueArms" ({ cls := "TrueArms", name := "limit", desc := "(III)I" } : Jvm.MethodName) ({ cls := "TrueArms", name := "limit", desc := "(III)I" } : Jvm.MethodName)) ∈ wAll := wT_2 195 rfl rfl
theorem wm_423 : (Jvm.Cond.code ({ cls := "TrueArms", name := "limit", desc := "(III)I" } : Jvm.MethodName) prog_1_method_23_code (4 : Nat) (Option.some Jvm.ClassFile.FieldType.int)) ∈ wAll := wT_2 196 rfl rfl
theorem wm_424 : (Jvm.Cond.methodLink "TrueArms" (175 : Nat) ({ cls := "TrueArms$Going", name := "keepWithin", desc := "(III)V" } : Jvm.MethodName)) ∈ wAll := wT_2 197 rfl rfl
theorem wm_425 : (Jvm.Cond.instanceMethod ({ cls := "TrueArms$Going", name := "keepWithin", desc := "(III)V" } : Jvm.MethodName)) ∈ wAll := wT_2 198 rfl rfl
theorem wm_426 : (Jvm.Cond.selects "TrueArms$Going" ({ cls := "TrueArms$Going", name := "keepWithin", desc := "(III)V" } : Jvm.MethodName) ({ cls := "TrueArms$Going", name := "keepWithin", desc := "(III)V" } : Jvm.MethodName)) ∈ wAll := wT_2 199 rfl rfl
theorem wm_427 : (Jvm.Cond.code ({ cls := "TrueArms$Going", name := "keepWithin", desc := "(III)V" } : Jvm.MethodName) prog_4_method_3_code (5 : Nat) (Option.none : Option Jvm.ClassFile.FieldType)) ∈ wAll := wT_2 200 rfl rfl
theorem wm_428 : (Jvm.Cond.methodLink "TrueArms$Going" (26 : Nat) ({ cls := "TrueArms$Headings", name := "round", desc := "(I)I" } : Jvm.MethodName)) ∈ wAll := wT_2 201 rfl rfl
theorem wm_429 : (Jvm.Cond.methodLink "TrueArmsLaw" (109 : Nat) ({ cls := "TrueArms", name := "nearest", desc := "(II)I" } : Jvm.MethodName)) ∈ wAll := wT_2 202 rfl rfl
theorem wm_430 : (Jvm.Cond.instanceMethod ({ cls := "TrueArms", name := "nearest", desc := "(II)I" } : Jvm.MethodName)) ∈ wAll := wT_2 203 rfl rfl
theorem wm_431 : (Jvm.Cond.selects "TrueArms" ({ cls := "TrueArms", name := "nearest", desc := "(II)I" } : Jvm.MethodName) ({ cls := "TrueArms", name := "nearest", desc := "(II)I" } : Jvm.MethodName)) ∈ wAll := wT_2 204 rfl rfl
theorem wm_432 : (Jvm.Cond.code ({ cls := "TrueArms", name := "nearest", desc := "(II)I" } : Jvm.MethodName) prog_1_method_24_code (3 : Nat) (Option.some Jvm.ClassFile.FieldType.int)) ∈ wAll := wT_2 205 rfl rfl
theorem wm_433 : (Jvm.Cond.methodLink "TrueArms" (179 : Nat) ({ cls := "TrueArms$Going", name := "isPlace", desc := "(II)Z" } : Jvm.MethodName)) ∈ wAll := wT_2 206 rfl rfl
theorem wm_434 : (Jvm.Cond.static ({ cls := "TrueArms$Going", name := "isPlace", desc := "(II)Z" } : Jvm.MethodName)) ∈ wAll := wT_2 207 rfl rfl
theorem wm_435 : (Jvm.Cond.code ({ cls := "TrueArms$Going", name := "isPlace", desc := "(II)Z" } : Jvm.MethodName) prog_4_method_2_code (2 : Nat) (Option.some Jvm.ClassFile.FieldType.boolean)) ∈ wAll := wT_2 208 rfl rfl
theorem wm_436 : (Jvm.Cond.methodLink "TrueArms" (183 : Nat) ({ cls := "TrueArms$Going", name := "seek", desc := "([III)V" } : Jvm.MethodName)) ∈ wAll := wT_2 209 rfl rfl
theorem wm_437 : (Jvm.Cond.instanceMethod ({ cls := "TrueArms$Going", name := "seek", desc := "([III)V" } : Jvm.MethodName)) ∈ wAll := wT_2 210 rfl rfl
theorem wm_438 : (Jvm.Cond.selects "TrueArms$Going" ({ cls := "TrueArms$Going", name := "seek", desc := "([III)V" } : Jvm.MethodName) ({ cls := "TrueArms$Going", name := "seek", desc := "([III)V" } : Jvm.MethodName)) ∈ wAll := wT_2 211 rfl rfl
theorem wm_439 : (Jvm.Cond.code ({ cls := "TrueArms$Going", name := "seek", desc := "([III)V" } : Jvm.MethodName) prog_4_method_4_code (7 : Nat) (Option.none : Option Jvm.ClassFile.FieldType)) ∈ wAll := wT_2 212 rfl rfl
theorem wm_440 : (Jvm.Cond.constantLong "TrueArms$Going" (30 : Nat) (1152921504606846976 : Int64)) ∈ wAll := wT_2 213 rfl rfl
theorem wm_441 : (Jvm.Cond.methodLink "TrueArms$Going" (32 : Nat) ({ cls := "TrueArms$Headings", name := "cOf", desc := "(I)I" } : Jvm.MethodName)) ∈ wAll := wT_2 214 rfl rfl
theorem wm_442 : (Jvm.Cond.methodLink "TrueArms$Going" (35 : Nat) ({ cls := "TrueArms$Headings", name := "sOf", desc := "(I)I" } : Jvm.MethodName)) ∈ wAll := wT_2 215 rfl rfl
theorem wm_443 : (Jvm.Cond.methodLink "TrueArms$Going" (38 : Nat) ({ cls := "TrueArms$Going", name := "seekSecond", desc := "(IIII)V" } : Jvm.MethodName)) ∈ wAll := wT_2 216 rfl rfl
theorem wm_444 : (Jvm.Cond.instanceMethod ({ cls := "TrueArms$Going", name := "seekSecond", desc := "(IIII)V" } : Jvm.MethodName)) ∈ wAll := wT_2 218 rfl rfl
theorem wm_445 : (Jvm.Cond.code ({ cls := "TrueArms$Going", name := "seekSecond", desc := "(IIII)V" } : Jvm.MethodName) prog_4_method_5_code (9 : Nat) (Option.none : Option Jvm.ClassFile.FieldType)) ∈ wAll := wT_2 219 rfl rfl
theorem wm_446 : (Jvm.Cond.methodLink "TrueArms$Going" (42 : Nat) ({ cls := "TrueArms$Going", name := "atLeastLeft", desc := "(II)J" } : Jvm.MethodName)) ∈ wAll := wT_2 220 rfl rfl
theorem wm_447 : (Jvm.Cond.instanceMethod ({ cls := "TrueArms$Going", name := "atLeastLeft", desc := "(II)J" } : Jvm.MethodName)) ∈ wAll := wT_2 222 rfl rfl
theorem wm_448 : (Jvm.Cond.code ({ cls := "TrueArms$Going", name := "atLeastLeft", desc := "(II)J" } : Jvm.MethodName) prog_4_method_7_code (9 : Nat) (Option.some Jvm.ClassFile.FieldType.long)) ∈ wAll := wT_2 223 rfl rfl
theorem wm_449 : (Jvm.Cond.methodLink "TrueArms$Going" (49 : Nat) ({ cls := "java/lang/Math", name := "abs", desc := "(I)I" } : Jvm.MethodName)) ∈ wAll := wT_2 224 rfl rfl
theorem wm_450 : (Jvm.Cond.methodLink "TrueArms$Going" (54 : Nat) ({ cls := "java/lang/Math", name := "max", desc := "(II)I" } : Jvm.MethodName)) ∈ wAll := wT_2 225 rfl rfl
theorem wm_451 : (Jvm.Cond.methodLink "TrueArms$Going" (58 : Nat) ({ cls := "java/lang/Math", name := "min", desc := "(II)I" } : Jvm.MethodName)) ∈ wAll := wT_2 226 rfl rfl
theorem wm_452 : (Jvm.Cond.constantLong "TrueArms$Going" (61 : Nat) (65 : Int64)) ∈ wAll := wT_2 227 rfl rfl
theorem wm_453 : (Jvm.Cond.constantLong "TrueArms$Going" (63 : Nat) (2 : Int64)) ∈ wAll := wT_2 228 rfl rfl
theorem wm_454 : (Jvm.Cond.methodLink "TrueArms$Going" (46 : Nat) ({ cls := "TrueArms$Going", name := "seekThird", desc := "(IIII)V" } : Jvm.MethodName)) ∈ wAll := wT_2 229 rfl rfl
theorem wm_455 : (Jvm.Cond.instanceMethod ({ cls := "TrueArms$Going", name := "seekThird", desc := "(IIII)V" } : Jvm.MethodName)) ∈ wAll := wT_2 231 rfl rfl
theorem wm_456 : (Jvm.Cond.code ({ cls := "TrueArms$Going", name := "seekThird", desc := "(IIII)V" } : Jvm.MethodName) prog_4_method_6_code (13 : Nat) (Option.none : Option Jvm.ClassFile.FieldType)) ∈ wAll := wT_2 232 rfl rfl
theorem wm_457 : (Jvm.Cond.methodLink "TrueArmsLaw" (113 : Nat) ({ cls := "TrueArms", name := "near", desc := "(II)J" } : Jvm.MethodName)) ∈ wAll := wT_2 233 rfl rfl
theorem wm_458 : (Jvm.Cond.instanceMethod ({ cls := "TrueArms", name := "near", desc := "(II)J" } : Jvm.MethodName)) ∈ wAll := wT_2 234 rfl rfl
theorem wm_459 : (Jvm.Cond.selects "TrueArms" ({ cls := "TrueArms", name := "near", desc := "(II)J" } : Jvm.MethodName) ({ cls := "TrueArms", name := "near", desc := "(II)J" } : Jvm.MethodName)) ∈ wAll := wT_2 235 rfl rfl
theorem wm_460 : (Jvm.Cond.code ({ cls := "TrueArms", name := "near", desc := "(II)J" } : Jvm.MethodName) prog_1_method_25_code (3 : Nat) (Option.some Jvm.ClassFile.FieldType.long)) ∈ wAll := wT_2 236 rfl rfl
theorem wm_461 : (Jvm.Cond.methodLink "TrueArmsLaw" (117 : Nat) ({ cls := "TrueArms", name := "drift", desc := "(IIII)I" } : Jvm.MethodName)) ∈ wAll := wT_2 237 rfl rfl
theorem wm_462 : (Jvm.Cond.instanceMethod ({ cls := "TrueArms", name := "drift", desc := "(IIII)I" } : Jvm.MethodName)) ∈ wAll := wT_2 238 rfl rfl
theorem wm_463 : (Jvm.Cond.selects "TrueArms" ({ cls := "TrueArms", name := "drift", desc := "(IIII)I" } : Jvm.MethodName) ({ cls := "TrueArms", name := "drift", desc := "(IIII)I" } : Jvm.MethodName)) ∈ wAll := wT_2 239 rfl rfl
theorem wm_464 : (Jvm.Cond.code ({ cls := "TrueArms", name := "drift", desc := "(IIII)I" } : Jvm.MethodName) prog_1_method_26_code (6 : Nat) (Option.some Jvm.ClassFile.FieldType.int)) ∈ wAll := wT_3 0 rfl rfl
theorem wm_465 : (Jvm.Cond.methodLink "TrueArms" (194 : Nat) ({ cls := "TrueArms", name := "isSheet", desc := "(I)Z" } : Jvm.MethodName)) ∈ wAll := wT_3 1 rfl rfl
theorem wm_466 : (Jvm.Cond.static ({ cls := "TrueArms", name := "isSheet", desc := "(I)Z" } : Jvm.MethodName)) ∈ wAll := wT_3 2 rfl rfl
theorem wm_467 : (Jvm.Cond.code ({ cls := "TrueArms", name := "isSheet", desc := "(I)Z" } : Jvm.MethodName) prog_1_method_36_code (1 : Nat) (Option.some Jvm.ClassFile.FieldType.boolean)) ∈ wAll := wT_3 3 rfl rfl
theorem wm_468 : (Jvm.Cond.methodLink "TrueArms" (197 : Nat) ({ cls := "TrueArms$Sheet", name := "isLost", desc := "()Z" } : Jvm.MethodName)) ∈ wAll := wT_3 4 rfl rfl
theorem wm_469 : (Jvm.Cond.instanceMethod ({ cls := "TrueArms$Sheet", name := "isLost", desc := "()Z" } : Jvm.MethodName)) ∈ wAll := wT_3 5 rfl rfl
theorem wm_470 : (Jvm.Cond.selects "TrueArms$Sheet" ({ cls := "TrueArms$Sheet", name := "isLost", desc := "()Z" } : Jvm.MethodName) ({ cls := "TrueArms$Sheet", name := "isLost", desc := "()Z" } : Jvm.MethodName)) ∈ wAll := wT_3 6 rfl rfl
theorem wm_471 : (Jvm.Cond.code ({ cls := "TrueArms$Sheet", name := "isLost", desc := "()Z" } : Jvm.MethodName) prog_6_method_4_code (1 : Nat) (Option.some Jvm.ClassFile.FieldType.boolean)) ∈ wAll := wT_3 7 rfl rfl
theorem wm_472 : (Jvm.Cond.methodLink "TrueArms" (201 : Nat) ({ cls := "TrueArms", name := "finding", desc := "(I)I" } : Jvm.MethodName)) ∈ wAll := wT_3 8 rfl rfl
theorem wm_473 : (Jvm.Cond.instanceMethod ({ cls := "TrueArms", name := "finding", desc := "(I)I" } : Jvm.MethodName)) ∈ wAll := wT_3 10 rfl rfl
theorem wm_474 : (Jvm.Cond.code ({ cls := "TrueArms", name := "finding", desc := "(I)I" } : Jvm.MethodName) prog_1_method_37_code (2 : Nat) (Option.some Jvm.ClassFile.FieldType.int)) ∈ wAll := wT_3 11 rfl rfl
theorem wm_475 : (Jvm.Cond.methodLink "TrueArms" (204 : Nat) ({ cls := "TrueArms$Sheet", name := "has", desc := "(I)Z" } : Jvm.MethodName)) ∈ wAll := wT_3 12 rfl rfl
theorem wm_476 : (Jvm.Cond.methodLink "TrueArms" (207 : Nat) ({ cls := "TrueArms$Signs", name := "read", desc := "(LTrueArms$Sheet;II)V" } : Jvm.MethodName)) ∈ wAll := wT_3 13 rfl rfl
theorem wm_477 : (Jvm.Cond.instanceMethod ({ cls := "TrueArms$Signs", name := "read", desc := "(LTrueArms$Sheet;II)V" } : Jvm.MethodName)) ∈ wAll := wT_3 14 rfl rfl
theorem wm_478 : (Jvm.Cond.selects "TrueArms$Signs" ({ cls := "TrueArms$Signs", name := "read", desc := "(LTrueArms$Sheet;II)V" } : Jvm.MethodName) ({ cls := "TrueArms$Signs", name := "read", desc := "(LTrueArms$Sheet;II)V" } : Jvm.MethodName)) ∈ wAll := wT_3 15 rfl rfl
theorem wm_479 : (Jvm.Cond.code ({ cls := "TrueArms$Signs", name := "read", desc := "(LTrueArms$Sheet;II)V" } : Jvm.MethodName) prog_7_method_2_code (5 : Nat) (Option.none : Option Jvm.ClassFile.FieldType)) ∈ wAll := wT_3 16 rfl rfl
theorem wm_480 : (Jvm.Cond.methodLink "TrueArms" (217 : Nat) ({ cls := "TrueArms$Signs", name := "falseShare", desc := "()I" } : Jvm.MethodName)) ∈ wAll := wT_3 17 rfl rfl
theorem wm_481 : (Jvm.Cond.instanceMethod ({ cls := "TrueArms$Signs", name := "falseShare", desc := "()I" } : Jvm.MethodName)) ∈ wAll := wT_3 18 rfl rfl
theorem wm_482 : (Jvm.Cond.selects "TrueArms$Signs" ({ cls := "TrueArms$Signs", name := "falseShare", desc := "()I" } : Jvm.MethodName) ({ cls := "TrueArms$Signs", name := "falseShare", desc := "()I" } : Jvm.MethodName)) ∈ wAll := wT_3 19 rfl rfl
theorem wm_483 : (Jvm.Cond.code ({ cls := "TrueArms$Signs", name := "falseShare", desc := "()I" } : Jvm.MethodName) prog_7_method_3_code (3 : Nat) (Option.some Jvm.ClassFile.FieldType.int)) ∈ wAll := wT_3 20 rfl rfl
theorem wm_484 : (Jvm.Cond.constantLong "TrueArms$Signs" (22 : Nat) (2 : Int64)) ∈ wAll := wT_3 21 rfl rfl
theorem wm_485 : (Jvm.Cond.methodLink "TrueArms$Signs" (24 : Nat) ({ cls := "java/lang/Math", name := "min", desc := "(II)I" } : Jvm.MethodName)) ∈ wAll := wT_3 22 rfl rfl
theorem wm_486 : (Jvm.Cond.methodLink "TrueArms$Signs" (30 : Nat) ({ cls := "TrueArms$Signs", name := "rowsUpTo", desc := "(I)J" } : Jvm.MethodName)) ∈ wAll := wT_3 23 rfl rfl
theorem wm_487 : (Jvm.Cond.instanceMethod ({ cls := "TrueArms$Signs", name := "rowsUpTo", desc := "(I)J" } : Jvm.MethodName)) ∈ wAll := wT_3 25 rfl rfl
theorem wm_488 : (Jvm.Cond.code ({ cls := "TrueArms$Signs", name := "rowsUpTo", desc := "(I)J" } : Jvm.MethodName) prog_7_method_4_code (7 : Nat) (Option.some Jvm.ClassFile.FieldType.long)) ∈ wAll := wT_3 26 rfl rfl
theorem wm_489 : (Jvm.Cond.methodLink "TrueArms$Signs" (34 : Nat) ({ cls := "java/lang/Math", name := "min", desc := "(JJ)J" } : Jvm.MethodName)) ∈ wAll := wT_3 27 rfl rfl
theorem wm_490 : (Jvm.Cond.methodLink "TrueArms$Signs" (37 : Nat) ({ cls := "TrueArms$Signs", name := "millionths", desc := "(JI)I" } : Jvm.MethodName)) ∈ wAll := wT_3 28 rfl rfl
theorem wm_491 : (Jvm.Cond.static ({ cls := "TrueArms$Signs", name := "millionths", desc := "(JI)I" } : Jvm.MethodName)) ∈ wAll := wT_3 29 rfl rfl
theorem wm_492 : (Jvm.Cond.code ({ cls := "TrueArms$Signs", name := "millionths", desc := "(JI)I" } : Jvm.MethodName) prog_7_method_5_code (7 : Nat) (Option.some Jvm.ClassFile.FieldType.int)) ∈ wAll := wT_3 30 rfl rfl
theorem wm_493 : (Jvm.Cond.constantLong "TrueArms$Signs" (41 : Nat) (1000 : Int64)) ∈ wAll := wT_3 31 rfl rfl
theorem wm_494 : (Jvm.Cond.methodLink "TrueArmsLaw" (121 : Nat) ({ cls := "TrueArms", name := "sheet", desc := "(III)I" } : Jvm.MethodName)) ∈ wAll := wT_3 32 rfl rfl
theorem wm_495 : (Jvm.Cond.instanceMethod ({ cls := "TrueArms", name := "sheet", desc := "(III)I" } : Jvm.MethodName)) ∈ wAll := wT_3 33 rfl rfl
theorem wm_496 : (Jvm.Cond.selects "TrueArms" ({ cls := "TrueArms", name := "sheet", desc := "(III)I" } : Jvm.MethodName) ({ cls := "TrueArms", name := "sheet", desc := "(III)I" } : Jvm.MethodName)) ∈ wAll := wT_3 34 rfl rfl
theorem wm_497 : (Jvm.Cond.code ({ cls := "TrueArms", name := "sheet", desc := "(III)I" } : Jvm.MethodName) prog_1_method_27_code (4 : Nat) (Option.some Jvm.ClassFile.FieldType.int)) ∈ wAll := wT_3 35 rfl rfl
theorem wm_498 : (Jvm.Cond.methodLink "TrueArms" (220 : Nat) ({ cls := "TrueArms$Sheet", name := "isForm", desc := "(I)Z" } : Jvm.MethodName)) ∈ wAll := wT_3 36 rfl rfl
theorem wm_499 : (Jvm.Cond.static ({ cls := "TrueArms$Sheet", name := "isForm", desc := "(I)Z" } : Jvm.MethodName)) ∈ wAll := wT_3 37 rfl rfl
theorem wm_500 : (Jvm.Cond.code ({ cls := "TrueArms$Sheet", name := "isForm", desc := "(I)Z" } : Jvm.MethodName) prog_6_method_2_code (1 : Nat) (Option.some Jvm.ClassFile.FieldType.boolean)) ∈ wAll := wT_3 38 rfl rfl
theorem wm_501 : (Jvm.Cond.methodLink "TrueArms" (223 : Nat) ({ cls := "TrueArms$Sheet", name := "begin", desc := "(II)V" } : Jvm.MethodName)) ∈ wAll := wT_3 39 rfl rfl
theorem wm_502 : (Jvm.Cond.instanceMethod ({ cls := "TrueArms$Sheet", name := "begin", desc := "(II)V" } : Jvm.MethodName)) ∈ wAll := wT_3 40 rfl rfl
theorem wm_503 : (Jvm.Cond.selects "TrueArms$Sheet" ({ cls := "TrueArms$Sheet", name := "begin", desc := "(II)V" } : Jvm.MethodName) ({ cls := "TrueArms$Sheet", name := "begin", desc := "(II)V" } : Jvm.MethodName)) ∈ wAll := wT_3 41 rfl rfl
theorem wm_504 : (Jvm.Cond.code ({ cls := "TrueArms$Sheet", name := "begin", desc := "(II)V" } : Jvm.MethodName) prog_6_method_5_code (3 : Nat) (Option.none : Option Jvm.ClassFile.FieldType)) ∈ wAll := wT_3 42 rfl rfl
theorem wm_505 : (Jvm.Cond.methodLink "TrueArms$Sheet" (20 : Nat) ({ cls := "java/util/Arrays", name := "fill", desc := "([II)V" } : Jvm.MethodName)) ∈ wAll := wT_3 43 rfl rfl
theorem wm_506 : (Jvm.Cond.static ({ cls := "java/util/Arrays", name := "fill", desc := "([II)V" } : Jvm.MethodName)) ∈ wAll := wT_3 44 rfl rfl
theorem wm_507 : (Jvm.Cond.code ({ cls := "java/util/Arrays", name := "fill", desc := "([II)V" } : Jvm.MethodName) prog_14_method_103_code (4 : Nat) (Option.none : Option Jvm.ClassFile.FieldType)) ∈ wAll := wT_3 45 rfl rfl
theorem wm_508 : (Jvm.Cond.methodLink "TrueArmsLaw" (125 : Nat) ({ cls := "TrueArms", name := "lose", desc := "(I)I" } : Jvm.MethodName)) ∈ wAll := wT_3 46 rfl rfl
theorem wm_509 : (Jvm.Cond.instanceMethod ({ cls := "TrueArms", name := "lose", desc := "(I)I" } : Jvm.MethodName)) ∈ wAll := wT_3 47 rfl rfl
theorem wm_510 : (Jvm.Cond.selects "TrueArms" ({ cls := "TrueArms", name := "lose", desc := "(I)I" } : Jvm.MethodName) ({ cls := "TrueArms", name := "lose", desc := "(I)I" } : Jvm.MethodName)) ∈ wAll := wT_3 48 rfl rfl
theorem wm_511 : (Jvm.Cond.code ({ cls := "TrueArms", name := "lose", desc := "(I)I" } : Jvm.MethodName) prog_1_method_28_code (2 : Nat) (Option.some Jvm.ClassFile.FieldType.int)) ∈ wAll := wT_3 49 rfl rfl
theorem wm_512 : (Jvm.Cond.methodLink "TrueArms" (227 : Nat) ({ cls := "TrueArms$Sheet", name := "end", desc := "()I" } : Jvm.MethodName)) ∈ wAll := wT_3 50 rfl rfl
theorem wm_513 : (Jvm.Cond.instanceMethod ({ cls := "TrueArms$Sheet", name := "end", desc := "()I" } : Jvm.MethodName)) ∈ wAll := wT_3 51 rfl rfl
theorem wm_514 : (Jvm.Cond.selects "TrueArms$Sheet" ({ cls := "TrueArms$Sheet", name := "end", desc := "()I" } : Jvm.MethodName) ({ cls := "TrueArms$Sheet", name := "end", desc := "()I" } : Jvm.MethodName)) ∈ wAll := wT_3 52 rfl rfl
theorem wm_515 : (Jvm.Cond.code ({ cls := "TrueArms$Sheet", name := "end", desc := "()I" } : Jvm.MethodName) prog_6_method_6_code (2 : Nat) (Option.some Jvm.ClassFile.FieldType.int)) ∈ wAll := wT_3 53 rfl rfl
theorem wm_516 : (Jvm.Cond.methodLink "TrueArmsLaw" (129 : Nat) ({ cls := "TrueArms", name := "put", desc := "(IIII)I" } : Jvm.MethodName)) ∈ wAll := wT_3 54 rfl rfl
theorem wm_517 : (Jvm.Cond.instanceMethod ({ cls := "TrueArms", name := "put", desc := "(IIII)I" } : Jvm.MethodName)) ∈ wAll := wT_3 55 rfl rfl
theorem wm_518 : (Jvm.Cond.selects "TrueArms" ({ cls := "TrueArms", name := "put", desc := "(IIII)I" } : Jvm.MethodName) ({ cls := "TrueArms", name := "put", desc := "(IIII)I" } : Jvm.MethodName)) ∈ wAll := wT_3 56 rfl rfl
theorem wm_519 : (Jvm.Cond.code ({ cls := "TrueArms", name := "put", desc := "(IIII)I" } : Jvm.MethodName) prog_1_method_29_code (6 : Nat) (Option.some Jvm.ClassFile.FieldType.int)) ∈ wAll := wT_3 57 rfl rfl
theorem wm_520 : (Jvm.Cond.methodLink "TrueArms" (230 : Nat) ({ cls := "TrueArms", name := "troubleWith", desc := "(LTrueArms$Sheet;II)I" } : Jvm.MethodName)) ∈ wAll := wT_3 58 rfl rfl
theorem wm_521 : (Jvm.Cond.static ({ cls := "TrueArms", name := "troubleWith", desc := "(LTrueArms$Sheet;II)I" } : Jvm.MethodName)) ∈ wAll := wT_3 59 rfl rfl
theorem wm_522 : (Jvm.Cond.code ({ cls := "TrueArms", name := "troubleWith", desc := "(LTrueArms$Sheet;II)I" } : Jvm.MethodName) prog_1_method_38_code (3 : Nat) (Option.some Jvm.ClassFile.FieldType.int)) ∈ wAll := wT_3 60 rfl rfl
theorem wm_523 : (Jvm.Cond.methodLink "TrueArms" (237 : Nat) ({ cls := "TrueArms$Sheet", name := "lowestBits", desc := "(II)I" } : Jvm.MethodName)) ∈ wAll := wT_3 61 rfl rfl
theorem wm_524 : (Jvm.Cond.static ({ cls := "TrueArms$Sheet", name := "lowestBits", desc := "(II)I" } : Jvm.MethodName)) ∈ wAll := wT_3 62 rfl rfl
theorem wm_525 : (Jvm.Cond.code ({ cls := "TrueArms$Sheet", name := "lowestBits", desc := "(II)I" } : Jvm.MethodName) prog_6_method_3_code (2 : Nat) (Option.some Jvm.ClassFile.FieldType.int)) ∈ wAll := wT_3 63 rfl rfl
theorem wm_526 : (Jvm.Cond.methodLink "TrueArmsLaw" (133 : Nat) ({ cls := "TrueArms", name := "get", desc := "(III)I" } : Jvm.MethodName)) ∈ wAll := wT_3 64 rfl rfl
theorem wm_527 : (Jvm.Cond.instanceMethod ({ cls := "TrueArms", name := "get", desc := "(III)I" } : Jvm.MethodName)) ∈ wAll := wT_3 65 rfl rfl
theorem wm_528 : (Jvm.Cond.selects "TrueArms" ({ cls := "TrueArms", name := "get", desc := "(III)I" } : Jvm.MethodName) ({ cls := "TrueArms", name := "get", desc := "(III)I" } : Jvm.MethodName)) ∈ wAll := wT_3 66 rfl rfl
theorem wm_529 : (Jvm.Cond.code ({ cls := "TrueArms", name := "get", desc := "(III)I" } : Jvm.MethodName) prog_1_method_30_code (5 : Nat) (Option.some Jvm.ClassFile.FieldType.int)) ∈ wAll := wT_3 67 rfl rfl
theorem wm_530 : (Jvm.Cond.methodLink "TrueArmsLaw" (137 : Nat) ({ cls := "TrueArms", name := "copy", desc := "(IIIII)I" } : Jvm.MethodName)) ∈ wAll := wT_3 68 rfl rfl
theorem wm_531 : (Jvm.Cond.instanceMethod ({ cls := "TrueArms", name := "copy", desc := "(IIIII)I" } : Jvm.MethodName)) ∈ wAll := wT_3 69 rfl rfl
theorem wm_532 : (Jvm.Cond.selects "TrueArms" ({ cls := "TrueArms", name := "copy", desc := "(IIIII)I" } : Jvm.MethodName) ({ cls := "TrueArms", name := "copy", desc := "(IIIII)I" } : Jvm.MethodName)) ∈ wAll := wT_3 70 rfl rfl
theorem wm_533 : (Jvm.Cond.code ({ cls := "TrueArms", name := "copy", desc := "(IIIII)I" } : Jvm.MethodName) prog_1_method_31_code (8 : Nat) (Option.some Jvm.ClassFile.FieldType.int)) ∈ wAll := wT_3 71 rfl rfl
theorem wm_534 : (Jvm.Cond.methodLink "TrueArms" (243 : Nat) ({ cls := "TrueArms$Sheet", name := "hasRun", desc := "(II)Z" } : Jvm.MethodName)) ∈ wAll := wT_3 72 rfl rfl
theorem wm_535 : (Jvm.Cond.instanceMethod ({ cls := "TrueArms$Sheet", name := "hasRun", desc := "(II)Z" } : Jvm.MethodName)) ∈ wAll := wT_3 73 rfl rfl
theorem wm_536 : (Jvm.Cond.selects "TrueArms$Sheet" ({ cls := "TrueArms$Sheet", name := "hasRun", desc := "(II)Z" } : Jvm.MethodName) ({ cls := "TrueArms$Sheet", name := "hasRun", desc := "(II)Z" } : Jvm.MethodName)) ∈ wAll := wT_3 74 rfl rfl
theorem wm_537 : (Jvm.Cond.code ({ cls := "TrueArms$Sheet", name := "hasRun", desc := "(II)Z" } : Jvm.MethodName) prog_6_method_8_code (3 : Nat) (Option.some Jvm.ClassFile.FieldType.boolean)) ∈ wAll := wT_3 75 rfl rfl
theorem wm_538 : (Jvm.Cond.methodLink "TrueArms" (246 : Nat) ({ cls := "java/lang/System", name := "arraycopy", desc := "(Ljava/lang/Object;ILjava/lang/Object;II)V" } : Jvm.MethodName)) ∈ wAll := wT_3 76 rfl rfl
theorem wm_539 : (Jvm.Cond.static ({ cls := "java/lang/System", name := "arraycopy", desc := "(Ljava/lang/Object;ILjava/lang/Object;II)V" } : Jvm.MethodName)) ∈ wAll := wT_3 77 rfl rfl
theorem wm_540 : (Jvm.Cond.native ({ cls := "java/lang/System", name := "arraycopy", desc := "(Ljava/lang/Object;ILjava/lang/Object;II)V" } : Jvm.MethodName)) ∈ wAll := wT_3 78 rfl rfl
theorem wm_541 : (Jvm.Cond.methodLink "TrueArmsLaw" (142 : Nat) ({ cls := "TrueArms", name := "count", desc := "(I)I" } : Jvm.MethodName)) ∈ wAll := wT_3 79 rfl rfl
theorem wm_542 : (Jvm.Cond.instanceMethod ({ cls := "TrueArms", name := "count", desc := "(I)I" } : Jvm.MethodName)) ∈ wAll := wT_3 80 rfl rfl
theorem wm_543 : (Jvm.Cond.selects "TrueArms" ({ cls := "TrueArms", name := "count", desc := "(I)I" } : Jvm.MethodName) ({ cls := "TrueArms", name := "count", desc := "(I)I" } : Jvm.MethodName)) ∈ wAll := wT_3 81 rfl rfl
theorem wm_544 : (Jvm.Cond.code ({ cls := "TrueArms", name := "count", desc := "(I)I" } : Jvm.MethodName) prog_1_method_32_code (2 : Nat) (Option.some Jvm.ClassFile.FieldType.int)) ∈ wAll := wT_3 82 rfl rfl
theorem wm_545 : (Jvm.Cond.methodLink "TrueArms" (252 : Nat) ({ cls := "TrueArms", name := "countLeftOut", desc := "()I" } : Jvm.MethodName)) ∈ wAll := wT_3 83 rfl rfl
theorem wm_546 : (Jvm.Cond.instanceMethod ({ cls := "TrueArms", name := "countLeftOut", desc := "()I" } : Jvm.MethodName)) ∈ wAll := wT_3 85 rfl rfl
theorem wm_547 : (Jvm.Cond.code ({ cls := "TrueArms", name := "countLeftOut", desc := "()I" } : Jvm.MethodName) prog_1_method_39_code (3 : Nat) (Option.some Jvm.ClassFile.FieldType.int)) ∈ wAll := wT_3 86 rfl rfl
theorem wm_548 : (Jvm.Cond.methodLink "TrueArms" (255 : Nat) ({ cls := "TrueArms", name := "countLost", desc := "()I" } : Jvm.MethodName)) ∈ wAll := wT_3 87 rfl rfl
theorem wm_549 : (Jvm.Cond.instanceMethod ({ cls := "TrueArms", name := "countLost", desc := "()I" } : Jvm.MethodName)) ∈ wAll := wT_3 89 rfl rfl
theorem wm_550 : (Jvm.Cond.code ({ cls := "TrueArms", name := "countLost", desc := "()I" } : Jvm.MethodName) prog_1_method_40_code (3 : Nat) (Option.some Jvm.ClassFile.FieldType.int)) ∈ wAll := wT_3 90 rfl rfl
theorem wm_551 : (Jvm.Cond.methodLink "TrueArmsLaw" (146 : Nat) ({ cls := "TrueArms", name := "digest", desc := "()J" } : Jvm.MethodName)) ∈ wAll := wT_3 91 rfl rfl
theorem wm_552 : (Jvm.Cond.instanceMethod ({ cls := "TrueArms", name := "digest", desc := "()J" } : Jvm.MethodName)) ∈ wAll := wT_3 92 rfl rfl
theorem wm_553 : (Jvm.Cond.selects "TrueArms" ({ cls := "TrueArms", name := "digest", desc := "()J" } : Jvm.MethodName) ({ cls := "TrueArms", name := "digest", desc := "()J" } : Jvm.MethodName)) ∈ wAll := wT_3 93 rfl rfl
theorem wm_554 : (Jvm.Cond.code ({ cls := "TrueArms", name := "digest", desc := "()J" } : Jvm.MethodName) prog_1_method_33_code (4 : Nat) (Option.some Jvm.ClassFile.FieldType.long)) ∈ wAll := wT_3 94 rfl rfl
theorem wm_555 : (Jvm.Cond.constantLong "TrueArms" (258 : Nat) (17 : Int64)) ∈ wAll := wT_3 95 rfl rfl
theorem wm_556 : (Jvm.Cond.constantLong "TrueArms" (260 : Nat) (31 : Int64)) ∈ wAll := wT_3 96 rfl rfl
theorem wm_557 : (Jvm.Cond.methodLink "TrueArms" (262 : Nat) ({ cls := "TrueArms", name := "count", desc := "(I)I" } : Jvm.MethodName)) ∈ wAll := wT_3 97 rfl rfl
theorem wm_558 : (Jvm.Cond.classLink "TrueArmsLaw" (10 : Nat) "TrueArmsModel") ∈ wAll := wT_3 98 rfl rfl
theorem wm_559 : (Jvm.Cond.instantiable "TrueArmsModel" (24 : Nat)) ∈ wAll := wT_3 99 rfl rfl
theorem wm_560 : (Jvm.Cond.methodLink "TrueArmsLaw" (12 : Nat) ({ cls := "TrueArmsModel", name := "<init>", desc := "()V" } : Jvm.MethodName)) ∈ wAll := wT_3 100 rfl rfl
theorem wm_561 : (Jvm.Cond.instanceMethod ({ cls := "TrueArmsModel", name := "<init>", desc := "()V" } : Jvm.MethodName)) ∈ wAll := wT_3 101 rfl rfl
theorem wm_562 : (Jvm.Cond.code ({ cls := "TrueArmsModel", name := "<init>", desc := "()V" } : Jvm.MethodName) prog_10_method_1_code (2 : Nat) (Option.none : Option Jvm.ClassFile.FieldType)) ∈ wAll := wT_3 102 rfl rfl
theorem wm_563 : (Jvm.Cond.methodLink "TrueArmsModel" (1 : Nat) ({ cls := "java/lang/Object", name := "<init>", desc := "()V" } : Jvm.MethodName)) ∈ wAll := wT_3 103 rfl rfl
theorem wm_564 : (Jvm.Cond.fieldLink "TrueArmsModel" (7 : Nat) "TrueArmsModel" "cs" "[I") ∈ wAll := wT_3 104 rfl rfl
theorem wm_565 : (Jvm.Cond.fieldLink "TrueArmsModel" (13 : Nat) "TrueArmsModel" "lengths" "[I") ∈ wAll := wT_3 105 rfl rfl
theorem wm_566 : (Jvm.Cond.fieldLink "TrueArmsModel" (85 : Nat) "TrueArmsModel" "postures" "I") ∈ wAll := wT_3 106 rfl rfl
theorem wm_567 : (Jvm.Cond.fieldLink "TrueArmsModel" (16 : Nat) "TrueArmsModel" "headings" "[I") ∈ wAll := wT_3 107 rfl rfl
theorem wm_568 : (Jvm.Cond.fieldLink "TrueArmsModel" (19 : Nat) "TrueArmsModel" "isOut" "[Z") ∈ wAll := wT_3 108 rfl rfl
theorem wm_569 : (Jvm.Cond.fieldLink "TrueArmsModel" (23 : Nat) "TrueArmsModel" "used" "[I") ∈ wAll := wT_3 109 rfl rfl
theorem wm_570 : (Jvm.Cond.fieldLink "TrueArmsModel" (112 : Nat) "TrueArmsModel" "usedMany" "I") ∈ wAll := wT_3 110 rfl rfl
theorem wm_571 : (Jvm.Cond.fieldLink "TrueArmsModel" (26 : Nat) "TrueArmsModel" "g" "[J") ∈ wAll := wT_3 111 rfl rfl
theorem wm_572 : (Jvm.Cond.fieldLink "TrueArmsModel" (30 : Nat) "TrueArmsModel" "right" "[J") ∈ wAll := wT_3 112 rfl rfl
theorem wm_573 : (Jvm.Cond.fieldLink "TrueArmsModel" (33 : Nat) "TrueArmsModel" "upright" "[J") ∈ wAll := wT_3 113 rfl rfl
theorem wm_574 : (Jvm.Cond.fieldLink "TrueArmsModel" (179 : Nat) "TrueArmsModel" "pairs" "I") ∈ wAll := wT_3 114 rfl rfl
theorem wm_575 : (Jvm.Cond.fieldLink "TrueArmsModel" (36 : Nat) "TrueArmsModel" "pp" "[I") ∈ wAll := wT_3 115 rfl rfl
theorem wm_576 : (Jvm.Cond.fieldLink "TrueArmsModel" (39 : Nat) "TrueArmsModel" "qq" "[I") ∈ wAll := wT_3 116 rfl rfl
theorem wm_577 : (Jvm.Cond.fieldLink "TrueArmsModel" (42 : Nat) "TrueArmsModel" "xx" "[I") ∈ wAll := wT_3 117 rfl rfl
theorem wm_578 : (Jvm.Cond.fieldLink "TrueArmsModel" (45 : Nat) "TrueArmsModel" "yy" "[I") ∈ wAll := wT_3 118 rfl rfl
theorem wm_579 : (Jvm.Cond.fieldLink "TrueArmsModel" (48 : Nat) "TrueArmsModel" "lows" "[I") ∈ wAll := wT_3 119 rfl rfl
theorem wm_580 : (Jvm.Cond.fieldLink "TrueArmsModel" (51 : Nat) "TrueArmsModel" "spans" "[I") ∈ wAll := wT_3 120 rfl rfl
theorem wm_581 : (Jvm.Cond.fieldLink "TrueArmsModel" (194 : Nat) "TrueArmsModel" "nearSquare" "J") ∈ wAll := wT_3 121 rfl rfl
theorem wm_582 : (Jvm.Cond.fieldLink "TrueArmsModel" (201 : Nat) "TrueArmsModel" "nearPosture" "I") ∈ wAll := wT_3 122 rfl rfl
theorem wm_583 : (Jvm.Cond.fieldLink "TrueArmsModel" (54 : Nat) "TrueArmsModel" "forms" "[I") ∈ wAll := wT_3 123 rfl rfl
theorem wm_584 : (Jvm.Cond.fieldLink "TrueArmsModel" (57 : Nat) "TrueArmsModel" "sizes" "[I") ∈ wAll := wT_3 124 rfl rfl
theorem wm_585 : (Jvm.Cond.fieldLink "TrueArmsModel" (60 : Nat) "TrueArmsModel" "items" "[I") ∈ wAll := wT_3 125 rfl rfl
theorem wm_586 : (Jvm.Cond.fieldLink "TrueArmsModel" (63 : Nat) "TrueArmsModel" "moved" "[I") ∈ wAll := wT_3 126 rfl rfl
theorem wm_587 : (Jvm.Cond.fieldLink "TrueArmsModel" (226 : Nat) "TrueArmsModel" "latest" "I") ∈ wAll := wT_3 127 rfl rfl
theorem wm_588 : (Jvm.Cond.laysFinal "TrueArmsModel" "TrueArmsModel" "cs" "[I") ∈ wAll := wT_3 128 rfl rfl
theorem wm_589 : (Jvm.Cond.soleField "TrueArmsModel" "cs") ∈ wAll := wT_3 129 rfl rfl
theorem wm_590 : (Jvm.Cond.laysFinal "TrueArmsModel" "TrueArmsModel" "lengths" "[I") ∈ wAll := wT_3 130 rfl rfl
theorem wm_591 : (Jvm.Cond.soleField "TrueArmsModel" "lengths") ∈ wAll := wT_3 131 rfl rfl
theorem wm_592 : (Jvm.Cond.lays "TrueArmsModel" "TrueArmsModel" "postures" "I") ∈ wAll := wT_3 132 rfl rfl
theorem wm_593 : (Jvm.Cond.soleField "TrueArmsModel" "postures") ∈ wAll := wT_3 133 rfl rfl
theorem wm_594 : (Jvm.Cond.laysFinal "TrueArmsModel" "TrueArmsModel" "headings" "[I") ∈ wAll := wT_3 134 rfl rfl
theorem wm_595 : (Jvm.Cond.soleField "TrueArmsModel" "headings") ∈ wAll := wT_3 135 rfl rfl
theorem wm_596 : (Jvm.Cond.laysFinal "TrueArmsModel" "TrueArmsModel" "isOut" "[Z") ∈ wAll := wT_3 136 rfl rfl
theorem wm_597 : (Jvm.Cond.soleField "TrueArmsModel" "isOut") ∈ wAll := wT_3 137 rfl rfl
theorem wm_598 : (Jvm.Cond.laysFinal "TrueArmsModel" "TrueArmsModel" "used" "[I") ∈ wAll := wT_3 138 rfl rfl
theorem wm_599 : (Jvm.Cond.soleField "TrueArmsModel" "used") ∈ wAll := wT_3 139 rfl rfl
theorem wm_600 : (Jvm.Cond.lays "TrueArmsModel" "TrueArmsModel" "usedMany" "I") ∈ wAll := wT_3 140 rfl rfl
theorem wm_601 : (Jvm.Cond.soleField "TrueArmsModel" "usedMany") ∈ wAll := wT_3 141 rfl rfl
theorem wm_602 : (Jvm.Cond.laysFinal "TrueArmsModel" "TrueArmsModel" "g" "[J") ∈ wAll := wT_3 142 rfl rfl
theorem wm_603 : (Jvm.Cond.soleField "TrueArmsModel" "g") ∈ wAll := wT_3 143 rfl rfl
theorem wm_604 : (Jvm.Cond.laysFinal "TrueArmsModel" "TrueArmsModel" "right" "[J") ∈ wAll := wT_3 144 rfl rfl
theorem wm_605 : (Jvm.Cond.soleField "TrueArmsModel" "right") ∈ wAll := wT_3 145 rfl rfl
theorem wm_606 : (Jvm.Cond.laysFinal "TrueArmsModel" "TrueArmsModel" "upright" "[J") ∈ wAll := wT_3 146 rfl rfl
theorem wm_607 : (Jvm.Cond.soleField "TrueArmsModel" "upright") ∈ wAll := wT_3 147 rfl rfl
theorem wm_608 : (Jvm.Cond.lays "TrueArmsModel" "TrueArmsModel" "pairs" "I") ∈ wAll := wT_3 148 rfl rfl
theorem wm_609 : (Jvm.Cond.soleField "TrueArmsModel" "pairs") ∈ wAll := wT_3 149 rfl rfl
theorem wm_610 : (Jvm.Cond.laysFinal "TrueArmsModel" "TrueArmsModel" "pp" "[I") ∈ wAll := wT_3 150 rfl rfl
theorem wm_611 : (Jvm.Cond.soleField "TrueArmsModel" "pp") ∈ wAll := wT_3 151 rfl rfl
theorem wm_612 : (Jvm.Cond.laysFinal "TrueArmsModel" "TrueArmsModel" "qq" "[I") ∈ wAll := wT_3 152 rfl rfl
theorem wm_613 : (Jvm.Cond.soleField "TrueArmsModel" "qq") ∈ wAll := wT_3 153 rfl rfl
theorem wm_614 : (Jvm.Cond.laysFinal "TrueArmsModel" "TrueArmsModel" "xx" "[I") ∈ wAll := wT_3 154 rfl rfl
theorem wm_615 : (Jvm.Cond.soleField "TrueArmsModel" "xx") ∈ wAll := wT_3 155 rfl rfl
theorem wm_616 : (Jvm.Cond.laysFinal "TrueArmsModel" "TrueArmsModel" "yy" "[I") ∈ wAll := wT_3 156 rfl rfl
theorem wm_617 : (Jvm.Cond.soleField "TrueArmsModel" "yy") ∈ wAll := wT_3 157 rfl rfl
theorem wm_618 : (Jvm.Cond.laysFinal "TrueArmsModel" "TrueArmsModel" "lows" "[I") ∈ wAll := wT_3 158 rfl rfl
theorem wm_619 : (Jvm.Cond.soleField "TrueArmsModel" "lows") ∈ wAll := wT_3 159 rfl rfl
theorem wm_620 : (Jvm.Cond.laysFinal "TrueArmsModel" "TrueArmsModel" "spans" "[I") ∈ wAll := wT_3 160 rfl rfl
theorem wm_621 : (Jvm.Cond.soleField "TrueArmsModel" "spans") ∈ wAll := wT_3 161 rfl rfl
theorem wm_622 : (Jvm.Cond.lays "TrueArmsModel" "TrueArmsModel" "nearSquare" "J") ∈ wAll := wT_3 162 rfl rfl
theorem wm_623 : (Jvm.Cond.soleField "TrueArmsModel" "nearSquare") ∈ wAll := wT_3 163 rfl rfl
theorem wm_624 : (Jvm.Cond.lays "TrueArmsModel" "TrueArmsModel" "nearPosture" "I") ∈ wAll := wT_3 164 rfl rfl
theorem wm_625 : (Jvm.Cond.soleField "TrueArmsModel" "nearPosture") ∈ wAll := wT_3 165 rfl rfl
theorem wm_626 : (Jvm.Cond.laysFinal "TrueArmsModel" "TrueArmsModel" "forms" "[I") ∈ wAll := wT_3 166 rfl rfl
theorem wm_627 : (Jvm.Cond.soleField "TrueArmsModel" "forms") ∈ wAll := wT_3 167 rfl rfl
theorem wm_628 : (Jvm.Cond.laysFinal "TrueArmsModel" "TrueArmsModel" "sizes" "[I") ∈ wAll := wT_3 168 rfl rfl
theorem wm_629 : (Jvm.Cond.soleField "TrueArmsModel" "sizes") ∈ wAll := wT_3 169 rfl rfl
theorem wm_630 : (Jvm.Cond.laysFinal "TrueArmsModel" "TrueArmsModel" "items" "[I") ∈ wAll := wT_3 170 rfl rfl
theorem wm_631 : (Jvm.Cond.soleField "TrueArmsModel" "items") ∈ wAll := wT_3 171 rfl rfl
theorem wm_632 : (Jvm.Cond.laysFinal "TrueArmsModel" "TrueArmsModel" "moved" "[I") ∈ wAll := wT_3 172 rfl rfl
theorem wm_633 : (Jvm.Cond.soleField "TrueArmsModel" "moved") ∈ wAll := wT_3 173 rfl rfl
theorem wm_634 : (Jvm.Cond.lays "TrueArmsModel" "TrueArmsModel" "latest" "I") ∈ wAll := wT_3 174 rfl rfl
theorem wm_635 : (Jvm.Cond.soleField "TrueArmsModel" "latest") ∈ wAll := wT_3 175 rfl rfl
theorem wm_636 : (Jvm.Cond.superclass "TrueArmsModel" "java/lang/Object") ∈ wAll := wT_3 176 rfl rfl
theorem wm_637 : (Jvm.Cond.methodLink "TrueArmsLaw" (17 : Nat) ({ cls := "TrueArmsModel", name := "turn", desc := "(II)I" } : Jvm.MethodName)) ∈ wAll := wT_3 177 rfl rfl
theorem wm_638 : (Jvm.Cond.instanceMethod ({ cls := "TrueArmsModel", name := "turn", desc := "(II)I" } : Jvm.MethodName)) ∈ wAll := wT_3 178 rfl rfl
theorem wm_639 : (Jvm.Cond.selects "TrueArmsModel" ({ cls := "TrueArmsModel", name := "turn", desc := "(II)I" } : Jvm.MethodName) ({ cls := "TrueArmsModel", name := "turn", desc := "(II)I" } : Jvm.MethodName)) ∈ wAll := wT_3 179 rfl rfl
theorem wm_640 : (Jvm.Cond.code ({ cls := "TrueArmsModel", name := "turn", desc := "(II)I" } : Jvm.MethodName) prog_10_method_7_code (3 : Nat) (Option.some Jvm.ClassFile.FieldType.int)) ∈ wAll := wT_3 180 rfl rfl
theorem wm_641 : (Jvm.Cond.constantLong "TrueArmsModel" (68 : Nat) (35 : Int64)) ∈ wAll := wT_3 181 rfl rfl
theorem wm_642 : (Jvm.Cond.methodLink "TrueArmsModel" (70 : Nat) ({ cls := "TrueArmsModel", name := "in", desc := "(JJJ)Z" } : Jvm.MethodName)) ∈ wAll := wT_3 182 rfl rfl
theorem wm_643 : (Jvm.Cond.static ({ cls := "TrueArmsModel", name := "in", desc := "(JJJ)Z" } : Jvm.MethodName)) ∈ wAll := wT_3 183 rfl rfl
theorem wm_644 : (Jvm.Cond.code ({ cls := "TrueArmsModel", name := "in", desc := "(JJJ)Z" } : Jvm.MethodName) prog_10_method_3_code (6 : Nat) (Option.some Jvm.ClassFile.FieldType.boolean)) ∈ wAll := wT_3 184 rfl rfl
theorem wm_645 : (Jvm.Cond.methodLink "TrueArmsModel" (74 : Nat) ({ cls := "TrueArmsModel", name := "c", desc := "(I)I" } : Jvm.MethodName)) ∈ wAll := wT_3 185 rfl rfl
theorem wm_646 : (Jvm.Cond.instanceMethod ({ cls := "TrueArmsModel", name := "c", desc := "(I)I" } : Jvm.MethodName)) ∈ wAll := wT_3 187 rfl rfl
theorem wm_647 : (Jvm.Cond.code ({ cls := "TrueArmsModel", name := "c", desc := "(I)I" } : Jvm.MethodName) prog_10_method_5_code (2 : Nat) (Option.some Jvm.ClassFile.FieldType.int)) ∈ wAll := wT_3 188 rfl rfl
theorem wm_648 : (Jvm.Cond.methodLink "TrueArmsModel" (78 : Nat) ({ cls := "TrueArmsModel", name := "s", desc := "(I)I" } : Jvm.MethodName)) ∈ wAll := wT_3 189 rfl rfl
theorem wm_649 : (Jvm.Cond.instanceMethod ({ cls := "TrueArmsModel", name := "s", desc := "(I)I" } : Jvm.MethodName)) ∈ wAll := wT_3 191 rfl rfl
theorem wm_650 : (Jvm.Cond.code ({ cls := "TrueArmsModel", name := "s", desc := "(I)I" } : Jvm.MethodName) prog_10_method_6_code (2 : Nat) (Option.some Jvm.ClassFile.FieldType.int)) ∈ wAll := wT_3 192 rfl rfl
theorem wm_651 : (Jvm.Cond.methodLink "TrueArmsLaw" (21 : Nat) ({ cls := "TrueArmsModel", name := "length", desc := "(II)I" } : Jvm.MethodName)) ∈ wAll := wT_3 193 rfl rfl
theorem wm_652 : (Jvm.Cond.instanceMethod ({ cls := "TrueArmsModel", name := "length", desc := "(II)I" } : Jvm.MethodName)) ∈ wAll := wT_3 194 rfl rfl
theorem wm_653 : (Jvm.Cond.selects "TrueArmsModel" ({ cls := "TrueArmsModel", name := "length", desc := "(II)I" } : Jvm.MethodName) ({ cls := "TrueArmsModel", name := "length", desc := "(II)I" } : Jvm.MethodName)) ∈ wAll := wT_3 195 rfl rfl
theorem wm_654 : (Jvm.Cond.code ({ cls := "TrueArmsModel", name := "length", desc := "(II)I" } : Jvm.MethodName) prog_10_method_8_code (4 : Nat) (Option.some Jvm.ClassFile.FieldType.int)) ∈ wAll := wT_3 196 rfl rfl
theorem wm_655 : (Jvm.Cond.constantLong "TrueArmsModel" (81 : Nat) (2 : Int64)) ∈ wAll := wT_3 197 rfl rfl
theorem wm_656 : (Jvm.Cond.constantLong "TrueArmsModel" (83 : Nat) (999 : Int64)) ∈ wAll := wT_3 198 rfl rfl
theorem wm_657 : (Jvm.Cond.methodLink "TrueArmsLaw" (26 : Nat) ({ cls := "TrueArmsModel", name := "posture", desc := "(III)I" } : Jvm.MethodName)) ∈ wAll := wT_3 199 rfl rfl
theorem wm_658 : (Jvm.Cond.instanceMethod ({ cls := "TrueArmsModel", name := "posture", desc := "(III)I" } : Jvm.MethodName)) ∈ wAll := wT_3 200 rfl rfl
theorem wm_659 : (Jvm.Cond.selects "TrueArmsModel" ({ cls := "TrueArmsModel", name := "posture", desc := "(III)I" } : Jvm.MethodName) ({ cls := "TrueArmsModel", name := "posture", desc := "(III)I" } : Jvm.MethodName)) ∈ wAll := wT_3 201 rfl rfl
theorem wm_660 : (Jvm.Cond.code ({ cls := "TrueArmsModel", name := "posture", desc := "(III)I" } : Jvm.MethodName) prog_10_method_9_code (4 : Nat) (Option.some Jvm.ClassFile.FieldType.int)) ∈ wAll := wT_3 202 rfl rfl
theorem wm_661 : (Jvm.Cond.methodLink "TrueArmsLaw" (31 : Nat) ({ cls := "TrueArmsModel", name := "clear", desc := "()I" } : Jvm.MethodName)) ∈ wAll := wT_3 203 rfl rfl
theorem wm_662 : (Jvm.Cond.instanceMethod ({ cls := "TrueArmsModel", name := "clear", desc := "()I" } : Jvm.MethodName)) ∈ wAll := wT_3 204 rfl rfl
theorem wm_663 : (Jvm.Cond.selects "TrueArmsModel" ({ cls := "TrueArmsModel", name := "clear", desc := "()I" } : Jvm.MethodName) ({ cls := "TrueArmsModel", name := "clear", desc := "()I" } : Jvm.MethodName)) ∈ wAll := wT_3 205 rfl rfl
theorem wm_664 : (Jvm.Cond.code ({ cls := "TrueArmsModel", name := "clear", desc := "()I" } : Jvm.MethodName) prog_10_method_10_code (2 : Nat) (Option.some Jvm.ClassFile.FieldType.int)) ∈ wAll := wT_3 206 rfl rfl
theorem wm_665 : (Jvm.Cond.methodLink "TrueArmsLaw" (35 : Nat) ({ cls := "TrueArmsModel", name := "hand", desc := "(II)I" } : Jvm.MethodName)) ∈ wAll := wT_3 207 rfl rfl
theorem wm_666 : (Jvm.Cond.instanceMethod ({ cls := "TrueArmsModel", name := "hand", desc := "(II)I" } : Jvm.MethodName)) ∈ wAll := wT_3 208 rfl rfl
theorem wm_667 : (Jvm.Cond.selects "TrueArmsModel" ({ cls := "TrueArmsModel", name := "hand", desc := "(II)I" } : Jvm.MethodName) ({ cls := "TrueArmsModel", name := "hand", desc := "(II)I" } : Jvm.MethodName)) ∈ wAll := wT_3 209 rfl rfl
theorem wm_668 : (Jvm.Cond.code ({ cls := "TrueArmsModel", name := "hand", desc := "(II)I" } : Jvm.MethodName) prog_10_method_14_code (3 : Nat) (Option.some Jvm.ClassFile.FieldType.int)) ∈ wAll := wT_3 210 rfl rfl
theorem wm_669 : (Jvm.Cond.methodLink "TrueArmsModel" (93 : Nat) ({ cls := "TrueArmsModel", name := "isPosture", desc := "(I)Z" } : Jvm.MethodName)) ∈ wAll := wT_3 211 rfl rfl
theorem wm_670 : (Jvm.Cond.instanceMethod ({ cls := "TrueArmsModel", name := "isPosture", desc := "(I)Z" } : Jvm.MethodName)) ∈ wAll := wT_3 213 rfl rfl
theorem wm_671 : (Jvm.Cond.code ({ cls := "TrueArmsModel", name := "isPosture", desc := "(I)Z" } : Jvm.MethodName) prog_10_method_11_code (2 : Nat) (Option.some Jvm.ClassFile.FieldType.boolean)) ∈ wAll := wT_3 214 rfl rfl
theorem wm_672 : (Jvm.Cond.methodLink "TrueArmsModel" (97 : Nat) ({ cls := "TrueArmsModel", name := "handOf", desc := "(II)I" } : Jvm.MethodName)) ∈ wAll := wT_3 215 rfl rfl
theorem wm_673 : (Jvm.Cond.instanceMethod ({ cls := "TrueArmsModel", name := "handOf", desc := "(II)I" } : Jvm.MethodName)) ∈ wAll := wT_3 217 rfl rfl
theorem wm_674 : (Jvm.Cond.code ({ cls := "TrueArmsModel", name := "handOf", desc := "(II)I" } : Jvm.MethodName) prog_10_method_13_code (3 : Nat) (Option.some Jvm.ClassFile.FieldType.int)) ∈ wAll := wT_3 218 rfl rfl
theorem wm_675 : (Jvm.Cond.methodLink "TrueArmsModel" (89 : Nat) ({ cls := "TrueArmsModel", name := "part", desc := "(III)I" } : Jvm.MethodName)) ∈ wAll := wT_3 219 rfl rfl
theorem wm_676 : (Jvm.Cond.instanceMethod ({ cls := "TrueArmsModel", name := "part", desc := "(III)I" } : Jvm.MethodName)) ∈ wAll := wT_3 221 rfl rfl
theorem wm_677 : (Jvm.Cond.code ({ cls := "TrueArmsModel", name := "part", desc := "(III)I" } : Jvm.MethodName) prog_10_method_12_code (5 : Nat) (Option.some Jvm.ClassFile.FieldType.int)) ∈ wAll := wT_3 222 rfl rfl
theorem wm_678 : (Jvm.Cond.constant "TrueArmsModel" (101 : Nat) (-2147483648 : Int32)) ∈ wAll := wT_3 223 rfl rfl
theorem wm_679 : (Jvm.Cond.methodLink "TrueArmsLaw" (43 : Nat) ({ cls := "TrueArmsModel", name := "measure", desc := "(II)I" } : Jvm.MethodName)) ∈ wAll := wT_3 224 rfl rfl
theorem wm_680 : (Jvm.Cond.instanceMethod ({ cls := "TrueArmsModel", name := "measure", desc := "(II)I" } : Jvm.MethodName)) ∈ wAll := wT_3 225 rfl rfl
theorem wm_681 : (Jvm.Cond.selects "TrueArmsModel" ({ cls := "TrueArmsModel", name := "measure", desc := "(II)I" } : Jvm.MethodName) ({ cls := "TrueArmsModel", name := "measure", desc := "(II)I" } : Jvm.MethodName)) ∈ wAll := wT_3 226 rfl rfl
theorem wm_682 : (Jvm.Cond.code ({ cls := "TrueArmsModel", name := "measure", desc := "(II)I" } : Jvm.MethodName) prog_10_method_17_code (3 : Nat) (Option.some Jvm.ClassFile.FieldType.int)) ∈ wAll := wT_3 227 rfl rfl
theorem wm_683 : (Jvm.Cond.methodLink "TrueArmsModel" (109 : Nat) ({ cls := "TrueArmsModel", name := "hasMeasure", desc := "(I)Z" } : Jvm.MethodName)) ∈ wAll := wT_3 228 rfl rfl
theorem wm_684 : (Jvm.Cond.instanceMethod ({ cls := "TrueArmsModel", name := "hasMeasure", desc := "(I)Z" } : Jvm.MethodName)) ∈ wAll := wT_3 230 rfl rfl
theorem wm_685 : (Jvm.Cond.code ({ cls := "TrueArmsModel", name := "hasMeasure", desc := "(I)Z" } : Jvm.MethodName) prog_10_method_16_code (2 : Nat) (Option.some Jvm.ClassFile.FieldType.boolean)) ∈ wAll := wT_3 231 rfl rfl
theorem wm_686 : (Jvm.Cond.methodLink "TrueArmsModel" (102 : Nat) ({ cls := "TrueArmsModel", name := "item", desc := "(I)I" } : Jvm.MethodName)) ∈ wAll := wT_3 232 rfl rfl
theorem wm_687 : (Jvm.Cond.instanceMethod ({ cls := "TrueArmsModel", name := "item", desc := "(I)I" } : Jvm.MethodName)) ∈ wAll := wT_3 234 rfl rfl
theorem wm_688 : (Jvm.Cond.code ({ cls := "TrueArmsModel", name := "item", desc := "(I)I" } : Jvm.MethodName) prog_10_method_15_code (2 : Nat) (Option.some Jvm.ClassFile.FieldType.int)) ∈ wAll := wT_3 235 rfl rfl
theorem wm_689 : (Jvm.Cond.constantLong "TrueArmsModel" (105 : Nat) (-9999 : Int64)) ∈ wAll := wT_3 236 rfl rfl
theorem wm_690 : (Jvm.Cond.constantLong "TrueArmsModel" (107 : Nat) (9999 : Int64)) ∈ wAll := wT_3 237 rfl rfl
theorem wm_691 : (Jvm.Cond.methodLink "TrueArmsLaw" (48 : Nat) ({ cls := "TrueArmsModel", name := "leave", desc := "(IZ)I" } : Jvm.MethodName)) ∈ wAll := wT_3 238 rfl rfl
theorem wm_692 : (Jvm.Cond.instanceMethod ({ cls := "TrueArmsModel", name := "leave", desc := "(IZ)I" } : Jvm.MethodName)) ∈ wAll := wT_3 239 rfl rfl
theorem wm_693 : (Jvm.Cond.selects "TrueArmsModel" ({ cls := "TrueArmsModel", name := "leave", desc := "(IZ)I" } : Jvm.MethodName) ({ cls := "TrueArmsModel", name := "leave", desc := "(IZ)I" } : Jvm.MethodName)) ∈ wAll := wT_4 0 rfl rfl
theorem wm_694 : (Jvm.Cond.code ({ cls := "TrueArmsModel", name := "leave", desc := "(IZ)I" } : Jvm.MethodName) prog_10_method_18_code (3 : Nat) (Option.some Jvm.ClassFile.FieldType.int)) ∈ wAll := wT_4 1 rfl rfl
theorem wm_695 : (Jvm.Cond.methodLink "TrueArmsLaw" (52 : Nat) ({ cls := "TrueArmsModel", name := "used", desc := "()I" } : Jvm.MethodName)) ∈ wAll := wT_4 2 rfl rfl
theorem wm_696 : (Jvm.Cond.instanceMethod ({ cls := "TrueArmsModel", name := "used", desc := "()I" } : Jvm.MethodName)) ∈ wAll := wT_4 3 rfl rfl
theorem wm_697 : (Jvm.Cond.selects "TrueArmsModel" ({ cls := "TrueArmsModel", name := "used", desc := "()I" } : Jvm.MethodName) ({ cls := "TrueArmsModel", name := "used", desc := "()I" } : Jvm.MethodName)) ∈ wAll := wT_4 4 rfl rfl
theorem wm_698 : (Jvm.Cond.code ({ cls := "TrueArmsModel", name := "used", desc := "()I" } : Jvm.MethodName) prog_10_method_20_code (1 : Nat) (Option.some Jvm.ClassFile.FieldType.int)) ∈ wAll := wT_4 5 rfl rfl
theorem wm_699 : (Jvm.Cond.methodLink "TrueArmsModel" (115 : Nat) ({ cls := "TrueArmsModel", name := "findUsed", desc := "()V" } : Jvm.MethodName)) ∈ wAll := wT_4 6 rfl rfl
theorem wm_700 : (Jvm.Cond.instanceMethod ({ cls := "TrueArmsModel", name := "findUsed", desc := "()V" } : Jvm.MethodName)) ∈ wAll := wT_4 8 rfl rfl
theorem wm_701 : (Jvm.Cond.code ({ cls := "TrueArmsModel", name := "findUsed", desc := "()V" } : Jvm.MethodName) prog_10_method_19_code (2 : Nat) (Option.none : Option Jvm.ClassFile.FieldType)) ∈ wAll := wT_4 9 rfl rfl
theorem wm_702 : (Jvm.Cond.methodLink "TrueArmsLaw" (57 : Nat) ({ cls := "TrueArmsModel", name := "table", desc := "(II)J" } : Jvm.MethodName)) ∈ wAll := wT_4 10 rfl rfl
theorem wm_703 : (Jvm.Cond.instanceMethod ({ cls := "TrueArmsModel", name := "table", desc := "(II)J" } : Jvm.MethodName)) ∈ wAll := wT_4 11 rfl rfl
theorem wm_704 : (Jvm.Cond.selects "TrueArmsModel" ({ cls := "TrueArmsModel", name := "table", desc := "(II)J" } : Jvm.MethodName) ({ cls := "TrueArmsModel", name := "table", desc := "(II)J" } : Jvm.MethodName)) ∈ wAll := wT_4 12 rfl rfl
theorem wm_705 : (Jvm.Cond.code ({ cls := "TrueArmsModel", name := "table", desc := "(II)J" } : Jvm.MethodName) prog_10_method_24_code (3 : Nat) (Option.some Jvm.ClassFile.FieldType.long)) ∈ wAll := wT_4 13 rfl rfl
theorem wm_706 : (Jvm.Cond.methodLink "TrueArmsModel" (125 : Nat) ({ cls := "TrueArmsModel", name := "no", desc := "(I)J" } : Jvm.MethodName)) ∈ wAll := wT_4 14 rfl rfl
theorem wm_707 : (Jvm.Cond.static ({ cls := "TrueArmsModel", name := "no", desc := "(I)J" } : Jvm.MethodName)) ∈ wAll := wT_4 15 rfl rfl
theorem wm_708 : (Jvm.Cond.code ({ cls := "TrueArmsModel", name := "no", desc := "(I)J" } : Jvm.MethodName) prog_10_method_4_code (1 : Nat) (Option.some Jvm.ClassFile.FieldType.long)) ∈ wAll := wT_4 16 rfl rfl
theorem wm_709 : (Jvm.Cond.constantLong "TrueArmsModel" (66 : Nat) (-9223372036854775808 : Int64)) ∈ wAll := wT_4 17 rfl rfl
theorem wm_710 : (Jvm.Cond.methodLink "TrueArmsModel" (129 : Nat) ({ cls := "TrueArmsModel", name := "findTable", desc := "()V" } : Jvm.MethodName)) ∈ wAll := wT_4 18 rfl rfl
theorem wm_711 : (Jvm.Cond.instanceMethod ({ cls := "TrueArmsModel", name := "findTable", desc := "()V" } : Jvm.MethodName)) ∈ wAll := wT_4 20 rfl rfl
theorem wm_712 : (Jvm.Cond.code ({ cls := "TrueArmsModel", name := "findTable", desc := "()V" } : Jvm.MethodName) prog_10_method_23_code (5 : Nat) (Option.none : Option Jvm.ClassFile.FieldType)) ∈ wAll := wT_4 21 rfl rfl
theorem wm_713 : (Jvm.Cond.methodLink "TrueArmsModel" (118 : Nat) ({ cls := "TrueArmsModel", name := "nothing", desc := "()V" } : Jvm.MethodName)) ∈ wAll := wT_4 22 rfl rfl
theorem wm_714 : (Jvm.Cond.instanceMethod ({ cls := "TrueArmsModel", name := "nothing", desc := "()V" } : Jvm.MethodName)) ∈ wAll := wT_4 24 rfl rfl
theorem wm_715 : (Jvm.Cond.code ({ cls := "TrueArmsModel", name := "nothing", desc := "()V" } : Jvm.MethodName) prog_10_method_21_code (2 : Nat) (Option.none : Option Jvm.ClassFile.FieldType)) ∈ wAll := wT_4 25 rfl rfl
theorem wm_716 : (Jvm.Cond.methodLink "TrueArmsModel" (121 : Nat) ({ cls := "TrueArmsModel", name := "adds", desc := "(I)V" } : Jvm.MethodName)) ∈ wAll := wT_4 26 rfl rfl
theorem wm_717 : (Jvm.Cond.instanceMethod ({ cls := "TrueArmsModel", name := "adds", desc := "(I)V" } : Jvm.MethodName)) ∈ wAll := wT_4 28 rfl rfl
theorem wm_718 : (Jvm.Cond.code ({ cls := "TrueArmsModel", name := "adds", desc := "(I)V" } : Jvm.MethodName) prog_10_method_22_code (5 : Nat) (Option.none : Option Jvm.ClassFile.FieldType)) ∈ wAll := wT_4 29 rfl rfl
theorem wm_719 : (Jvm.Cond.methodLink "TrueArmsLaw" (61 : Nat) ({ cls := "TrueArmsModel", name := "rank", desc := "()I" } : Jvm.MethodName)) ∈ wAll := wT_4 30 rfl rfl
theorem wm_720 : (Jvm.Cond.instanceMethod ({ cls := "TrueArmsModel", name := "rank", desc := "()I" } : Jvm.MethodName)) ∈ wAll := wT_4 31 rfl rfl
theorem wm_721 : (Jvm.Cond.selects "TrueArmsModel" ({ cls := "TrueArmsModel", name := "rank", desc := "()I" } : Jvm.MethodName) ({ cls := "TrueArmsModel", name := "rank", desc := "()I" } : Jvm.MethodName)) ∈ wAll := wT_4 32 rfl rfl
theorem wm_722 : (Jvm.Cond.code ({ cls := "TrueArmsModel", name := "rank", desc := "()I" } : Jvm.MethodName) prog_10_method_29_code (1 : Nat) (Option.some Jvm.ClassFile.FieldType.int)) ∈ wAll := wT_4 33 rfl rfl
theorem wm_723 : (Jvm.Cond.methodLink "TrueArmsModel" (144 : Nat) ({ cls := "TrueArmsModel", name := "rankNow", desc := "()I" } : Jvm.MethodName)) ∈ wAll := wT_4 34 rfl rfl
theorem wm_724 : (Jvm.Cond.instanceMethod ({ cls := "TrueArmsModel", name := "rankNow", desc := "()I" } : Jvm.MethodName)) ∈ wAll := wT_4 36 rfl rfl
theorem wm_725 : (Jvm.Cond.code ({ cls := "TrueArmsModel", name := "rankNow", desc := "()I" } : Jvm.MethodName) prog_10_method_28_code (2 : Nat) (Option.some Jvm.ClassFile.FieldType.int)) ∈ wAll := wT_4 37 rfl rfl
theorem wm_726 : (Jvm.Cond.methodLink "TrueArmsModel" (136 : Nat) ({ cls := "TrueArmsModel", name := "weightNow", desc := "()J" } : Jvm.MethodName)) ∈ wAll := wT_4 38 rfl rfl
theorem wm_727 : (Jvm.Cond.instanceMethod ({ cls := "TrueArmsModel", name := "weightNow", desc := "()J" } : Jvm.MethodName)) ∈ wAll := wT_4 40 rfl rfl
theorem wm_728 : (Jvm.Cond.code ({ cls := "TrueArmsModel", name := "weightNow", desc := "()J" } : Jvm.MethodName) prog_10_method_26_code (1 : Nat) (Option.some Jvm.ClassFile.FieldType.long)) ∈ wAll := wT_4 41 rfl rfl
theorem wm_729 : (Jvm.Cond.methodLink "TrueArmsModel" (132 : Nat) ({ cls := "TrueArmsModel", name := "det", desc := "(JJJJJJJJJ)J" } : Jvm.MethodName)) ∈ wAll := wT_4 42 rfl rfl
theorem wm_730 : (Jvm.Cond.static ({ cls := "TrueArmsModel", name := "det", desc := "(JJJJJJJJJ)J" } : Jvm.MethodName)) ∈ wAll := wT_4 43 rfl rfl
theorem wm_731 : (Jvm.Cond.code ({ cls := "TrueArmsModel", name := "det", desc := "(JJJJJJJJJ)J" } : Jvm.MethodName) prog_10_method_25_code (18 : Nat) (Option.some Jvm.ClassFile.FieldType.long)) ∈ wAll := wT_4 44 rfl rfl
theorem wm_732 : (Jvm.Cond.methodLink "TrueArmsModel" (140 : Nat) ({ cls := "TrueArmsModel", name := "stands", desc := "(II)Z" } : Jvm.MethodName)) ∈ wAll := wT_4 45 rfl rfl
theorem wm_733 : (Jvm.Cond.instanceMethod ({ cls := "TrueArmsModel", name := "stands", desc := "(II)Z" } : Jvm.MethodName)) ∈ wAll := wT_4 47 rfl rfl
theorem wm_734 : (Jvm.Cond.code ({ cls := "TrueArmsModel", name := "stands", desc := "(II)Z" } : Jvm.MethodName) prog_10_method_27_code (15 : Nat) (Option.some Jvm.ClassFile.FieldType.boolean)) ∈ wAll := wT_4 48 rfl rfl
theorem wm_735 : (Jvm.Cond.methodLink "TrueArmsLaw" (66 : Nat) ({ cls := "TrueArmsModel", name := "told", desc := "(I)I" } : Jvm.MethodName)) ∈ wAll := wT_4 49 rfl rfl
theorem wm_736 : (Jvm.Cond.instanceMethod ({ cls := "TrueArmsModel", name := "told", desc := "(I)I" } : Jvm.MethodName)) ∈ wAll := wT_4 50 rfl rfl
theorem wm_737 : (Jvm.Cond.selects "TrueArmsModel" ({ cls := "TrueArmsModel", name := "told", desc := "(I)I" } : Jvm.MethodName) ({ cls := "TrueArmsModel", name := "told", desc := "(I)I" } : Jvm.MethodName)) ∈ wAll := wT_4 51 rfl rfl
theorem wm_738 : (Jvm.Cond.code ({ cls := "TrueArmsModel", name := "told", desc := "(I)I" } : Jvm.MethodName) prog_10_method_30_code (6 : Nat) (Option.some Jvm.ClassFile.FieldType.int)) ∈ wAll := wT_4 52 rfl rfl
theorem wm_739 : (Jvm.Cond.methodLink "TrueArmsLaw" (71 : Nat) ({ cls := "TrueArmsModel", name := "fit", desc := "(I)J" } : Jvm.MethodName)) ∈ wAll := wT_4 53 rfl rfl
theorem wm_740 : (Jvm.Cond.instanceMethod ({ cls := "TrueArmsModel", name := "fit", desc := "(I)J" } : Jvm.MethodName)) ∈ wAll := wT_4 54 rfl rfl
theorem wm_741 : (Jvm.Cond.selects "TrueArmsModel" ({ cls := "TrueArmsModel", name := "fit", desc := "(I)J" } : Jvm.MethodName) ({ cls := "TrueArmsModel", name := "fit", desc := "(I)J" } : Jvm.MethodName)) ∈ wAll := wT_4 55 rfl rfl
theorem wm_742 : (Jvm.Cond.code ({ cls := "TrueArmsModel", name := "fit", desc := "(I)J" } : Jvm.MethodName) prog_10_method_32_code (2 : Nat) (Option.some Jvm.ClassFile.FieldType.long)) ∈ wAll := wT_4 56 rfl rfl
theorem wm_743 : (Jvm.Cond.methodLink "TrueArmsModel" (150 : Nat) ({ cls := "TrueArmsModel", name := "fitOf", desc := "(I)J" } : Jvm.MethodName)) ∈ wAll := wT_4 57 rfl rfl
theorem wm_744 : (Jvm.Cond.instanceMethod ({ cls := "TrueArmsModel", name := "fitOf", desc := "(I)J" } : Jvm.MethodName)) ∈ wAll := wT_4 59 rfl rfl
theorem wm_745 : (Jvm.Cond.code ({ cls := "TrueArmsModel", name := "fitOf", desc := "(I)J" } : Jvm.MethodName) prog_10_method_31_code (8 : Nat) (Option.some Jvm.ClassFile.FieldType.long)) ∈ wAll := wT_4 60 rfl rfl
theorem wm_746 : (Jvm.Cond.constantLong "TrueArmsModel" (148 : Nat) (6500 : Int64)) ∈ wAll := wT_4 61 rfl rfl
theorem wm_747 : (Jvm.Cond.methodLink "TrueArmsLaw" (39 : Nat) ({ cls := "TrueArmsModel", name := "mend", desc := "()I" } : Jvm.MethodName)) ∈ wAll := wT_4 62 rfl rfl
theorem wm_748 : (Jvm.Cond.instanceMethod ({ cls := "TrueArmsModel", name := "mend", desc := "()I" } : Jvm.MethodName)) ∈ wAll := wT_4 63 rfl rfl
theorem wm_749 : (Jvm.Cond.selects "TrueArmsModel" ({ cls := "TrueArmsModel", name := "mend", desc := "()I" } : Jvm.MethodName) ({ cls := "TrueArmsModel", name := "mend", desc := "()I" } : Jvm.MethodName)) ∈ wAll := wT_4 64 rfl rfl
theorem wm_750 : (Jvm.Cond.code ({ cls := "TrueArmsModel", name := "mend", desc := "()I" } : Jvm.MethodName) prog_10_method_33_code (4 : Nat) (Option.some Jvm.ClassFile.FieldType.int)) ∈ wAll := wT_4 65 rfl rfl
theorem wm_751 : (Jvm.Cond.constantLong "TrueArmsModel" (153 : Nat) (50 : Int64)) ∈ wAll := wT_4 66 rfl rfl
theorem wm_752 : (Jvm.Cond.constantLong "TrueArmsModel" (155 : Nat) (200 : Int64)) ∈ wAll := wT_4 67 rfl rfl
theorem wm_753 : (Jvm.Cond.constantLong "TrueArmsModel" (157 : Nat) (99900 : Int64)) ∈ wAll := wT_4 68 rfl rfl
theorem wm_754 : (Jvm.Cond.constantLong "TrueArmsModel" (159 : Nat) (100 : Int64)) ∈ wAll := wT_4 69 rfl rfl
theorem wm_755 : (Jvm.Cond.methodLink "TrueArmsLaw" (75 : Nat) ({ cls := "TrueArmsModel", name := "miss", desc := "(I)I" } : Jvm.MethodName)) ∈ wAll := wT_4 70 rfl rfl
theorem wm_756 : (Jvm.Cond.instanceMethod ({ cls := "TrueArmsModel", name := "miss", desc := "(I)I" } : Jvm.MethodName)) ∈ wAll := wT_4 71 rfl rfl
theorem wm_757 : (Jvm.Cond.selects "TrueArmsModel" ({ cls := "TrueArmsModel", name := "miss", desc := "(I)I" } : Jvm.MethodName) ({ cls := "TrueArmsModel", name := "miss", desc := "(I)I" } : Jvm.MethodName)) ∈ wAll := wT_4 72 rfl rfl
theorem wm_758 : (Jvm.Cond.code ({ cls := "TrueArmsModel", name := "miss", desc := "(I)I" } : Jvm.MethodName) prog_10_method_35_code (2 : Nat) (Option.some Jvm.ClassFile.FieldType.int)) ∈ wAll := wT_4 73 rfl rfl
theorem wm_759 : (Jvm.Cond.methodLink "TrueArmsModel" (161 : Nat) ({ cls := "TrueArmsModel", name := "missOf", desc := "(I)I" } : Jvm.MethodName)) ∈ wAll := wT_4 74 rfl rfl
theorem wm_760 : (Jvm.Cond.instanceMethod ({ cls := "TrueArmsModel", name := "missOf", desc := "(I)I" } : Jvm.MethodName)) ∈ wAll := wT_4 76 rfl rfl
theorem wm_761 : (Jvm.Cond.code ({ cls := "TrueArmsModel", name := "missOf", desc := "(I)I" } : Jvm.MethodName) prog_10_method_34_code (4 : Nat) (Option.some Jvm.ClassFile.FieldType.int)) ∈ wAll := wT_4 77 rfl rfl
theorem wm_762 : (Jvm.Cond.methodLink "TrueArmsLaw" (79 : Nat) ({ cls := "TrueArmsModel", name := "worst", desc := "()I" } : Jvm.MethodName)) ∈ wAll := wT_4 78 rfl rfl
theorem wm_763 : (Jvm.Cond.instanceMethod ({ cls := "TrueArmsModel", name := "worst", desc := "()I" } : Jvm.MethodName)) ∈ wAll := wT_4 79 rfl rfl
theorem wm_764 : (Jvm.Cond.selects "TrueArmsModel" ({ cls := "TrueArmsModel", name := "worst", desc := "()I" } : Jvm.MethodName) ({ cls := "TrueArmsModel", name := "worst", desc := "()I" } : Jvm.MethodName)) ∈ wAll := wT_4 80 rfl rfl
theorem wm_765 : (Jvm.Cond.code ({ cls := "TrueArmsModel", name := "worst", desc := "()I" } : Jvm.MethodName) prog_10_method_36_code (3 : Nat) (Option.some Jvm.ClassFile.FieldType.int)) ∈ wAll := wT_4 81 rfl rfl
theorem wm_766 : (Jvm.Cond.methodLink "TrueArmsLaw" (87 : Nat) ({ cls := "TrueArmsModel", name := "weight", desc := "(I)J" } : Jvm.MethodName)) ∈ wAll := wT_4 82 rfl rfl
theorem wm_767 : (Jvm.Cond.instanceMethod ({ cls := "TrueArmsModel", name := "weight", desc := "(I)J" } : Jvm.MethodName)) ∈ wAll := wT_4 83 rfl rfl
theorem wm_768 : (Jvm.Cond.selects "TrueArmsModel" ({ cls := "TrueArmsModel", name := "weight", desc := "(I)J" } : Jvm.MethodName) ({ cls := "TrueArmsModel", name := "weight", desc := "(I)J" } : Jvm.MethodName)) ∈ wAll := wT_4 84 rfl rfl
theorem wm_769 : (Jvm.Cond.code ({ cls := "TrueArmsModel", name := "weight", desc := "(I)J" } : Jvm.MethodName) prog_10_method_39_code (2 : Nat) (Option.some Jvm.ClassFile.FieldType.long)) ∈ wAll := wT_4 85 rfl rfl
theorem wm_770 : (Jvm.Cond.methodLink "TrueArmsModel" (164 : Nat) ({ cls := "TrueArmsModel", name := "first10", desc := "()I" } : Jvm.MethodName)) ∈ wAll := wT_4 86 rfl rfl
theorem wm_771 : (Jvm.Cond.instanceMethod ({ cls := "TrueArmsModel", name := "first10", desc := "()I" } : Jvm.MethodName)) ∈ wAll := wT_4 88 rfl rfl
theorem wm_772 : (Jvm.Cond.code ({ cls := "TrueArmsModel", name := "first10", desc := "()I" } : Jvm.MethodName) prog_10_method_37_code (1 : Nat) (Option.some Jvm.ClassFile.FieldType.int)) ∈ wAll := wT_4 89 rfl rfl
theorem wm_773 : (Jvm.Cond.methodLink "TrueArmsModel" (167 : Nat) ({ cls := "TrueArmsModel", name := "weightOf", desc := "(I)J" } : Jvm.MethodName)) ∈ wAll := wT_4 90 rfl rfl
theorem wm_774 : (Jvm.Cond.instanceMethod ({ cls := "TrueArmsModel", name := "weightOf", desc := "(I)J" } : Jvm.MethodName)) ∈ wAll := wT_4 92 rfl rfl
theorem wm_775 : (Jvm.Cond.code ({ cls := "TrueArmsModel", name := "weightOf", desc := "(I)J" } : Jvm.MethodName) prog_10_method_38_code (3 : Nat) (Option.some Jvm.ClassFile.FieldType.long)) ∈ wAll := wT_4 93 rfl rfl
theorem wm_776 : (Jvm.Cond.methodLink "TrueArmsLaw" (83 : Nat) ({ cls := "TrueArmsModel", name := "best", desc := "(I)I" } : Jvm.MethodName)) ∈ wAll := wT_4 94 rfl rfl
theorem wm_777 : (Jvm.Cond.instanceMethod ({ cls := "TrueArmsModel", name := "best", desc := "(I)I" } : Jvm.MethodName)) ∈ wAll := wT_4 95 rfl rfl
theorem wm_778 : (Jvm.Cond.selects "TrueArmsModel" ({ cls := "TrueArmsModel", name := "best", desc := "(I)I" } : Jvm.MethodName) ({ cls := "TrueArmsModel", name := "best", desc := "(I)I" } : Jvm.MethodName)) ∈ wAll := wT_4 96 rfl rfl
theorem wm_779 : (Jvm.Cond.code ({ cls := "TrueArmsModel", name := "best", desc := "(I)I" } : Jvm.MethodName) prog_10_method_40_code (8 : Nat) (Option.some Jvm.ClassFile.FieldType.int)) ∈ wAll := wT_4 97 rfl rfl
theorem wm_780 : (Jvm.Cond.constantLong "TrueArmsModel" (170 : Nat) (4 : Int64)) ∈ wAll := wT_4 98 rfl rfl
theorem wm_781 : (Jvm.Cond.methodLink "TrueArmsLaw" (92 : Nat) ({ cls := "TrueArmsModel", name := "pair", desc := "(IIII)I" } : Jvm.MethodName)) ∈ wAll := wT_4 99 rfl rfl
theorem wm_782 : (Jvm.Cond.instanceMethod ({ cls := "TrueArmsModel", name := "pair", desc := "(IIII)I" } : Jvm.MethodName)) ∈ wAll := wT_4 100 rfl rfl
theorem wm_783 : (Jvm.Cond.selects "TrueArmsModel" ({ cls := "TrueArmsModel", name := "pair", desc := "(IIII)I" } : Jvm.MethodName) ({ cls := "TrueArmsModel", name := "pair", desc := "(IIII)I" } : Jvm.MethodName)) ∈ wAll := wT_4 101 rfl rfl
theorem wm_784 : (Jvm.Cond.code ({ cls := "TrueArmsModel", name := "pair", desc := "(IIII)I" } : Jvm.MethodName) prog_10_method_42_code (5 : Nat) (Option.some Jvm.ClassFile.FieldType.int)) ∈ wAll := wT_4 102 rfl rfl
theorem wm_785 : (Jvm.Cond.methodLink "TrueArmsModel" (176 : Nat) ({ cls := "TrueArmsModel", name := "isPart", desc := "(I)Z" } : Jvm.MethodName)) ∈ wAll := wT_4 103 rfl rfl
theorem wm_786 : (Jvm.Cond.static ({ cls := "TrueArmsModel", name := "isPart", desc := "(I)Z" } : Jvm.MethodName)) ∈ wAll := wT_4 104 rfl rfl
theorem wm_787 : (Jvm.Cond.code ({ cls := "TrueArmsModel", name := "isPart", desc := "(I)Z" } : Jvm.MethodName) prog_10_method_41_code (1 : Nat) (Option.some Jvm.ClassFile.FieldType.boolean)) ∈ wAll := wT_4 105 rfl rfl
theorem wm_788 : (Jvm.Cond.constantLong "TrueArmsModel" (172 : Nat) (-1000 : Int64)) ∈ wAll := wT_4 106 rfl rfl
theorem wm_789 : (Jvm.Cond.constantLong "TrueArmsModel" (174 : Nat) (1000 : Int64)) ∈ wAll := wT_4 107 rfl rfl
theorem wm_790 : (Jvm.Cond.methodLink "TrueArmsLaw" (96 : Nat) ({ cls := "TrueArmsModel", name := "shut", desc := "()I" } : Jvm.MethodName)) ∈ wAll := wT_4 108 rfl rfl
theorem wm_791 : (Jvm.Cond.instanceMethod ({ cls := "TrueArmsModel", name := "shut", desc := "()I" } : Jvm.MethodName)) ∈ wAll := wT_4 109 rfl rfl
theorem wm_792 : (Jvm.Cond.selects "TrueArmsModel" ({ cls := "TrueArmsModel", name := "shut", desc := "()I" } : Jvm.MethodName) ({ cls := "TrueArmsModel", name := "shut", desc := "()I" } : Jvm.MethodName)) ∈ wAll := wT_4 110 rfl rfl
theorem wm_793 : (Jvm.Cond.code ({ cls := "TrueArmsModel", name := "shut", desc := "()I" } : Jvm.MethodName) prog_10_method_43_code (2 : Nat) (Option.some Jvm.ClassFile.FieldType.int)) ∈ wAll := wT_4 111 rfl rfl
theorem wm_794 : (Jvm.Cond.methodLink "TrueArmsLaw" (100 : Nat) ({ cls := "TrueArmsModel", name := "answers", desc := "()I" } : Jvm.MethodName)) ∈ wAll := wT_4 112 rfl rfl
theorem wm_795 : (Jvm.Cond.instanceMethod ({ cls := "TrueArmsModel", name := "answers", desc := "()I" } : Jvm.MethodName)) ∈ wAll := wT_4 113 rfl rfl
theorem wm_796 : (Jvm.Cond.selects "TrueArmsModel" ({ cls := "TrueArmsModel", name := "answers", desc := "()I" } : Jvm.MethodName) ({ cls := "TrueArmsModel", name := "answers", desc := "()I" } : Jvm.MethodName)) ∈ wAll := wT_4 114 rfl rfl
theorem wm_797 : (Jvm.Cond.code ({ cls := "TrueArmsModel", name := "answers", desc := "()I" } : Jvm.MethodName) prog_10_method_46_code (3 : Nat) (Option.some Jvm.ClassFile.FieldType.int)) ∈ wAll := wT_4 115 rfl rfl
theorem wm_798 : (Jvm.Cond.methodLink "TrueArmsModel" (185 : Nat) ({ cls := "TrueArmsModel", name := "isAnswer", desc := "(I)Z" } : Jvm.MethodName)) ∈ wAll := wT_4 116 rfl rfl
theorem wm_799 : (Jvm.Cond.instanceMethod ({ cls := "TrueArmsModel", name := "isAnswer", desc := "(I)Z" } : Jvm.MethodName)) ∈ wAll := wT_4 118 rfl rfl
theorem wm_800 : (Jvm.Cond.code ({ cls := "TrueArmsModel", name := "isAnswer", desc := "(I)Z" } : Jvm.MethodName) prog_10_method_45_code (4 : Nat) (Option.some Jvm.ClassFile.FieldType.boolean)) ∈ wAll := wT_4 119 rfl rfl
theorem wm_801 : (Jvm.Cond.methodLink "TrueArmsModel" (182 : Nat) ({ cls := "TrueArmsModel", name := "shift", desc := "(III)I" } : Jvm.MethodName)) ∈ wAll := wT_4 120 rfl rfl
theorem wm_802 : (Jvm.Cond.instanceMethod ({ cls := "TrueArmsModel", name := "shift", desc := "(III)I" } : Jvm.MethodName)) ∈ wAll := wT_4 122 rfl rfl
theorem wm_803 : (Jvm.Cond.code ({ cls := "TrueArmsModel", name := "shift", desc := "(III)I" } : Jvm.MethodName) prog_10_method_44_code (4 : Nat) (Option.some Jvm.ClassFile.FieldType.int)) ∈ wAll := wT_4 123 rfl rfl
theorem wm_804 : (Jvm.Cond.methodLink "TrueArmsLaw" (104 : Nat) ({ cls := "TrueArmsModel", name := "answer", desc := "(II)I" } : Jvm.MethodName)) ∈ wAll := wT_4 124 rfl rfl
theorem wm_805 : (Jvm.Cond.instanceMethod ({ cls := "TrueArmsModel", name := "answer", desc := "(II)I" } : Jvm.MethodName)) ∈ wAll := wT_4 125 rfl rfl
theorem wm_806 : (Jvm.Cond.selects "TrueArmsModel" ({ cls := "TrueArmsModel", name := "answer", desc := "(II)I" } : Jvm.MethodName) ({ cls := "TrueArmsModel", name := "answer", desc := "(II)I" } : Jvm.MethodName)) ∈ wAll := wT_4 126 rfl rfl
theorem wm_807 : (Jvm.Cond.code ({ cls := "TrueArmsModel", name := "answer", desc := "(II)I" } : Jvm.MethodName) prog_10_method_47_code (5 : Nat) (Option.some Jvm.ClassFile.FieldType.int)) ∈ wAll := wT_4 127 rfl rfl
theorem wm_808 : (Jvm.Cond.methodLink "TrueArmsModel" (188 : Nat) ({ cls := "TrueArmsModel", name := "answers", desc := "()I" } : Jvm.MethodName)) ∈ wAll := wT_4 128 rfl rfl
theorem wm_809 : (Jvm.Cond.constant "TrueArmsModel" (191 : Nat) (-2147483647 : Int32)) ∈ wAll := wT_4 129 rfl rfl
theorem wm_810 : (Jvm.Cond.methodLink "TrueArmsLaw" (108 : Nat) ({ cls := "TrueArmsModel", name := "limit", desc := "(III)I" } : Jvm.MethodName)) ∈ wAll := wT_4 130 rfl rfl
theorem wm_811 : (Jvm.Cond.instanceMethod ({ cls := "TrueArmsModel", name := "limit", desc := "(III)I" } : Jvm.MethodName)) ∈ wAll := wT_4 131 rfl rfl
theorem wm_812 : (Jvm.Cond.selects "TrueArmsModel" ({ cls := "TrueArmsModel", name := "limit", desc := "(III)I" } : Jvm.MethodName) ({ cls := "TrueArmsModel", name := "limit", desc := "(III)I" } : Jvm.MethodName)) ∈ wAll := wT_4 132 rfl rfl
theorem wm_813 : (Jvm.Cond.code ({ cls := "TrueArmsModel", name := "limit", desc := "(III)I" } : Jvm.MethodName) prog_10_method_48_code (4 : Nat) (Option.some Jvm.ClassFile.FieldType.int)) ∈ wAll := wT_4 133 rfl rfl
theorem wm_814 : (Jvm.Cond.methodLink "TrueArmsLaw" (112 : Nat) ({ cls := "TrueArmsModel", name := "nearest", desc := "(II)I" } : Jvm.MethodName)) ∈ wAll := wT_4 134 rfl rfl
theorem wm_815 : (Jvm.Cond.instanceMethod ({ cls := "TrueArmsModel", name := "nearest", desc := "(II)I" } : Jvm.MethodName)) ∈ wAll := wT_4 135 rfl rfl
theorem wm_816 : (Jvm.Cond.selects "TrueArmsModel" ({ cls := "TrueArmsModel", name := "nearest", desc := "(II)I" } : Jvm.MethodName) ({ cls := "TrueArmsModel", name := "nearest", desc := "(II)I" } : Jvm.MethodName)) ∈ wAll := wT_4 136 rfl rfl
theorem wm_817 : (Jvm.Cond.code ({ cls := "TrueArmsModel", name := "nearest", desc := "(II)I" } : Jvm.MethodName) prog_10_method_52_code (3 : Nat) (Option.some Jvm.ClassFile.FieldType.int)) ∈ wAll := wT_4 137 rfl rfl
theorem wm_818 : (Jvm.Cond.methodLink "TrueArmsModel" (208 : Nat) ({ cls := "TrueArmsModel", name := "isPlace", desc := "(II)Z" } : Jvm.MethodName)) ∈ wAll := wT_4 138 rfl rfl
theorem wm_819 : (Jvm.Cond.static ({ cls := "TrueArmsModel", name := "isPlace", desc := "(II)Z" } : Jvm.MethodName)) ∈ wAll := wT_4 139 rfl rfl
theorem wm_820 : (Jvm.Cond.code ({ cls := "TrueArmsModel", name := "isPlace", desc := "(II)Z" } : Jvm.MethodName) prog_10_method_51_code (2 : Nat) (Option.some Jvm.ClassFile.FieldType.boolean)) ∈ wAll := wT_4 140 rfl rfl
theorem wm_821 : (Jvm.Cond.constantLong "TrueArmsModel" (204 : Nat) (-3000 : Int64)) ∈ wAll := wT_4 141 rfl rfl
theorem wm_822 : (Jvm.Cond.constantLong "TrueArmsModel" (206 : Nat) (3000 : Int64)) ∈ wAll := wT_4 142 rfl rfl
theorem wm_823 : (Jvm.Cond.methodLink "TrueArmsModel" (211 : Nat) ({ cls := "TrueArmsModel", name := "findNearest", desc := "(II)V" } : Jvm.MethodName)) ∈ wAll := wT_4 143 rfl rfl
theorem wm_824 : (Jvm.Cond.instanceMethod ({ cls := "TrueArmsModel", name := "findNearest", desc := "(II)V" } : Jvm.MethodName)) ∈ wAll := wT_4 145 rfl rfl
theorem wm_825 : (Jvm.Cond.code ({ cls := "TrueArmsModel", name := "findNearest", desc := "(II)V" } : Jvm.MethodName) prog_10_method_50_code (12 : Nat) (Option.none : Option Jvm.ClassFile.FieldType)) ∈ wAll := wT_4 146 rfl rfl
theorem wm_826 : (Jvm.Cond.constantLong "TrueArmsModel" (192 : Nat) (-1 : Int64)) ∈ wAll := wT_4 147 rfl rfl
theorem wm_827 : (Jvm.Cond.methodLink "TrueArmsModel" (198 : Nat) ({ cls := "TrueArmsModel", name := "may", desc := "(II)Z" } : Jvm.MethodName)) ∈ wAll := wT_4 148 rfl rfl
theorem wm_828 : (Jvm.Cond.instanceMethod ({ cls := "TrueArmsModel", name := "may", desc := "(II)Z" } : Jvm.MethodName)) ∈ wAll := wT_4 150 rfl rfl
theorem wm_829 : (Jvm.Cond.code ({ cls := "TrueArmsModel", name := "may", desc := "(II)Z" } : Jvm.MethodName) prog_10_method_49_code (3 : Nat) (Option.some Jvm.ClassFile.FieldType.boolean)) ∈ wAll := wT_4 151 rfl rfl
theorem wm_830 : (Jvm.Cond.methodLink "TrueArmsLaw" (116 : Nat) ({ cls := "TrueArmsModel", name := "near", desc := "(II)J" } : Jvm.MethodName)) ∈ wAll := wT_4 152 rfl rfl
theorem wm_831 : (Jvm.Cond.instanceMethod ({ cls := "TrueArmsModel", name := "near", desc := "(II)J" } : Jvm.MethodName)) ∈ wAll := wT_4 153 rfl rfl
theorem wm_832 : (Jvm.Cond.selects "TrueArmsModel" ({ cls := "TrueArmsModel", name := "near", desc := "(II)J" } : Jvm.MethodName) ({ cls := "TrueArmsModel", name := "near", desc := "(II)J" } : Jvm.MethodName)) ∈ wAll := wT_4 154 rfl rfl
theorem wm_833 : (Jvm.Cond.code ({ cls := "TrueArmsModel", name := "near", desc := "(II)J" } : Jvm.MethodName) prog_10_method_53_code (3 : Nat) (Option.some Jvm.ClassFile.FieldType.long)) ∈ wAll := wT_4 155 rfl rfl
theorem wm_834 : (Jvm.Cond.methodLink "TrueArmsLaw" (120 : Nat) ({ cls := "TrueArmsModel", name := "drift", desc := "(IIII)I" } : Jvm.MethodName)) ∈ wAll := wT_4 156 rfl rfl
theorem wm_835 : (Jvm.Cond.instanceMethod ({ cls := "TrueArmsModel", name := "drift", desc := "(IIII)I" } : Jvm.MethodName)) ∈ wAll := wT_4 157 rfl rfl
theorem wm_836 : (Jvm.Cond.selects "TrueArmsModel" ({ cls := "TrueArmsModel", name := "drift", desc := "(IIII)I" } : Jvm.MethodName) ({ cls := "TrueArmsModel", name := "drift", desc := "(IIII)I" } : Jvm.MethodName)) ∈ wAll := wT_4 158 rfl rfl
theorem wm_837 : (Jvm.Cond.code ({ cls := "TrueArmsModel", name := "drift", desc := "(IIII)I" } : Jvm.MethodName) prog_10_method_55_code (8 : Nat) (Option.some Jvm.ClassFile.FieldType.int)) ∈ wAll := wT_4 159 rfl rfl
theorem wm_838 : (Jvm.Cond.methodLink "TrueArmsModel" (217 : Nat) ({ cls := "TrueArmsModel", name := "isSheet", desc := "(I)Z" } : Jvm.MethodName)) ∈ wAll := wT_4 160 rfl rfl
theorem wm_839 : (Jvm.Cond.static ({ cls := "TrueArmsModel", name := "isSheet", desc := "(I)Z" } : Jvm.MethodName)) ∈ wAll := wT_4 161 rfl rfl
theorem wm_840 : (Jvm.Cond.code ({ cls := "TrueArmsModel", name := "isSheet", desc := "(I)Z" } : Jvm.MethodName) prog_10_method_57_code (1 : Nat) (Option.some Jvm.ClassFile.FieldType.boolean)) ∈ wAll := wT_4 162 rfl rfl
theorem wm_841 : (Jvm.Cond.constantLong "TrueArmsModel" (229 : Nat) (3 : Int64)) ∈ wAll := wT_4 163 rfl rfl
theorem wm_842 : (Jvm.Cond.methodLink "TrueArmsModel" (220 : Nat) ({ cls := "TrueArmsModel", name := "met", desc := "(I)I" } : Jvm.MethodName)) ∈ wAll := wT_4 164 rfl rfl
theorem wm_843 : (Jvm.Cond.instanceMethod ({ cls := "TrueArmsModel", name := "met", desc := "(I)I" } : Jvm.MethodName)) ∈ wAll := wT_4 166 rfl rfl
theorem wm_844 : (Jvm.Cond.code ({ cls := "TrueArmsModel", name := "met", desc := "(I)I" } : Jvm.MethodName) prog_10_method_56_code (2 : Nat) (Option.some Jvm.ClassFile.FieldType.int)) ∈ wAll := wT_4 167 rfl rfl
theorem wm_845 : (Jvm.Cond.methodLink "TrueArmsModel" (223 : Nat) ({ cls := "TrueArmsModel", name := "falseShare", desc := "(II)I" } : Jvm.MethodName)) ∈ wAll := wT_4 168 rfl rfl
theorem wm_846 : (Jvm.Cond.static ({ cls := "TrueArmsModel", name := "falseShare", desc := "(II)I" } : Jvm.MethodName)) ∈ wAll := wT_4 169 rfl rfl
theorem wm_847 : (Jvm.Cond.code ({ cls := "TrueArmsModel", name := "falseShare", desc := "(II)I" } : Jvm.MethodName) prog_10_method_54_code (13 : Nat) (Option.some Jvm.ClassFile.FieldType.int)) ∈ wAll := wT_4 170 rfl rfl
theorem wm_848 : (Jvm.Cond.constantLong "TrueArmsModel" (215 : Nat) (10 : Int64)) ∈ wAll := wT_4 171 rfl rfl
theorem wm_849 : (Jvm.Cond.methodLink "TrueArmsLaw" (124 : Nat) ({ cls := "TrueArmsModel", name := "sheet", desc := "(III)I" } : Jvm.MethodName)) ∈ wAll := wT_4 172 rfl rfl
theorem wm_850 : (Jvm.Cond.instanceMethod ({ cls := "TrueArmsModel", name := "sheet", desc := "(III)I" } : Jvm.MethodName)) ∈ wAll := wT_4 173 rfl rfl
theorem wm_851 : (Jvm.Cond.selects "TrueArmsModel" ({ cls := "TrueArmsModel", name := "sheet", desc := "(III)I" } : Jvm.MethodName) ({ cls := "TrueArmsModel", name := "sheet", desc := "(III)I" } : Jvm.MethodName)) ∈ wAll := wT_4 174 rfl rfl
theorem wm_852 : (Jvm.Cond.code ({ cls := "TrueArmsModel", name := "sheet", desc := "(III)I" } : Jvm.MethodName) prog_10_method_58_code (5 : Nat) (Option.some Jvm.ClassFile.FieldType.int)) ∈ wAll := wT_4 175 rfl rfl
theorem wm_853 : (Jvm.Cond.methodLink "TrueArmsLaw" (128 : Nat) ({ cls := "TrueArmsModel", name := "lose", desc := "(I)I" } : Jvm.MethodName)) ∈ wAll := wT_4 176 rfl rfl
theorem wm_854 : (Jvm.Cond.instanceMethod ({ cls := "TrueArmsModel", name := "lose", desc := "(I)I" } : Jvm.MethodName)) ∈ wAll := wT_4 177 rfl rfl
theorem wm_855 : (Jvm.Cond.selects "TrueArmsModel" ({ cls := "TrueArmsModel", name := "lose", desc := "(I)I" } : Jvm.MethodName) ({ cls := "TrueArmsModel", name := "lose", desc := "(I)I" } : Jvm.MethodName)) ∈ wAll := wT_4 178 rfl rfl
theorem wm_856 : (Jvm.Cond.code ({ cls := "TrueArmsModel", name := "lose", desc := "(I)I" } : Jvm.MethodName) prog_10_method_59_code (2 : Nat) (Option.some Jvm.ClassFile.FieldType.int)) ∈ wAll := wT_4 179 rfl rfl
theorem wm_857 : (Jvm.Cond.methodLink "TrueArmsLaw" (132 : Nat) ({ cls := "TrueArmsModel", name := "put", desc := "(IIII)I" } : Jvm.MethodName)) ∈ wAll := wT_4 180 rfl rfl
theorem wm_858 : (Jvm.Cond.instanceMethod ({ cls := "TrueArmsModel", name := "put", desc := "(IIII)I" } : Jvm.MethodName)) ∈ wAll := wT_4 181 rfl rfl
theorem wm_859 : (Jvm.Cond.selects "TrueArmsModel" ({ cls := "TrueArmsModel", name := "put", desc := "(IIII)I" } : Jvm.MethodName) ({ cls := "TrueArmsModel", name := "put", desc := "(IIII)I" } : Jvm.MethodName)) ∈ wAll := wT_4 182 rfl rfl
theorem wm_860 : (Jvm.Cond.code ({ cls := "TrueArmsModel", name := "put", desc := "(IIII)I" } : Jvm.MethodName) prog_10_method_61_code (6 : Nat) (Option.some Jvm.ClassFile.FieldType.int)) ∈ wAll := wT_4 183 rfl rfl
theorem wm_861 : (Jvm.Cond.methodLink "TrueArmsModel" (231 : Nat) ({ cls := "TrueArmsModel", name := "lacks", desc := "(III)I" } : Jvm.MethodName)) ∈ wAll := wT_4 184 rfl rfl
theorem wm_862 : (Jvm.Cond.instanceMethod ({ cls := "TrueArmsModel", name := "lacks", desc := "(III)I" } : Jvm.MethodName)) ∈ wAll := wT_4 186 rfl rfl
theorem wm_863 : (Jvm.Cond.code ({ cls := "TrueArmsModel", name := "lacks", desc := "(III)I" } : Jvm.MethodName) prog_10_method_60_code (4 : Nat) (Option.some Jvm.ClassFile.FieldType.int)) ∈ wAll := wT_4 187 rfl rfl
theorem wm_864 : (Jvm.Cond.methodLink "TrueArmsLaw" (136 : Nat) ({ cls := "TrueArmsModel", name := "get", desc := "(III)I" } : Jvm.MethodName)) ∈ wAll := wT_4 188 rfl rfl
theorem wm_865 : (Jvm.Cond.instanceMethod ({ cls := "TrueArmsModel", name := "get", desc := "(III)I" } : Jvm.MethodName)) ∈ wAll := wT_4 189 rfl rfl
theorem wm_866 : (Jvm.Cond.selects "TrueArmsModel" ({ cls := "TrueArmsModel", name := "get", desc := "(III)I" } : Jvm.MethodName) ({ cls := "TrueArmsModel", name := "get", desc := "(III)I" } : Jvm.MethodName)) ∈ wAll := wT_4 190 rfl rfl
theorem wm_867 : (Jvm.Cond.code ({ cls := "TrueArmsModel", name := "get", desc := "(III)I" } : Jvm.MethodName) prog_10_method_62_code (4 : Nat) (Option.some Jvm.ClassFile.FieldType.int)) ∈ wAll := wT_4 191 rfl rfl
theorem wm_868 : (Jvm.Cond.methodLink "TrueArmsLaw" (141 : Nat) ({ cls := "TrueArmsModel", name := "copy", desc := "(IIIII)I" } : Jvm.MethodName)) ∈ wAll := wT_4 192 rfl rfl
theorem wm_869 : (Jvm.Cond.instanceMethod ({ cls := "TrueArmsModel", name := "copy", desc := "(IIIII)I" } : Jvm.MethodName)) ∈ wAll := wT_4 193 rfl rfl
theorem wm_870 : (Jvm.Cond.selects "TrueArmsModel" ({ cls := "TrueArmsModel", name := "copy", desc := "(IIIII)I" } : Jvm.MethodName) ({ cls := "TrueArmsModel", name := "copy", desc := "(IIIII)I" } : Jvm.MethodName)) ∈ wAll := wT_4 194 rfl rfl
theorem wm_871 : (Jvm.Cond.code ({ cls := "TrueArmsModel", name := "copy", desc := "(IIIII)I" } : Jvm.MethodName) prog_10_method_63_code (7 : Nat) (Option.some Jvm.ClassFile.FieldType.int)) ∈ wAll := wT_4 195 rfl rfl
theorem wm_872 : (Jvm.Cond.methodLink "TrueArmsLaw" (145 : Nat) ({ cls := "TrueArmsModel", name := "count", desc := "(I)I" } : Jvm.MethodName)) ∈ wAll := wT_4 196 rfl rfl
theorem wm_873 : (Jvm.Cond.instanceMethod ({ cls := "TrueArmsModel", name := "count", desc := "(I)I" } : Jvm.MethodName)) ∈ wAll := wT_4 197 rfl rfl
theorem wm_874 : (Jvm.Cond.selects "TrueArmsModel" ({ cls := "TrueArmsModel", name := "count", desc := "(I)I" } : Jvm.MethodName) ({ cls := "TrueArmsModel", name := "count", desc := "(I)I" } : Jvm.MethodName)) ∈ wAll := wT_4 198 rfl rfl
theorem wm_875 : (Jvm.Cond.code ({ cls := "TrueArmsModel", name := "count", desc := "(I)I" } : Jvm.MethodName) prog_10_method_64_code (4 : Nat) (Option.some Jvm.ClassFile.FieldType.int)) ∈ wAll := wT_4 199 rfl rfl
theorem wm_876 : (Jvm.Cond.methodLink "TrueArmsLaw" (150 : Nat) ({ cls := "TrueArmsModel", name := "digest", desc := "()J" } : Jvm.MethodName)) ∈ wAll := wT_4 200 rfl rfl
theorem wm_877 : (Jvm.Cond.instanceMethod ({ cls := "TrueArmsModel", name := "digest", desc := "()J" } : Jvm.MethodName)) ∈ wAll := wT_4 201 rfl rfl
theorem wm_878 : (Jvm.Cond.selects "TrueArmsModel" ({ cls := "TrueArmsModel", name := "digest", desc := "()J" } : Jvm.MethodName) ({ cls := "TrueArmsModel", name := "digest", desc := "()J" } : Jvm.MethodName)) ∈ wAll := wT_4 202 rfl rfl
theorem wm_879 : (Jvm.Cond.code ({ cls := "TrueArmsModel", name := "digest", desc := "()J" } : Jvm.MethodName) prog_10_method_65_code (4 : Nat) (Option.some Jvm.ClassFile.FieldType.long)) ∈ wAll := wT_4 203 rfl rfl
theorem wm_880 : (Jvm.Cond.constantLong "TrueArmsModel" (234 : Nat) (17 : Int64)) ∈ wAll := wT_4 204 rfl rfl
theorem wm_881 : (Jvm.Cond.constantLong "TrueArmsModel" (236 : Nat) (31 : Int64)) ∈ wAll := wT_4 205 rfl rfl
theorem wm_882 : (Jvm.Cond.methodLink "TrueArmsModel" (238 : Nat) ({ cls := "TrueArmsModel", name := "count", desc := "(I)I" } : Jvm.MethodName)) ∈ wAll := wT_4 206 rfl rfl
theorem wm_883 : Cond.selects "TrueArms" ⟨"TrueArms", "isPosture", "(I)Z"⟩ ⟨"TrueArms", "isPosture", "(I)Z"⟩ ∈ wAll := wAll_of (List.mem_append_left _ (List.mem_of_getElem? (i := 0) rfl)) rfl
theorem wm_884 : Cond.selects "TrueArms" ⟨"TrueArms", "sumUsed", "()V"⟩ ⟨"TrueArms", "sumUsed", "()V"⟩ ∈ wAll := wAll_of (List.mem_append_left _ (List.mem_of_getElem? (i := 1) rfl)) rfl
theorem wm_885 : Cond.selects "TrueArms" ⟨"TrueArms", "listUsed", "()I"⟩ ⟨"TrueArms", "listUsed", "()I"⟩ ∈ wAll := wAll_of (List.mem_append_left _ (List.mem_of_getElem? (i := 2) rfl)) rfl
theorem wm_886 : Cond.selects "TrueArms" ⟨"TrueArms", "isMeasured", "(I)Z"⟩ ⟨"TrueArms", "isMeasured", "(I)Z"⟩ ∈ wAll := wAll_of (List.mem_append_left _ (List.mem_of_getElem? (i := 3) rfl)) rfl
theorem wm_887 : Cond.selects "TrueArms" ⟨"TrueArms", "measured", "(II)I"⟩ ⟨"TrueArms", "measured", "(II)I"⟩ ∈ wAll := wAll_of (List.mem_append_left _ (List.mem_of_getElem? (i := 4) rfl)) rfl
theorem wm_888 : Cond.selects "TrueArms$Sums" ⟨"TrueArms$Sums", "rankWithout", "(I)I"⟩ ⟨"TrueArms$Sums", "rankWithout", "(I)I"⟩ ∈ wAll := wAll_of (List.mem_append_left _ (List.mem_of_getElem? (i := 5) rfl)) rfl
theorem wm_889 : Cond.selects "TrueArms$Sums" ⟨"TrueArms$Sums", "determinantWithRight", "(I)J"⟩ ⟨"TrueArms$Sums", "determinantWithRight", "(I)J"⟩ ∈ wAll := wAll_of (List.mem_append_left _ (List.mem_of_getElem? (i := 6) rfl)) rfl
theorem wm_890 : Cond.selects "TrueArms" ⟨"TrueArms", "missOf", "(I)I"⟩ ⟨"TrueArms", "missOf", "(I)I"⟩ ∈ wAll := wAll_of (List.mem_append_left _ (List.mem_of_getElem? (i := 7) rfl)) rfl
theorem wm_891 : Cond.selects "TrueArms" ⟨"TrueArms", "choosableSets", "()I"⟩ ⟨"TrueArms", "choosableSets", "()I"⟩ ∈ wAll := wAll_of (List.mem_append_left _ (List.mem_of_getElem? (i := 8) rfl)) rfl
theorem wm_892 : Cond.selects "TrueArms" ⟨"TrueArms", "weightOf", "(I)J"⟩ ⟨"TrueArms", "weightOf", "(I)J"⟩ ∈ wAll := wAll_of (List.mem_append_left _ (List.mem_of_getElem? (i := 9) rfl)) rfl
theorem wm_893 : Cond.selects "TrueArms$Camera" ⟨"TrueArms$Camera", "isAnswer", "(I)Z"⟩ ⟨"TrueArms$Camera", "isAnswer", "(I)Z"⟩ ∈ wAll := wAll_of (List.mem_append_left _ (List.mem_of_getElem? (i := 10) rfl)) rfl
theorem wm_894 : Cond.selects "TrueArms$Going" ⟨"TrueArms$Going", "seekSecond", "(IIII)V"⟩ ⟨"TrueArms$Going", "seekSecond", "(IIII)V"⟩ ∈ wAll := wAll_of (List.mem_append_left _ (List.mem_of_getElem? (i := 11) rfl)) rfl
theorem wm_895 : Cond.selects "TrueArms$Going" ⟨"TrueArms$Going", "atLeastLeft", "(II)J"⟩ ⟨"TrueArms$Going", "atLeastLeft", "(II)J"⟩ ∈ wAll := wAll_of (List.mem_append_left _ (List.mem_of_getElem? (i := 12) rfl)) rfl
theorem wm_896 : Cond.selects "TrueArms$Going" ⟨"TrueArms$Going", "seekThird", "(IIII)V"⟩ ⟨"TrueArms$Going", "seekThird", "(IIII)V"⟩ ∈ wAll := wAll_of (List.mem_append_left _ (List.mem_of_getElem? (i := 13) rfl)) rfl
theorem wm_897 : Cond.selects "TrueArms" ⟨"TrueArms", "finding", "(I)I"⟩ ⟨"TrueArms", "finding", "(I)I"⟩ ∈ wAll := wAll_of (List.mem_append_left _ (List.mem_of_getElem? (i := 14) rfl)) rfl
theorem wm_898 : Cond.selects "TrueArms$Signs" ⟨"TrueArms$Signs", "rowsUpTo", "(I)J"⟩ ⟨"TrueArms$Signs", "rowsUpTo", "(I)J"⟩ ∈ wAll := wAll_of (List.mem_append_left _ (List.mem_of_getElem? (i := 15) rfl)) rfl
theorem wm_899 : Cond.selects "TrueArms" ⟨"TrueArms", "countLeftOut", "()I"⟩ ⟨"TrueArms", "countLeftOut", "()I"⟩ ∈ wAll := wAll_of (List.mem_append_left _ (List.mem_of_getElem? (i := 16) rfl)) rfl
theorem wm_900 : Cond.selects "TrueArms" ⟨"TrueArms", "countLost", "()I"⟩ ⟨"TrueArms", "countLost", "()I"⟩ ∈ wAll := wAll_of (List.mem_append_left _ (List.mem_of_getElem? (i := 17) rfl)) rfl
theorem wm_901 : Cond.selects "TrueArmsModel" ⟨"TrueArmsModel", "c", "(I)I"⟩ ⟨"TrueArmsModel", "c", "(I)I"⟩ ∈ wAll := wAll_of (List.mem_append_left _ (List.mem_of_getElem? (i := 18) rfl)) rfl
theorem wm_902 : Cond.selects "TrueArmsModel" ⟨"TrueArmsModel", "s", "(I)I"⟩ ⟨"TrueArmsModel", "s", "(I)I"⟩ ∈ wAll := wAll_of (List.mem_append_left _ (List.mem_of_getElem? (i := 19) rfl)) rfl
theorem wm_903 : Cond.selects "TrueArmsModel" ⟨"TrueArmsModel", "isPosture", "(I)Z"⟩ ⟨"TrueArmsModel", "isPosture", "(I)Z"⟩ ∈ wAll := wAll_of (List.mem_append_left _ (List.mem_of_getElem? (i := 20) rfl)) rfl
theorem wm_904 : Cond.selects "TrueArmsModel" ⟨"TrueArmsModel", "handOf", "(II)I"⟩ ⟨"TrueArmsModel", "handOf", "(II)I"⟩ ∈ wAll := wAll_of (List.mem_append_left _ (List.mem_of_getElem? (i := 21) rfl)) rfl
theorem wm_905 : Cond.selects "TrueArmsModel" ⟨"TrueArmsModel", "part", "(III)I"⟩ ⟨"TrueArmsModel", "part", "(III)I"⟩ ∈ wAll := wAll_of (List.mem_append_left _ (List.mem_of_getElem? (i := 22) rfl)) rfl
theorem wm_906 : Cond.selects "TrueArmsModel" ⟨"TrueArmsModel", "hasMeasure", "(I)Z"⟩ ⟨"TrueArmsModel", "hasMeasure", "(I)Z"⟩ ∈ wAll := wAll_of (List.mem_append_left _ (List.mem_of_getElem? (i := 23) rfl)) rfl
theorem wm_907 : Cond.selects "TrueArmsModel" ⟨"TrueArmsModel", "item", "(I)I"⟩ ⟨"TrueArmsModel", "item", "(I)I"⟩ ∈ wAll := wAll_of (List.mem_append_left _ (List.mem_of_getElem? (i := 24) rfl)) rfl
theorem wm_908 : Cond.selects "TrueArmsModel" ⟨"TrueArmsModel", "findUsed", "()V"⟩ ⟨"TrueArmsModel", "findUsed", "()V"⟩ ∈ wAll := wAll_of (List.mem_append_left _ (List.mem_of_getElem? (i := 25) rfl)) rfl
theorem wm_909 : Cond.selects "TrueArmsModel" ⟨"TrueArmsModel", "findTable", "()V"⟩ ⟨"TrueArmsModel", "findTable", "()V"⟩ ∈ wAll := wAll_of (List.mem_append_left _ (List.mem_of_getElem? (i := 26) rfl)) rfl
theorem wm_910 : Cond.selects "TrueArmsModel" ⟨"TrueArmsModel", "nothing", "()V"⟩ ⟨"TrueArmsModel", "nothing", "()V"⟩ ∈ wAll := wAll_of (List.mem_append_left _ (List.mem_of_getElem? (i := 27) rfl)) rfl
theorem wm_911 : Cond.selects "TrueArmsModel" ⟨"TrueArmsModel", "adds", "(I)V"⟩ ⟨"TrueArmsModel", "adds", "(I)V"⟩ ∈ wAll := wAll_of (List.mem_append_left _ (List.mem_of_getElem? (i := 28) rfl)) rfl
theorem wm_912 : Cond.selects "TrueArmsModel" ⟨"TrueArmsModel", "rankNow", "()I"⟩ ⟨"TrueArmsModel", "rankNow", "()I"⟩ ∈ wAll := wAll_of (List.mem_append_left _ (List.mem_of_getElem? (i := 29) rfl)) rfl
theorem wm_913 : Cond.selects "TrueArmsModel" ⟨"TrueArmsModel", "weightNow", "()J"⟩ ⟨"TrueArmsModel", "weightNow", "()J"⟩ ∈ wAll := wAll_of (List.mem_append_left _ (List.mem_of_getElem? (i := 30) rfl)) rfl
theorem wm_914 : Cond.selects "TrueArmsModel" ⟨"TrueArmsModel", "stands", "(II)Z"⟩ ⟨"TrueArmsModel", "stands", "(II)Z"⟩ ∈ wAll := wAll_of (List.mem_append_left _ (List.mem_of_getElem? (i := 31) rfl)) rfl
theorem wm_915 : Cond.selects "TrueArmsModel" ⟨"TrueArmsModel", "fitOf", "(I)J"⟩ ⟨"TrueArmsModel", "fitOf", "(I)J"⟩ ∈ wAll := wAll_of (List.mem_append_left _ (List.mem_of_getElem? (i := 32) rfl)) rfl
theorem wm_916 : Cond.selects "TrueArmsModel" ⟨"TrueArmsModel", "missOf", "(I)I"⟩ ⟨"TrueArmsModel", "missOf", "(I)I"⟩ ∈ wAll := wAll_of (List.mem_append_left _ (List.mem_of_getElem? (i := 33) rfl)) rfl
theorem wm_917 : Cond.selects "TrueArmsModel" ⟨"TrueArmsModel", "first10", "()I"⟩ ⟨"TrueArmsModel", "first10", "()I"⟩ ∈ wAll := wAll_of (List.mem_append_left _ (List.mem_of_getElem? (i := 34) rfl)) rfl
theorem wm_918 : Cond.selects "TrueArmsModel" ⟨"TrueArmsModel", "weightOf", "(I)J"⟩ ⟨"TrueArmsModel", "weightOf", "(I)J"⟩ ∈ wAll := wAll_of (List.mem_append_left _ (List.mem_of_getElem? (i := 35) rfl)) rfl
theorem wm_919 : Cond.selects "TrueArmsModel" ⟨"TrueArmsModel", "isAnswer", "(I)Z"⟩ ⟨"TrueArmsModel", "isAnswer", "(I)Z"⟩ ∈ wAll := wAll_of (List.mem_append_left _ (List.mem_of_getElem? (i := 36) rfl)) rfl
theorem wm_920 : Cond.selects "TrueArmsModel" ⟨"TrueArmsModel", "shift", "(III)I"⟩ ⟨"TrueArmsModel", "shift", "(III)I"⟩ ∈ wAll := wAll_of (List.mem_append_left _ (List.mem_of_getElem? (i := 37) rfl)) rfl
theorem wm_921 : Cond.selects "TrueArmsModel" ⟨"TrueArmsModel", "findNearest", "(II)V"⟩ ⟨"TrueArmsModel", "findNearest", "(II)V"⟩ ∈ wAll := wAll_of (List.mem_append_left _ (List.mem_of_getElem? (i := 38) rfl)) rfl
theorem wm_922 : Cond.selects "TrueArmsModel" ⟨"TrueArmsModel", "may", "(II)Z"⟩ ⟨"TrueArmsModel", "may", "(II)Z"⟩ ∈ wAll := wAll_of (List.mem_append_left _ (List.mem_of_getElem? (i := 39) rfl)) rfl
theorem wm_923 : Cond.selects "TrueArmsModel" ⟨"TrueArmsModel", "met", "(I)I"⟩ ⟨"TrueArmsModel", "met", "(I)I"⟩ ∈ wAll := wAll_of (List.mem_append_left _ (List.mem_of_getElem? (i := 40) rfl)) rfl
theorem wm_924 : Cond.selects "TrueArmsModel" ⟨"TrueArmsModel", "lacks", "(III)I"⟩ ⟨"TrueArmsModel", "lacks", "(III)I"⟩ ∈ wAll := wAll_of (List.mem_append_left _ (List.mem_of_getElem? (i := 41) rfl)) rfl
end
section
theorem dX0_init_0 : decode cX0_init 0 = .ok (.aload_n 0, 1) := by decide +kernel
theorem dX0_init_1 : decode cX0_init 1 = .ok (.invokespecial 1, 3) := by decide +kernel
theorem dX0_init_4 : decode cX0_init 4 = .ok (.aload_n 0, 1) := by decide +kernel
theorem dX0_init_5 : decode cX0_init 5 = .ok (.iconst 3, 1) := by decide +kernel
theorem dX0_init_6 : decode cX0_init 6 = .ok (.newarray .int, 2) := by decide +kernel
theorem dX0_init_8 : decode cX0_init 8 = .ok (.dup, 1) := by decide +kernel
theorem dX0_init_9 : decode cX0_init 9 = .ok (.iconst 0, 1) := by decide +kernel
theorem dX0_init_10 : decode cX0_init 10 = .ok (.bipush 100, 2) := by decide +kernel
theorem dX0_init_12 : decode cX0_init 12 = .ok (.iastore, 1) := by decide +kernel
theorem dX0_init_13 : decode cX0_init 13 = .ok (.dup, 1) := by decide +kernel
theorem dX0_init_14 : decode cX0_init 14 = .ok (.iconst 1, 1) := by decide +kernel
theorem dX0_init_15 : decode cX0_init 15 = .ok (.bipush 100, 2) := by decide +kernel
theorem dX0_init_17 : decode cX0_init 17 = .ok (.iastore, 1) := by decide +kernel
theorem dX0_init_18 : decode cX0_init 18 = .ok (.dup, 1) := by decide +kernel
theorem dX0_init_19 : decode cX0_init 19 = .ok (.iconst 2, 1) := by decide +kernel
theorem dX0_init_20 : decode cX0_init 20 = .ok (.bipush 100, 2) := by decide +kernel
theorem dX0_init_22 : decode cX0_init 22 = .ok (.iastore, 1) := by decide +kernel
theorem dX0_init_23 : decode cX0_init 23 = .ok (.putfield 7, 3) := by decide +kernel
theorem dX0_init_26 : decode cX0_init 26 = .ok (.aload_n 0, 1) := by decide +kernel
theorem dX0_init_27 : decode cX0_init 27 = .ok (.bipush 60, 2) := by decide +kernel
theorem dX0_init_29 : decode cX0_init 29 = .ok (.newarray .int, 2) := by decide +kernel
theorem dX0_init_31 : decode cX0_init 31 = .ok (.putfield 13, 3) := by decide +kernel
theorem dX0_init_34 : decode cX0_init 34 = .ok (.aload_n 0, 1) := by decide +kernel
theorem dX0_init_35 : decode cX0_init 35 = .ok (.sipush 180, 3) := by decide +kernel
theorem dX0_init_38 : decode cX0_init 38 = .ok (.newarray .int, 2) := by decide +kernel
theorem dX0_init_40 : decode cX0_init 40 = .ok (.putfield 16, 3) := by decide +kernel
theorem dX0_init_43 : decode cX0_init 43 = .ok (.aload_n 0, 1) := by decide +kernel
theorem dX0_init_44 : decode cX0_init 44 = .ok (.iconst 0, 1) := by decide +kernel
theorem dX0_init_45 : decode cX0_init 45 = .ok (.putfield 19, 3) := by decide +kernel
theorem dX0_init_48 : decode cX0_init 48 = .ok (.return_, 1) := by decide +kernel
theorem dX0_stand_0 : decode cX0_stand 0 = .ok (.aload_n 0, 1) := by decide +kernel
theorem dX0_stand_1 : decode cX0_stand 1 = .ok (.getfield 19, 3) := by decide +kernel
theorem dX0_stand_4 : decode cX0_stand 4 = .ok (.istore 4, 2) := by decide +kernel
theorem dX0_stand_6 : decode cX0_stand 6 = .ok (.aload_n 0, 1) := by decide +kernel
theorem dX0_stand_7 : decode cX0_stand 7 = .ok (.getfield 13, 3) := by decide +kernel
theorem dX0_stand_10 : decode cX0_stand 10 = .ok (.iconst 3, 1) := by decide +kernel
theorem dX0_stand_11 : decode cX0_stand 11 = .ok (.iload 4, 2) := by decide +kernel
theorem dX0_stand_13 : decode cX0_stand 13 = .ok (.imul, 1) := by decide +kernel
theorem dX0_stand_14 : decode cX0_stand 14 = .ok (.iload_n 1, 1) := by decide +kernel
theorem dX0_stand_15 : decode cX0_stand 15 = .ok (.iastore, 1) := by decide +kernel
theorem dX0_stand_16 : decode cX0_stand 16 = .ok (.aload_n 0, 1) := by decide +kernel
theorem dX0_stand_17 : decode cX0_stand 17 = .ok (.getfield 13, 3) := by decide +kernel
theorem dX0_stand_20 : decode cX0_stand 20 = .ok (.iconst 3, 1) := by decide +kernel
theorem dX0_stand_21 : decode cX0_stand 21 = .ok (.iload 4, 2) := by decide +kernel
theorem dX0_stand_23 : decode cX0_stand 23 = .ok (.imul, 1) := by decide +kernel
theorem dX0_stand_24 : decode cX0_stand 24 = .ok (.iconst 1, 1) := by decide +kernel
theorem dX0_stand_25 : decode cX0_stand 25 = .ok (.iadd, 1) := by decide +kernel
theorem dX0_stand_26 : decode cX0_stand 26 = .ok (.iload_n 1, 1) := by decide +kernel
theorem dX0_stand_27 : decode cX0_stand 27 = .ok (.iload_n 2, 1) := by decide +kernel
theorem dX0_stand_28 : decode cX0_stand 28 = .ok (.iadd, 1) := by decide +kernel
theorem dX0_stand_29 : decode cX0_stand 29 = .ok (.invokestatic 23, 3) := by decide +kernel
theorem dX0_stand_32 : decode cX0_stand 32 = .ok (.iastore, 1) := by decide +kernel
theorem dX0_stand_33 : decode cX0_stand 33 = .ok (.aload_n 0, 1) := by decide +kernel
theorem dX0_stand_34 : decode cX0_stand 34 = .ok (.getfield 13, 3) := by decide +kernel
theorem dX0_stand_37 : decode cX0_stand 37 = .ok (.iconst 3, 1) := by decide +kernel
theorem dX0_stand_38 : decode cX0_stand 38 = .ok (.iload 4, 2) := by decide +kernel
theorem dX0_stand_40 : decode cX0_stand 40 = .ok (.imul, 1) := by decide +kernel
theorem dX0_stand_41 : decode cX0_stand 41 = .ok (.iconst 2, 1) := by decide +kernel
theorem dX0_stand_42 : decode cX0_stand 42 = .ok (.iadd, 1) := by decide +kernel
theorem dX0_stand_43 : decode cX0_stand 43 = .ok (.iload_n 1, 1) := by decide +kernel
theorem dX0_stand_44 : decode cX0_stand 44 = .ok (.iload_n 2, 1) := by decide +kernel
theorem dX0_stand_45 : decode cX0_stand 45 = .ok (.iadd, 1) := by decide +kernel
theorem dX0_stand_46 : decode cX0_stand 46 = .ok (.iload_n 3, 1) := by decide +kernel
theorem dX0_stand_47 : decode cX0_stand 47 = .ok (.iadd, 1) := by decide +kernel
theorem dX0_stand_48 : decode cX0_stand 48 = .ok (.invokestatic 23, 3) := by decide +kernel
theorem dX0_stand_51 : decode cX0_stand 51 = .ok (.iastore, 1) := by decide +kernel
theorem dX0_stand_52 : decode cX0_stand 52 = .ok (.iconst 0, 1) := by decide +kernel
theorem dX0_stand_53 : decode cX0_stand 53 = .ok (.istore 5, 2) := by decide +kernel
theorem dX0_stand_55 : decode cX0_stand 55 = .ok (.iload 5, 2) := by decide +kernel
theorem dX0_stand_57 : decode cX0_stand 57 = .ok (.iconst 3, 1) := by decide +kernel
theorem dX0_stand_58 : decode cX0_stand 58 = .ok (.if_icmp .ge 69, 3) := by decide +kernel
theorem dX0_stand_61 : decode cX0_stand 61 = .ok (.iconst 0, 1) := by decide +kernel
theorem dX0_stand_62 : decode cX0_stand 62 = .ok (.istore 6, 2) := by decide +kernel
theorem dX0_stand_64 : decode cX0_stand 64 = .ok (.iload 6, 2) := by decide +kernel
theorem dX0_stand_66 : decode cX0_stand 66 = .ok (.iconst 3, 1) := by decide +kernel
theorem dX0_stand_67 : decode cX0_stand 67 = .ok (.if_icmp .ge 54, 3) := by decide +kernel
theorem dX0_stand_70 : decode cX0_stand 70 = .ok (.aload_n 0, 1) := by decide +kernel
theorem dX0_stand_71 : decode cX0_stand 71 = .ok (.getfield 16, 3) := by decide +kernel
theorem dX0_stand_74 : decode cX0_stand 74 = .ok (.bipush 9, 2) := by decide +kernel
theorem dX0_stand_76 : decode cX0_stand 76 = .ok (.iload 4, 2) := by decide +kernel
theorem dX0_stand_78 : decode cX0_stand 78 = .ok (.imul, 1) := by decide +kernel
theorem dX0_stand_79 : decode cX0_stand 79 = .ok (.iconst 3, 1) := by decide +kernel
theorem dX0_stand_80 : decode cX0_stand 80 = .ok (.iload 5, 2) := by decide +kernel
theorem dX0_stand_82 : decode cX0_stand 82 = .ok (.imul, 1) := by decide +kernel
theorem dX0_stand_83 : decode cX0_stand 83 = .ok (.iadd, 1) := by decide +kernel
theorem dX0_stand_84 : decode cX0_stand 84 = .ok (.iload 6, 2) := by decide +kernel
theorem dX0_stand_86 : decode cX0_stand 86 = .ok (.iadd, 1) := by decide +kernel
theorem dX0_stand_87 : decode cX0_stand 87 = .ok (.aload_n 0, 1) := by decide +kernel
theorem dX0_stand_88 : decode cX0_stand 88 = .ok (.getfield 13, 3) := by decide +kernel
theorem dX0_stand_91 : decode cX0_stand 91 = .ok (.iconst 3, 1) := by decide +kernel
theorem dX0_stand_92 : decode cX0_stand 92 = .ok (.iload 4, 2) := by decide +kernel
theorem dX0_stand_94 : decode cX0_stand 94 = .ok (.imul, 1) := by decide +kernel
theorem dX0_stand_95 : decode cX0_stand 95 = .ok (.iload 5, 2) := by decide +kernel
theorem dX0_stand_97 : decode cX0_stand 97 = .ok (.iadd, 1) := by decide +kernel
theorem dX0_stand_98 : decode cX0_stand 98 = .ok (.iaload, 1) := by decide +kernel
theorem dX0_stand_99 : decode cX0_stand 99 = .ok (.aload_n 0, 1) := by decide +kernel
theorem dX0_stand_100 : decode cX0_stand 100 = .ok (.getfield 13, 3) := by decide +kernel
theorem dX0_stand_103 : decode cX0_stand 103 = .ok (.iconst 3, 1) := by decide +kernel
theorem dX0_stand_104 : decode cX0_stand 104 = .ok (.iload 4, 2) := by decide +kernel
theorem dX0_stand_106 : decode cX0_stand 106 = .ok (.imul, 1) := by decide +kernel
theorem dX0_stand_107 : decode cX0_stand 107 = .ok (.iload 6, 2) := by decide +kernel
theorem dX0_stand_109 : decode cX0_stand 109 = .ok (.iadd, 1) := by decide +kernel
theorem dX0_stand_110 : decode cX0_stand 110 = .ok (.iaload, 1) := by decide +kernel
theorem dX0_stand_111 : decode cX0_stand 111 = .ok (.invokestatic 29, 3) := by decide +kernel
theorem dX0_stand_114 : decode cX0_stand 114 = .ok (.iastore, 1) := by decide +kernel
theorem dX0_stand_115 : decode cX0_stand 115 = .ok (.iinc 6 1, 3) := by decide +kernel
theorem dX0_stand_118 : decode cX0_stand 118 = .ok (.goto (-54), 3) := by decide +kernel
theorem dX0_stand_121 : decode cX0_stand 121 = .ok (.iinc 5 1, 3) := by decide +kernel
theorem dX0_stand_124 : decode cX0_stand 124 = .ok (.goto (-69), 3) := by decide +kernel
theorem dX0_stand_127 : decode cX0_stand 127 = .ok (.aload_n 0, 1) := by decide +kernel
theorem dX0_stand_128 : decode cX0_stand 128 = .ok (.dup, 1) := by decide +kernel
theorem dX0_stand_129 : decode cX0_stand 129 = .ok (.getfield 19, 3) := by decide +kernel
theorem dX0_stand_132 : decode cX0_stand 132 = .ok (.iconst 1, 1) := by decide +kernel
theorem dX0_stand_133 : decode cX0_stand 133 = .ok (.iadd, 1) := by decide +kernel
theorem dX0_stand_134 : decode cX0_stand 134 = .ok (.putfield 19, 3) := by decide +kernel
theorem dX0_stand_137 : decode cX0_stand 137 = .ok (.iload 4, 2) := by decide +kernel
theorem dX0_stand_139 : decode cX0_stand 139 = .ok (.ireturn, 1) := by decide +kernel
theorem dX0_productOf_0 : decode cX0_productOf 0 = .ok (.iload_n 0, 1) := by decide +kernel
theorem dX0_productOf_1 : decode cX0_productOf 1 = .ok (.invokestatic 33, 3) := by decide +kernel
theorem dX0_productOf_4 : decode cX0_productOf 4 = .ok (.iload_n 1, 1) := by decide +kernel
theorem dX0_productOf_5 : decode cX0_productOf 5 = .ok (.invokestatic 33, 3) := by decide +kernel
theorem dX0_productOf_8 : decode cX0_productOf 8 = .ok (.imul, 1) := by decide +kernel
theorem dX0_productOf_9 : decode cX0_productOf 9 = .ok (.iload_n 0, 1) := by decide +kernel
theorem dX0_productOf_10 : decode cX0_productOf 10 = .ok (.invokestatic 36, 3) := by decide +kernel
theorem dX0_productOf_13 : decode cX0_productOf 13 = .ok (.iload_n 1, 1) := by decide +kernel
theorem dX0_productOf_14 : decode cX0_productOf 14 = .ok (.invokestatic 36, 3) := by decide +kernel
theorem dX0_productOf_17 : decode cX0_productOf 17 = .ok (.imul, 1) := by decide +kernel
theorem dX0_productOf_18 : decode cX0_productOf 18 = .ok (.iadd, 1) := by decide +kernel
theorem dX0_productOf_19 : decode cX0_productOf 19 = .ok (.ireturn, 1) := by decide +kernel
theorem dX0_reached_0 : decode cX0_reached 0 = .ok (.iconst 0, 1) := by decide +kernel
theorem dX0_reached_1 : decode cX0_reached 1 = .ok (.istore_n 3, 1) := by decide +kernel
theorem dX0_reached_2 : decode cX0_reached 2 = .ok (.iconst 0, 1) := by decide +kernel
theorem dX0_reached_3 : decode cX0_reached 3 = .ok (.istore 4, 2) := by decide +kernel
theorem dX0_reached_5 : decode cX0_reached 5 = .ok (.iload 4, 2) := by decide +kernel
theorem dX0_reached_7 : decode cX0_reached 7 = .ok (.iconst 3, 1) := by decide +kernel
theorem dX0_reached_8 : decode cX0_reached 8 = .ok (.if_icmp .ge 35, 3) := by decide +kernel
theorem dX0_reached_11 : decode cX0_reached 11 = .ok (.iload_n 3, 1) := by decide +kernel
theorem dX0_reached_12 : decode cX0_reached 12 = .ok (.aload_n 0, 1) := by decide +kernel
theorem dX0_reached_13 : decode cX0_reached 13 = .ok (.getfield 7, 3) := by decide +kernel
theorem dX0_reached_16 : decode cX0_reached 16 = .ok (.iload 4, 2) := by decide +kernel
theorem dX0_reached_18 : decode cX0_reached 18 = .ok (.iaload, 1) := by decide +kernel
theorem dX0_reached_19 : decode cX0_reached 19 = .ok (.aload_n 0, 1) := by decide +kernel
theorem dX0_reached_20 : decode cX0_reached 20 = .ok (.getfield 13, 3) := by decide +kernel
theorem dX0_reached_23 : decode cX0_reached 23 = .ok (.iconst 3, 1) := by decide +kernel
theorem dX0_reached_24 : decode cX0_reached 24 = .ok (.iload_n 1, 1) := by decide +kernel
theorem dX0_reached_25 : decode cX0_reached 25 = .ok (.imul, 1) := by decide +kernel
theorem dX0_reached_26 : decode cX0_reached 26 = .ok (.iload 4, 2) := by decide +kernel
theorem dX0_reached_28 : decode cX0_reached 28 = .ok (.iadd, 1) := by decide +kernel
theorem dX0_reached_29 : decode cX0_reached 29 = .ok (.iaload, 1) := by decide +kernel
theorem dX0_reached_30 : decode cX0_reached 30 = .ok (.iload_n 2, 1) := by decide +kernel
theorem dX0_reached_31 : decode cX0_reached 31 = .ok (.invokestatic 39, 3) := by decide +kernel
theorem dX0_reached_34 : decode cX0_reached 34 = .ok (.imul, 1) := by decide +kernel
theorem dX0_reached_35 : decode cX0_reached 35 = .ok (.iadd, 1) := by decide +kernel
theorem dX0_reached_36 : decode cX0_reached 36 = .ok (.istore_n 3, 1) := by decide +kernel
theorem dX0_reached_37 : decode cX0_reached 37 = .ok (.iinc 4 1, 3) := by decide +kernel
theorem dX0_reached_40 : decode cX0_reached 40 = .ok (.goto (-35), 3) := by decide +kernel
theorem dX0_reached_43 : decode cX0_reached 43 = .ok (.iload_n 3, 1) := by decide +kernel
theorem dX0_reached_44 : decode cX0_reached 44 = .ok (.ireturn, 1) := by decide +kernel
theorem dX1_init_0 : decode cX1_init 0 = .ok (.aload_n 0, 1) := by decide +kernel
theorem dX1_init_1 : decode cX1_init 1 = .ok (.invokespecial 3, 3) := by decide +kernel
theorem dX1_init_4 : decode cX1_init 4 = .ok (.aload_n 0, 1) := by decide +kernel
theorem dX1_init_5 : decode cX1_init 5 = .ok (.bipush 20, 2) := by decide +kernel
theorem dX1_init_7 : decode cX1_init 7 = .ok (.newarray .int, 2) := by decide +kernel
theorem dX1_init_9 : decode cX1_init 9 = .ok (.putfield 11, 3) := by decide +kernel
theorem dX1_init_12 : decode cX1_init 12 = .ok (.aload_n 0, 1) := by decide +kernel
theorem dX1_init_13 : decode cX1_init 13 = .ok (.bipush 20, 2) := by decide +kernel
theorem dX1_init_15 : decode cX1_init 15 = .ok (.newarray .int, 2) := by decide +kernel
theorem dX1_init_17 : decode cX1_init 17 = .ok (.putfield 15, 3) := by decide +kernel
theorem dX1_init_20 : decode cX1_init 20 = .ok (.aload_n 0, 1) := by decide +kernel
theorem dX1_init_21 : decode cX1_init 21 = .ok (.bipush 20, 2) := by decide +kernel
theorem dX1_init_23 : decode cX1_init 23 = .ok (.newarray .int, 2) := by decide +kernel
theorem dX1_init_25 : decode cX1_init 25 = .ok (.putfield 18, 3) := by decide +kernel
theorem dX1_init_28 : decode cX1_init 28 = .ok (.aload_n 0, 1) := by decide +kernel
theorem dX1_init_29 : decode cX1_init 29 = .ok (.bipush 20, 2) := by decide +kernel
theorem dX1_init_31 : decode cX1_init 31 = .ok (.newarray .int, 2) := by decide +kernel
theorem dX1_init_33 : decode cX1_init 33 = .ok (.putfield 21, 3) := by decide +kernel
theorem dX1_init_36 : decode cX1_init 36 = .ok (.aload_n 0, 1) := by decide +kernel
theorem dX1_init_37 : decode cX1_init 37 = .ok (.iconst 0, 1) := by decide +kernel
theorem dX1_init_38 : decode cX1_init 38 = .ok (.putfield 24, 3) := by decide +kernel
theorem dX1_init_41 : decode cX1_init 41 = .ok (.return_, 1) := by decide +kernel
theorem dX1_mayBe_0 : decode cX1_mayBe 0 = .ok (.iload_n 0, 1) := by decide +kernel
theorem dX1_mayBe_1 : decode cX1_mayBe 1 = .ok (.sipush (-1000), 3) := by decide +kernel
theorem dX1_mayBe_4 : decode cX1_mayBe 4 = .ok (.if_icmp .lt 14, 3) := by decide +kernel
theorem dX1_mayBe_7 : decode cX1_mayBe 7 = .ok (.iload_n 0, 1) := by decide +kernel
theorem dX1_mayBe_8 : decode cX1_mayBe 8 = .ok (.sipush 1000, 3) := by decide +kernel
theorem dX1_mayBe_11 : decode cX1_mayBe 11 = .ok (.if_icmp .gt 7, 3) := by decide +kernel
theorem dX1_mayBe_14 : decode cX1_mayBe 14 = .ok (.iconst 1, 1) := by decide +kernel
theorem dX1_mayBe_15 : decode cX1_mayBe 15 = .ok (.goto 4, 3) := by decide +kernel
theorem dX1_mayBe_18 : decode cX1_mayBe 18 = .ok (.iconst 0, 1) := by decide +kernel
theorem dX1_mayBe_19 : decode cX1_mayBe 19 = .ok (.ireturn, 1) := by decide +kernel
theorem dX1_see_0 : decode cX1_see 0 = .ok (.aload_n 0, 1) := by decide +kernel
theorem dX1_see_1 : decode cX1_see 1 = .ok (.getfield 11, 3) := by decide +kernel
theorem dX1_see_4 : decode cX1_see 4 = .ok (.aload_n 0, 1) := by decide +kernel
theorem dX1_see_5 : decode cX1_see 5 = .ok (.getfield 24, 3) := by decide +kernel
theorem dX1_see_8 : decode cX1_see 8 = .ok (.iload_n 1, 1) := by decide +kernel
theorem dX1_see_9 : decode cX1_see 9 = .ok (.iastore, 1) := by decide +kernel
theorem dX1_see_10 : decode cX1_see 10 = .ok (.aload_n 0, 1) := by decide +kernel
theorem dX1_see_11 : decode cX1_see 11 = .ok (.getfield 15, 3) := by decide +kernel
theorem dX1_see_14 : decode cX1_see 14 = .ok (.aload_n 0, 1) := by decide +kernel
theorem dX1_see_15 : decode cX1_see 15 = .ok (.getfield 24, 3) := by decide +kernel
theorem dX1_see_18 : decode cX1_see 18 = .ok (.iload_n 2, 1) := by decide +kernel
theorem dX1_see_19 : decode cX1_see 19 = .ok (.iastore, 1) := by decide +kernel
theorem dX1_see_20 : decode cX1_see 20 = .ok (.aload_n 0, 1) := by decide +kernel
theorem dX1_see_21 : decode cX1_see 21 = .ok (.getfield 18, 3) := by decide +kernel
theorem dX1_see_24 : decode cX1_see 24 = .ok (.aload_n 0, 1) := by decide +kernel
theorem dX1_see_25 : decode cX1_see 25 = .ok (.getfield 24, 3) := by decide +kernel
theorem dX1_see_28 : decode cX1_see 28 = .ok (.iload_n 3, 1) := by decide +kernel
theorem dX1_see_29 : decode cX1_see 29 = .ok (.iastore, 1) := by decide +kernel
theorem dX1_see_30 : decode cX1_see 30 = .ok (.aload_n 0, 1) := by decide +kernel
theorem dX1_see_31 : decode cX1_see 31 = .ok (.getfield 21, 3) := by decide +kernel
theorem dX1_see_34 : decode cX1_see 34 = .ok (.aload_n 0, 1) := by decide +kernel
theorem dX1_see_35 : decode cX1_see 35 = .ok (.getfield 24, 3) := by decide +kernel
theorem dX1_see_38 : decode cX1_see 38 = .ok (.iload 4, 2) := by decide +kernel
theorem dX1_see_40 : decode cX1_see 40 = .ok (.iastore, 1) := by decide +kernel
theorem dX1_see_41 : decode cX1_see 41 = .ok (.aload_n 0, 1) := by decide +kernel
theorem dX1_see_42 : decode cX1_see 42 = .ok (.dup, 1) := by decide +kernel
theorem dX1_see_43 : decode cX1_see 43 = .ok (.getfield 24, 3) := by decide +kernel
theorem dX1_see_46 : decode cX1_see 46 = .ok (.iconst 1, 1) := by decide +kernel
theorem dX1_see_47 : decode cX1_see 47 = .ok (.iadd, 1) := by decide +kernel
theorem dX1_see_48 : decode cX1_see 48 = .ok (.putfield 24, 3) := by decide +kernel
theorem dX1_see_51 : decode cX1_see 51 = .ok (.aload_n 0, 1) := by decide +kernel
theorem dX1_see_52 : decode cX1_see 52 = .ok (.getfield 24, 3) := by decide +kernel
theorem dX1_see_55 : decode cX1_see 55 = .ok (.ireturn, 1) := by decide +kernel
theorem dX1_shift_0 : decode cX1_shift 0 = .ok (.iload_n 1, 1) := by decide +kernel
theorem dX1_shift_1 : decode cX1_shift 1 = .ok (.invokestatic 28, 3) := by decide +kernel
theorem dX1_shift_4 : decode cX1_shift 4 = .ok (.istore 4, 2) := by decide +kernel
theorem dX1_shift_6 : decode cX1_shift 6 = .ok (.iload_n 1, 1) := by decide +kernel
theorem dX1_shift_7 : decode cX1_shift 7 = .ok (.invokestatic 34, 3) := by decide +kernel
theorem dX1_shift_10 : decode cX1_shift 10 = .ok (.istore 5, 2) := by decide +kernel
theorem dX1_shift_12 : decode cX1_shift 12 = .ok (.iload_n 3, 1) := by decide +kernel
theorem dX1_shift_13 : decode cX1_shift 13 = .ok (.ifCond .ne 33, 3) := by decide +kernel
theorem dX1_shift_16 : decode cX1_shift 16 = .ok (.bipush 65, 2) := by decide +kernel
theorem dX1_shift_18 : decode cX1_shift 18 = .ok (.aload_n 0, 1) := by decide +kernel
theorem dX1_shift_19 : decode cX1_shift 19 = .ok (.getfield 18, 3) := by decide +kernel
theorem dX1_shift_22 : decode cX1_shift 22 = .ok (.iload_n 2, 1) := by decide +kernel
theorem dX1_shift_23 : decode cX1_shift 23 = .ok (.iaload, 1) := by decide +kernel
theorem dX1_shift_24 : decode cX1_shift 24 = .ok (.imul, 1) := by decide +kernel
theorem dX1_shift_25 : decode cX1_shift 25 = .ok (.iload 4, 2) := by decide +kernel
theorem dX1_shift_27 : decode cX1_shift 27 = .ok (.aload_n 0, 1) := by decide +kernel
theorem dX1_shift_28 : decode cX1_shift 28 = .ok (.getfield 11, 3) := by decide +kernel
theorem dX1_shift_31 : decode cX1_shift 31 = .ok (.iload_n 2, 1) := by decide +kernel
theorem dX1_shift_32 : decode cX1_shift 32 = .ok (.iaload, 1) := by decide +kernel
theorem dX1_shift_33 : decode cX1_shift 33 = .ok (.imul, 1) := by decide +kernel
theorem dX1_shift_34 : decode cX1_shift 34 = .ok (.isub, 1) := by decide +kernel
theorem dX1_shift_35 : decode cX1_shift 35 = .ok (.iload 5, 2) := by decide +kernel
theorem dX1_shift_37 : decode cX1_shift 37 = .ok (.aload_n 0, 1) := by decide +kernel
theorem dX1_shift_38 : decode cX1_shift 38 = .ok (.getfield 15, 3) := by decide +kernel
theorem dX1_shift_41 : decode cX1_shift 41 = .ok (.iload_n 2, 1) := by decide +kernel
theorem dX1_shift_42 : decode cX1_shift 42 = .ok (.iaload, 1) := by decide +kernel
theorem dX1_shift_43 : decode cX1_shift 43 = .ok (.imul, 1) := by decide +kernel
theorem dX1_shift_44 : decode cX1_shift 44 = .ok (.iadd, 1) := by decide +kernel
theorem dX1_shift_45 : decode cX1_shift 45 = .ok (.ireturn, 1) := by decide +kernel
theorem dX1_shift_46 : decode cX1_shift 46 = .ok (.bipush 65, 2) := by decide +kernel
theorem dX1_shift_48 : decode cX1_shift 48 = .ok (.aload_n 0, 1) := by decide +kernel
theorem dX1_shift_49 : decode cX1_shift 49 = .ok (.getfield 21, 3) := by decide +kernel
theorem dX1_shift_52 : decode cX1_shift 52 = .ok (.iload_n 2, 1) := by decide +kernel
theorem dX1_shift_53 : decode cX1_shift 53 = .ok (.iaload, 1) := by decide +kernel
theorem dX1_shift_54 : decode cX1_shift 54 = .ok (.imul, 1) := by decide +kernel
theorem dX1_shift_55 : decode cX1_shift 55 = .ok (.iload 5, 2) := by decide +kernel
theorem dX1_shift_57 : decode cX1_shift 57 = .ok (.aload_n 0, 1) := by decide +kernel
theorem dX1_shift_58 : decode cX1_shift 58 = .ok (.getfield 11, 3) := by decide +kernel
theorem dX1_shift_61 : decode cX1_shift 61 = .ok (.iload_n 2, 1) := by decide +kernel
theorem dX1_shift_62 : decode cX1_shift 62 = .ok (.iaload, 1) := by decide +kernel
theorem dX1_shift_63 : decode cX1_shift 63 = .ok (.imul, 1) := by decide +kernel
theorem dX1_shift_64 : decode cX1_shift 64 = .ok (.isub, 1) := by decide +kernel
theorem dX1_shift_65 : decode cX1_shift 65 = .ok (.iload 4, 2) := by decide +kernel
theorem dX1_shift_67 : decode cX1_shift 67 = .ok (.aload_n 0, 1) := by decide +kernel
theorem dX1_shift_68 : decode cX1_shift 68 = .ok (.getfield 15, 3) := by decide +kernel
theorem dX1_shift_71 : decode cX1_shift 71 = .ok (.iload_n 2, 1) := by decide +kernel
theorem dX1_shift_72 : decode cX1_shift 72 = .ok (.iaload, 1) := by decide +kernel
theorem dX1_shift_73 : decode cX1_shift 73 = .ok (.imul, 1) := by decide +kernel
theorem dX1_shift_74 : decode cX1_shift 74 = .ok (.isub, 1) := by decide +kernel
theorem dX1_shift_75 : decode cX1_shift 75 = .ok (.ireturn, 1) := by decide +kernel
theorem dX1_isAnswer_0 : decode cX1_isAnswer 0 = .ok (.iconst 1, 1) := by decide +kernel
theorem dX1_isAnswer_1 : decode cX1_isAnswer 1 = .ok (.istore_n 2, 1) := by decide +kernel
theorem dX1_isAnswer_2 : decode cX1_isAnswer 2 = .ok (.iload_n 2, 1) := by decide +kernel
theorem dX1_isAnswer_3 : decode cX1_isAnswer 3 = .ok (.aload_n 0, 1) := by decide +kernel
theorem dX1_isAnswer_4 : decode cX1_isAnswer 4 = .ok (.getfield 24, 3) := by decide +kernel
theorem dX1_isAnswer_7 : decode cX1_isAnswer 7 = .ok (.if_icmp .ge 45, 3) := by decide +kernel
theorem dX1_isAnswer_10 : decode cX1_isAnswer 10 = .ok (.aload_n 0, 1) := by decide +kernel
theorem dX1_isAnswer_11 : decode cX1_isAnswer 11 = .ok (.iload_n 1, 1) := by decide +kernel
theorem dX1_isAnswer_12 : decode cX1_isAnswer 12 = .ok (.iload_n 2, 1) := by decide +kernel
theorem dX1_isAnswer_13 : decode cX1_isAnswer 13 = .ok (.iconst 0, 1) := by decide +kernel
theorem dX1_isAnswer_14 : decode cX1_isAnswer 14 = .ok (.invokevirtual 37, 3) := by decide +kernel
theorem dX1_isAnswer_17 : decode cX1_isAnswer 17 = .ok (.aload_n 0, 1) := by decide +kernel
theorem dX1_isAnswer_18 : decode cX1_isAnswer 18 = .ok (.iload_n 1, 1) := by decide +kernel
theorem dX1_isAnswer_19 : decode cX1_isAnswer 19 = .ok (.iconst 0, 1) := by decide +kernel
theorem dX1_isAnswer_20 : decode cX1_isAnswer 20 = .ok (.iconst 0, 1) := by decide +kernel
theorem dX1_isAnswer_21 : decode cX1_isAnswer 21 = .ok (.invokevirtual 37, 3) := by decide +kernel
theorem dX1_isAnswer_24 : decode cX1_isAnswer 24 = .ok (.if_icmp .ne 20, 3) := by decide +kernel
theorem dX1_isAnswer_27 : decode cX1_isAnswer 27 = .ok (.aload_n 0, 1) := by decide +kernel
theorem dX1_isAnswer_28 : decode cX1_isAnswer 28 = .ok (.iload_n 1, 1) := by decide +kernel
theorem dX1_isAnswer_29 : decode cX1_isAnswer 29 = .ok (.iload_n 2, 1) := by decide +kernel
theorem dX1_isAnswer_30 : decode cX1_isAnswer 30 = .ok (.iconst 1, 1) := by decide +kernel
theorem dX1_isAnswer_31 : decode cX1_isAnswer 31 = .ok (.invokevirtual 37, 3) := by decide +kernel
theorem dX1_isAnswer_34 : decode cX1_isAnswer 34 = .ok (.aload_n 0, 1) := by decide +kernel
theorem dX1_isAnswer_35 : decode cX1_isAnswer 35 = .ok (.iload_n 1, 1) := by decide +kernel
theorem dX1_isAnswer_36 : decode cX1_isAnswer 36 = .ok (.iconst 0, 1) := by decide +kernel
theorem dX1_isAnswer_37 : decode cX1_isAnswer 37 = .ok (.iconst 1, 1) := by decide +kernel
theorem dX1_isAnswer_38 : decode cX1_isAnswer 38 = .ok (.invokevirtual 37, 3) := by decide +kernel
theorem dX1_isAnswer_41 : decode cX1_isAnswer 41 = .ok (.if_icmp .eq 5, 3) := by decide +kernel
theorem dX1_isAnswer_44 : decode cX1_isAnswer 44 = .ok (.iconst 0, 1) := by decide +kernel
theorem dX1_isAnswer_45 : decode cX1_isAnswer 45 = .ok (.ireturn, 1) := by decide +kernel
theorem dX1_isAnswer_46 : decode cX1_isAnswer 46 = .ok (.iinc 2 1, 3) := by decide +kernel
theorem dX1_isAnswer_49 : decode cX1_isAnswer 49 = .ok (.goto (-47), 3) := by decide +kernel
theorem dX1_isAnswer_52 : decode cX1_isAnswer 52 = .ok (.iconst 1, 1) := by decide +kernel
theorem dX1_isAnswer_53 : decode cX1_isAnswer 53 = .ok (.ireturn, 1) := by decide +kernel
theorem dX1_headingsThatAnswer_0 : decode cX1_headingsThatAnswer 0 = .ok (.iconst 0, 1) := by decide +kernel
theorem dX1_headingsThatAnswer_1 : decode cX1_headingsThatAnswer 1 = .ok (.istore_n 1, 1) := by decide +kernel
theorem dX1_headingsThatAnswer_2 : decode cX1_headingsThatAnswer 2 = .ok (.iconst 0, 1) := by decide +kernel
theorem dX1_headingsThatAnswer_3 : decode cX1_headingsThatAnswer 3 = .ok (.istore_n 2, 1) := by decide +kernel
theorem dX1_headingsThatAnswer_4 : decode cX1_headingsThatAnswer 4 = .ok (.iload_n 2, 1) := by decide +kernel
theorem dX1_headingsThatAnswer_5 : decode cX1_headingsThatAnswer 5 = .ok (.bipush 36, 2) := by decide +kernel
theorem dX1_headingsThatAnswer_7 : decode cX1_headingsThatAnswer 7 = .ok (.if_icmp .ge 20, 3) := by decide +kernel
theorem dX1_headingsThatAnswer_10 : decode cX1_headingsThatAnswer 10 = .ok (.aload_n 0, 1) := by decide +kernel
theorem dX1_headingsThatAnswer_11 : decode cX1_headingsThatAnswer 11 = .ok (.iload_n 2, 1) := by decide +kernel
theorem dX1_headingsThatAnswer_12 : decode cX1_headingsThatAnswer 12 = .ok (.invokevirtual 41, 3) := by decide +kernel
theorem dX1_headingsThatAnswer_15 : decode cX1_headingsThatAnswer 15 = .ok (.ifCond .eq 6, 3) := by decide +kernel
theorem dX1_headingsThatAnswer_18 : decode cX1_headingsThatAnswer 18 = .ok (.iinc 1 1, 3) := by decide +kernel
theorem dX1_headingsThatAnswer_21 : decode cX1_headingsThatAnswer 21 = .ok (.iinc 2 1, 3) := by decide +kernel
theorem dX1_headingsThatAnswer_24 : decode cX1_headingsThatAnswer 24 = .ok (.goto (-20), 3) := by decide +kernel
theorem dX1_headingsThatAnswer_27 : decode cX1_headingsThatAnswer 27 = .ok (.iload_n 1, 1) := by decide +kernel
theorem dX1_headingsThatAnswer_28 : decode cX1_headingsThatAnswer 28 = .ok (.ireturn, 1) := by decide +kernel
theorem dX1_headingOfAnswer_0 : decode cX1_headingOfAnswer 0 = .ok (.iconst 0, 1) := by decide +kernel
theorem dX1_headingOfAnswer_1 : decode cX1_headingOfAnswer 1 = .ok (.istore_n 2, 1) := by decide +kernel
theorem dX1_headingOfAnswer_2 : decode cX1_headingOfAnswer 2 = .ok (.iconst 0, 1) := by decide +kernel
theorem dX1_headingOfAnswer_3 : decode cX1_headingOfAnswer 3 = .ok (.istore_n 3, 1) := by decide +kernel
theorem dX1_headingOfAnswer_4 : decode cX1_headingOfAnswer 4 = .ok (.iload_n 3, 1) := by decide +kernel
theorem dX1_headingOfAnswer_5 : decode cX1_headingOfAnswer 5 = .ok (.bipush 36, 2) := by decide +kernel
theorem dX1_headingOfAnswer_7 : decode cX1_headingOfAnswer 7 = .ok (.if_icmp .ge 27, 3) := by decide +kernel
theorem dX1_headingOfAnswer_10 : decode cX1_headingOfAnswer 10 = .ok (.aload_n 0, 1) := by decide +kernel
theorem dX1_headingOfAnswer_11 : decode cX1_headingOfAnswer 11 = .ok (.iload_n 3, 1) := by decide +kernel
theorem dX1_headingOfAnswer_12 : decode cX1_headingOfAnswer 12 = .ok (.invokevirtual 41, 3) := by decide +kernel
theorem dX1_headingOfAnswer_15 : decode cX1_headingOfAnswer 15 = .ok (.ifCond .eq 13, 3) := by decide +kernel
theorem dX1_headingOfAnswer_18 : decode cX1_headingOfAnswer 18 = .ok (.iload_n 2, 1) := by decide +kernel
theorem dX1_headingOfAnswer_19 : decode cX1_headingOfAnswer 19 = .ok (.iload_n 1, 1) := by decide +kernel
theorem dX1_headingOfAnswer_20 : decode cX1_headingOfAnswer 20 = .ok (.if_icmp .ne 5, 3) := by decide +kernel
theorem dX1_headingOfAnswer_23 : decode cX1_headingOfAnswer 23 = .ok (.iload_n 3, 1) := by decide +kernel
theorem dX1_headingOfAnswer_24 : decode cX1_headingOfAnswer 24 = .ok (.ireturn, 1) := by decide +kernel
theorem dX1_headingOfAnswer_25 : decode cX1_headingOfAnswer 25 = .ok (.iinc 2 1, 3) := by decide +kernel
theorem dX1_headingOfAnswer_28 : decode cX1_headingOfAnswer 28 = .ok (.iinc 3 1, 3) := by decide +kernel
theorem dX1_headingOfAnswer_31 : decode cX1_headingOfAnswer 31 = .ok (.goto (-27), 3) := by decide +kernel
theorem dX1_headingOfAnswer_34 : decode cX1_headingOfAnswer 34 = .ok (.iconst (-1), 1) := by decide +kernel
theorem dX1_headingOfAnswer_35 : decode cX1_headingOfAnswer 35 = .ok (.ireturn, 1) := by decide +kernel
theorem dX2_init_0 : decode cX2_init 0 = .ok (.aload_n 0, 1) := by decide +kernel
theorem dX2_init_1 : decode cX2_init 1 = .ok (.invokespecial 1, 3) := by decide +kernel
theorem dX2_init_4 : decode cX2_init 4 = .ok (.aload_n 0, 1) := by decide +kernel
theorem dX2_init_5 : decode cX2_init 5 = .ok (.bipush 108, 2) := by decide +kernel
theorem dX2_init_7 : decode cX2_init 7 = .ok (.newarray .boolean, 2) := by decide +kernel
theorem dX2_init_9 : decode cX2_init 9 = .ok (.putfield 9, 3) := by decide +kernel
theorem dX2_init_12 : decode cX2_init 12 = .ok (.aload_n 0, 1) := by decide +kernel
theorem dX2_init_13 : decode cX2_init 13 = .ok (.iconst 0, 1) := by decide +kernel
theorem dX2_init_14 : decode cX2_init 14 = .ok (.putfield 15, 3) := by decide +kernel
theorem dX2_init_17 : decode cX2_init 17 = .ok (.aload_n 0, 1) := by decide +kernel
theorem dX2_init_18 : decode cX2_init 18 = .ok (.iconst 0, 1) := by decide +kernel
theorem dX2_init_19 : decode cX2_init 19 = .ok (.putfield 19, 3) := by decide +kernel
theorem dX2_init_22 : decode cX2_init 22 = .ok (.aload_n 0, 1) := by decide +kernel
theorem dX2_init_23 : decode cX2_init 23 = .ok (.lconst 0, 1) := by decide +kernel
theorem dX2_init_24 : decode cX2_init 24 = .ok (.putfield 22, 3) := by decide +kernel
theorem dX2_init_27 : decode cX2_init 27 = .ok (.iconst 0, 1) := by decide +kernel
theorem dX2_init_28 : decode cX2_init 28 = .ok (.istore_n 1, 1) := by decide +kernel
theorem dX2_init_29 : decode cX2_init 29 = .ok (.iload_n 1, 1) := by decide +kernel
theorem dX2_init_30 : decode cX2_init 30 = .ok (.aload_n 0, 1) := by decide +kernel
theorem dX2_init_31 : decode cX2_init 31 = .ok (.getfield 9, 3) := by decide +kernel
theorem dX2_init_34 : decode cX2_init 34 = .ok (.arraylength, 1) := by decide +kernel
theorem dX2_init_35 : decode cX2_init 35 = .ok (.if_icmp .ge 16, 3) := by decide +kernel
theorem dX2_init_38 : decode cX2_init 38 = .ok (.aload_n 0, 1) := by decide +kernel
theorem dX2_init_39 : decode cX2_init 39 = .ok (.getfield 9, 3) := by decide +kernel
theorem dX2_init_42 : decode cX2_init 42 = .ok (.iload_n 1, 1) := by decide +kernel
theorem dX2_init_43 : decode cX2_init 43 = .ok (.iconst 1, 1) := by decide +kernel
theorem dX2_init_44 : decode cX2_init 44 = .ok (.bastore, 1) := by decide +kernel
theorem dX2_init_45 : decode cX2_init 45 = .ok (.iinc 1 1, 3) := by decide +kernel
theorem dX2_init_48 : decode cX2_init 48 = .ok (.goto (-19), 3) := by decide +kernel
theorem dX2_init_51 : decode cX2_init 51 = .ok (.return_, 1) := by decide +kernel
theorem dX2_isPlace_0 : decode cX2_isPlace 0 = .ok (.iload_n 0, 1) := by decide +kernel
theorem dX2_isPlace_1 : decode cX2_isPlace 1 = .ok (.sipush (-3000), 3) := by decide +kernel
theorem dX2_isPlace_4 : decode cX2_isPlace 4 = .ok (.if_icmp .lt 28, 3) := by decide +kernel
theorem dX2_isPlace_7 : decode cX2_isPlace 7 = .ok (.iload_n 0, 1) := by decide +kernel
theorem dX2_isPlace_8 : decode cX2_isPlace 8 = .ok (.sipush 3000, 3) := by decide +kernel
theorem dX2_isPlace_11 : decode cX2_isPlace 11 = .ok (.if_icmp .gt 21, 3) := by decide +kernel
theorem dX2_isPlace_14 : decode cX2_isPlace 14 = .ok (.iload_n 1, 1) := by decide +kernel
theorem dX2_isPlace_15 : decode cX2_isPlace 15 = .ok (.sipush (-3000), 3) := by decide +kernel
theorem dX2_isPlace_18 : decode cX2_isPlace 18 = .ok (.if_icmp .lt 14, 3) := by decide +kernel
theorem dX2_isPlace_21 : decode cX2_isPlace 21 = .ok (.iload_n 1, 1) := by decide +kernel
theorem dX2_isPlace_22 : decode cX2_isPlace 22 = .ok (.sipush 3000, 3) := by decide +kernel
theorem dX2_isPlace_25 : decode cX2_isPlace 25 = .ok (.if_icmp .gt 7, 3) := by decide +kernel
theorem dX2_isPlace_28 : decode cX2_isPlace 28 = .ok (.iconst 1, 1) := by decide +kernel
theorem dX2_isPlace_29 : decode cX2_isPlace 29 = .ok (.goto 4, 3) := by decide +kernel
theorem dX2_isPlace_32 : decode cX2_isPlace 32 = .ok (.iconst 0, 1) := by decide +kernel
theorem dX2_isPlace_33 : decode cX2_isPlace 33 = .ok (.ireturn, 1) := by decide +kernel
theorem dX2_keepWithin_0 : decode cX2_keepWithin 0 = .ok (.iconst 0, 1) := by decide +kernel
theorem dX2_keepWithin_1 : decode cX2_keepWithin 1 = .ok (.istore 4, 2) := by decide +kernel
theorem dX2_keepWithin_3 : decode cX2_keepWithin 3 = .ok (.iload 4, 2) := by decide +kernel
theorem dX2_keepWithin_5 : decode cX2_keepWithin 5 = .ok (.bipush 36, 2) := by decide +kernel
theorem dX2_keepWithin_7 : decode cX2_keepWithin 7 = .ok (.if_icmp .ge 40, 3) := by decide +kernel
theorem dX2_keepWithin_10 : decode cX2_keepWithin 10 = .ok (.aload_n 0, 1) := by decide +kernel
theorem dX2_keepWithin_11 : decode cX2_keepWithin 11 = .ok (.getfield 9, 3) := by decide +kernel
theorem dX2_keepWithin_14 : decode cX2_keepWithin 14 = .ok (.bipush 36, 2) := by decide +kernel
theorem dX2_keepWithin_16 : decode cX2_keepWithin 16 = .ok (.iload_n 1, 1) := by decide +kernel
theorem dX2_keepWithin_17 : decode cX2_keepWithin 17 = .ok (.imul, 1) := by decide +kernel
theorem dX2_keepWithin_18 : decode cX2_keepWithin 18 = .ok (.iload 4, 2) := by decide +kernel
theorem dX2_keepWithin_20 : decode cX2_keepWithin 20 = .ok (.iadd, 1) := by decide +kernel
theorem dX2_keepWithin_21 : decode cX2_keepWithin 21 = .ok (.iload 4, 2) := by decide +kernel
theorem dX2_keepWithin_23 : decode cX2_keepWithin 23 = .ok (.bipush 36, 2) := by decide +kernel
theorem dX2_keepWithin_25 : decode cX2_keepWithin 25 = .ok (.iadd, 1) := by decide +kernel
theorem dX2_keepWithin_26 : decode cX2_keepWithin 26 = .ok (.iload_n 2, 1) := by decide +kernel
theorem dX2_keepWithin_27 : decode cX2_keepWithin 27 = .ok (.isub, 1) := by decide +kernel
theorem dX2_keepWithin_28 : decode cX2_keepWithin 28 = .ok (.invokestatic 26, 3) := by decide +kernel
theorem dX2_keepWithin_31 : decode cX2_keepWithin 31 = .ok (.iload_n 3, 1) := by decide +kernel
theorem dX2_keepWithin_32 : decode cX2_keepWithin 32 = .ok (.if_icmp .gt 7, 3) := by decide +kernel
theorem dX2_keepWithin_35 : decode cX2_keepWithin 35 = .ok (.iconst 1, 1) := by decide +kernel
theorem dX2_keepWithin_36 : decode cX2_keepWithin 36 = .ok (.goto 4, 3) := by decide +kernel
theorem dX2_keepWithin_39 : decode cX2_keepWithin 39 = .ok (.iconst 0, 1) := by decide +kernel
theorem dX2_keepWithin_40 : decode cX2_keepWithin 40 = .ok (.bastore, 1) := by decide +kernel
theorem dX2_keepWithin_41 : decode cX2_keepWithin 41 = .ok (.iinc 4 1, 3) := by decide +kernel
theorem dX2_keepWithin_44 : decode cX2_keepWithin 44 = .ok (.goto (-41), 3) := by decide +kernel
theorem dX2_keepWithin_47 : decode cX2_keepWithin 47 = .ok (.return_, 1) := by decide +kernel
theorem dX2_seek_0 : decode cX2_seek 0 = .ok (.aload_n 0, 1) := by decide +kernel
theorem dX2_seek_1 : decode cX2_seek 1 = .ok (.ldc2_w 30, 3) := by decide +kernel
theorem dX2_seek_4 : decode cX2_seek 4 = .ok (.putfield 22, 3) := by decide +kernel
theorem dX2_seek_7 : decode cX2_seek 7 = .ok (.aload_n 0, 1) := by decide +kernel
theorem dX2_seek_8 : decode cX2_seek 8 = .ok (.aload_n 1, 1) := by decide +kernel
theorem dX2_seek_9 : decode cX2_seek 9 = .ok (.iconst 2, 1) := by decide +kernel
theorem dX2_seek_10 : decode cX2_seek 10 = .ok (.iaload, 1) := by decide +kernel
theorem dX2_seek_11 : decode cX2_seek 11 = .ok (.putfield 15, 3) := by decide +kernel
theorem dX2_seek_14 : decode cX2_seek 14 = .ok (.iconst 0, 1) := by decide +kernel
theorem dX2_seek_15 : decode cX2_seek 15 = .ok (.istore 4, 2) := by decide +kernel
theorem dX2_seek_17 : decode cX2_seek 17 = .ok (.iload 4, 2) := by decide +kernel
theorem dX2_seek_19 : decode cX2_seek 19 = .ok (.bipush 36, 2) := by decide +kernel
theorem dX2_seek_21 : decode cX2_seek 21 = .ok (.if_icmp .ge 64, 3) := by decide +kernel
theorem dX2_seek_24 : decode cX2_seek 24 = .ok (.aload_n 0, 1) := by decide +kernel
theorem dX2_seek_25 : decode cX2_seek 25 = .ok (.getfield 9, 3) := by decide +kernel
theorem dX2_seek_28 : decode cX2_seek 28 = .ok (.iload 4, 2) := by decide +kernel
theorem dX2_seek_30 : decode cX2_seek 30 = .ok (.baload, 1) := by decide +kernel
theorem dX2_seek_31 : decode cX2_seek 31 = .ok (.ifCond .eq 48, 3) := by decide +kernel
theorem dX2_seek_34 : decode cX2_seek 34 = .ok (.bipush 65, 2) := by decide +kernel
theorem dX2_seek_36 : decode cX2_seek 36 = .ok (.iload_n 2, 1) := by decide +kernel
theorem dX2_seek_37 : decode cX2_seek 37 = .ok (.imul, 1) := by decide +kernel
theorem dX2_seek_38 : decode cX2_seek 38 = .ok (.aload_n 1, 1) := by decide +kernel
theorem dX2_seek_39 : decode cX2_seek 39 = .ok (.iconst 0, 1) := by decide +kernel
theorem dX2_seek_40 : decode cX2_seek 40 = .ok (.iaload, 1) := by decide +kernel
theorem dX2_seek_41 : decode cX2_seek 41 = .ok (.iload 4, 2) := by decide +kernel
theorem dX2_seek_43 : decode cX2_seek 43 = .ok (.invokestatic 32, 3) := by decide +kernel
theorem dX2_seek_46 : decode cX2_seek 46 = .ok (.imul, 1) := by decide +kernel
theorem dX2_seek_47 : decode cX2_seek 47 = .ok (.isub, 1) := by decide +kernel
theorem dX2_seek_48 : decode cX2_seek 48 = .ok (.istore 5, 2) := by decide +kernel
theorem dX2_seek_50 : decode cX2_seek 50 = .ok (.bipush 65, 2) := by decide +kernel
theorem dX2_seek_52 : decode cX2_seek 52 = .ok (.iload_n 3, 1) := by decide +kernel
theorem dX2_seek_53 : decode cX2_seek 53 = .ok (.imul, 1) := by decide +kernel
theorem dX2_seek_54 : decode cX2_seek 54 = .ok (.aload_n 1, 1) := by decide +kernel
theorem dX2_seek_55 : decode cX2_seek 55 = .ok (.iconst 0, 1) := by decide +kernel
theorem dX2_seek_56 : decode cX2_seek 56 = .ok (.iaload, 1) := by decide +kernel
theorem dX2_seek_57 : decode cX2_seek 57 = .ok (.iload 4, 2) := by decide +kernel
theorem dX2_seek_59 : decode cX2_seek 59 = .ok (.invokestatic 35, 3) := by decide +kernel
theorem dX2_seek_62 : decode cX2_seek 62 = .ok (.imul, 1) := by decide +kernel
theorem dX2_seek_63 : decode cX2_seek 63 = .ok (.isub, 1) := by decide +kernel
theorem dX2_seek_64 : decode cX2_seek 64 = .ok (.istore 6, 2) := by decide +kernel
theorem dX2_seek_66 : decode cX2_seek 66 = .ok (.aload_n 0, 1) := by decide +kernel
theorem dX2_seek_67 : decode cX2_seek 67 = .ok (.iload 4, 2) := by decide +kernel
theorem dX2_seek_69 : decode cX2_seek 69 = .ok (.aload_n 1, 1) := by decide +kernel
theorem dX2_seek_70 : decode cX2_seek 70 = .ok (.iconst 1, 1) := by decide +kernel
theorem dX2_seek_71 : decode cX2_seek 71 = .ok (.iaload, 1) := by decide +kernel
theorem dX2_seek_72 : decode cX2_seek 72 = .ok (.iload 5, 2) := by decide +kernel
theorem dX2_seek_74 : decode cX2_seek 74 = .ok (.iload 6, 2) := by decide +kernel
theorem dX2_seek_76 : decode cX2_seek 76 = .ok (.invokevirtual 38, 3) := by decide +kernel
theorem dX2_seek_79 : decode cX2_seek 79 = .ok (.iinc 4 1, 3) := by decide +kernel
theorem dX2_seek_82 : decode cX2_seek 82 = .ok (.goto (-65), 3) := by decide +kernel
theorem dX2_seek_85 : decode cX2_seek 85 = .ok (.return_, 1) := by decide +kernel
theorem dX2_seekSecond_0 : decode cX2_seekSecond 0 = .ok (.iconst 0, 1) := by decide +kernel
theorem dX2_seekSecond_1 : decode cX2_seekSecond 1 = .ok (.istore 5, 2) := by decide +kernel
theorem dX2_seekSecond_3 : decode cX2_seekSecond 3 = .ok (.iload 5, 2) := by decide +kernel
theorem dX2_seekSecond_5 : decode cX2_seekSecond 5 = .ok (.bipush 36, 2) := by decide +kernel
theorem dX2_seekSecond_7 : decode cX2_seekSecond 7 = .ok (.if_icmp .ge 90, 3) := by decide +kernel
theorem dX2_seekSecond_10 : decode cX2_seekSecond 10 = .ok (.aload_n 0, 1) := by decide +kernel
theorem dX2_seekSecond_11 : decode cX2_seekSecond 11 = .ok (.getfield 9, 3) := by decide +kernel
theorem dX2_seekSecond_14 : decode cX2_seekSecond 14 = .ok (.bipush 36, 2) := by decide +kernel
theorem dX2_seekSecond_16 : decode cX2_seekSecond 16 = .ok (.iload 5, 2) := by decide +kernel
theorem dX2_seekSecond_18 : decode cX2_seekSecond 18 = .ok (.iadd, 1) := by decide +kernel
theorem dX2_seekSecond_19 : decode cX2_seekSecond 19 = .ok (.baload, 1) := by decide +kernel
theorem dX2_seekSecond_20 : decode cX2_seekSecond 20 = .ok (.ifCond .eq 71, 3) := by decide +kernel
theorem dX2_seekSecond_23 : decode cX2_seekSecond 23 = .ok (.iload_n 1, 1) := by decide +kernel
theorem dX2_seekSecond_24 : decode cX2_seekSecond 24 = .ok (.iload 5, 2) := by decide +kernel
theorem dX2_seekSecond_26 : decode cX2_seekSecond 26 = .ok (.iadd, 1) := by decide +kernel
theorem dX2_seekSecond_27 : decode cX2_seekSecond 27 = .ok (.invokestatic 26, 3) := by decide +kernel
theorem dX2_seekSecond_30 : decode cX2_seekSecond 30 = .ok (.istore 6, 2) := by decide +kernel
theorem dX2_seekSecond_32 : decode cX2_seekSecond 32 = .ok (.iload_n 3, 1) := by decide +kernel
theorem dX2_seekSecond_33 : decode cX2_seekSecond 33 = .ok (.iload_n 2, 1) := by decide +kernel
theorem dX2_seekSecond_34 : decode cX2_seekSecond 34 = .ok (.iload 6, 2) := by decide +kernel
theorem dX2_seekSecond_36 : decode cX2_seekSecond 36 = .ok (.invokestatic 32, 3) := by decide +kernel
theorem dX2_seekSecond_39 : decode cX2_seekSecond 39 = .ok (.imul, 1) := by decide +kernel
theorem dX2_seekSecond_40 : decode cX2_seekSecond 40 = .ok (.isub, 1) := by decide +kernel
theorem dX2_seekSecond_41 : decode cX2_seekSecond 41 = .ok (.istore 7, 2) := by decide +kernel
theorem dX2_seekSecond_43 : decode cX2_seekSecond 43 = .ok (.iload 4, 2) := by decide +kernel
theorem dX2_seekSecond_45 : decode cX2_seekSecond 45 = .ok (.iload_n 2, 1) := by decide +kernel
theorem dX2_seekSecond_46 : decode cX2_seekSecond 46 = .ok (.iload 6, 2) := by decide +kernel
theorem dX2_seekSecond_48 : decode cX2_seekSecond 48 = .ok (.invokestatic 35, 3) := by decide +kernel
theorem dX2_seekSecond_51 : decode cX2_seekSecond 51 = .ok (.imul, 1) := by decide +kernel
theorem dX2_seekSecond_52 : decode cX2_seekSecond 52 = .ok (.isub, 1) := by decide +kernel
theorem dX2_seekSecond_53 : decode cX2_seekSecond 53 = .ok (.istore 8, 2) := by decide +kernel
theorem dX2_seekSecond_55 : decode cX2_seekSecond 55 = .ok (.aload_n 0, 1) := by decide +kernel
theorem dX2_seekSecond_56 : decode cX2_seekSecond 56 = .ok (.iload 7, 2) := by decide +kernel
theorem dX2_seekSecond_58 : decode cX2_seekSecond 58 = .ok (.iload 8, 2) := by decide +kernel
theorem dX2_seekSecond_60 : decode cX2_seekSecond 60 = .ok (.invokevirtual 42, 3) := by decide +kernel
theorem dX2_seekSecond_63 : decode cX2_seekSecond 63 = .ok (.aload_n 0, 1) := by decide +kernel
theorem dX2_seekSecond_64 : decode cX2_seekSecond 64 = .ok (.getfield 22, 3) := by decide +kernel
theorem dX2_seekSecond_67 : decode cX2_seekSecond 67 = .ok (.lcmp, 1) := by decide +kernel
theorem dX2_seekSecond_68 : decode cX2_seekSecond 68 = .ok (.ifCond .ge 23, 3) := by decide +kernel
theorem dX2_seekSecond_71 : decode cX2_seekSecond 71 = .ok (.aload_n 0, 1) := by decide +kernel
theorem dX2_seekSecond_72 : decode cX2_seekSecond 72 = .ok (.bipush 100, 2) := by decide +kernel
theorem dX2_seekSecond_74 : decode cX2_seekSecond 74 = .ok (.bipush 100, 2) := by decide +kernel
theorem dX2_seekSecond_76 : decode cX2_seekSecond 76 = .ok (.iload_n 1, 1) := by decide +kernel
theorem dX2_seekSecond_77 : decode cX2_seekSecond 77 = .ok (.imul, 1) := by decide +kernel
theorem dX2_seekSecond_78 : decode cX2_seekSecond 78 = .ok (.iload 5, 2) := by decide +kernel
theorem dX2_seekSecond_80 : decode cX2_seekSecond 80 = .ok (.iadd, 1) := by decide +kernel
theorem dX2_seekSecond_81 : decode cX2_seekSecond 81 = .ok (.imul, 1) := by decide +kernel
theorem dX2_seekSecond_82 : decode cX2_seekSecond 82 = .ok (.iload 6, 2) := by decide +kernel
theorem dX2_seekSecond_84 : decode cX2_seekSecond 84 = .ok (.iload 7, 2) := by decide +kernel
theorem dX2_seekSecond_86 : decode cX2_seekSecond 86 = .ok (.iload 8, 2) := by decide +kernel
theorem dX2_seekSecond_88 : decode cX2_seekSecond 88 = .ok (.invokevirtual 46, 3) := by decide +kernel
theorem dX2_seekSecond_91 : decode cX2_seekSecond 91 = .ok (.iinc 5 1, 3) := by decide +kernel
theorem dX2_seekSecond_94 : decode cX2_seekSecond 94 = .ok (.goto (-91), 3) := by decide +kernel
theorem dX2_seekSecond_97 : decode cX2_seekSecond 97 = .ok (.return_, 1) := by decide +kernel
theorem dX2_seekThird_0 : decode cX2_seekThird 0 = .ok (.iconst 0, 1) := by decide +kernel
theorem dX2_seekThird_1 : decode cX2_seekThird 1 = .ok (.istore 5, 2) := by decide +kernel
theorem dX2_seekThird_3 : decode cX2_seekThird 3 = .ok (.iload 5, 2) := by decide +kernel
theorem dX2_seekThird_5 : decode cX2_seekThird 5 = .ok (.bipush 36, 2) := by decide +kernel
theorem dX2_seekThird_7 : decode cX2_seekThird 7 = .ok (.if_icmp .ge 99, 3) := by decide +kernel
theorem dX2_seekThird_10 : decode cX2_seekThird 10 = .ok (.aload_n 0, 1) := by decide +kernel
theorem dX2_seekThird_11 : decode cX2_seekThird 11 = .ok (.getfield 9, 3) := by decide +kernel
theorem dX2_seekThird_14 : decode cX2_seekThird 14 = .ok (.bipush 72, 2) := by decide +kernel
theorem dX2_seekThird_16 : decode cX2_seekThird 16 = .ok (.iload 5, 2) := by decide +kernel
theorem dX2_seekThird_18 : decode cX2_seekThird 18 = .ok (.iadd, 1) := by decide +kernel
theorem dX2_seekThird_19 : decode cX2_seekThird 19 = .ok (.baload, 1) := by decide +kernel
theorem dX2_seekThird_20 : decode cX2_seekThird 20 = .ok (.ifCond .eq 80, 3) := by decide +kernel
theorem dX2_seekThird_23 : decode cX2_seekThird 23 = .ok (.iload_n 2, 1) := by decide +kernel
theorem dX2_seekThird_24 : decode cX2_seekThird 24 = .ok (.iload 5, 2) := by decide +kernel
theorem dX2_seekThird_26 : decode cX2_seekThird 26 = .ok (.iadd, 1) := by decide +kernel
theorem dX2_seekThird_27 : decode cX2_seekThird 27 = .ok (.invokestatic 26, 3) := by decide +kernel
theorem dX2_seekThird_30 : decode cX2_seekThird 30 = .ok (.istore 6, 2) := by decide +kernel
theorem dX2_seekThird_32 : decode cX2_seekThird 32 = .ok (.iload_n 3, 1) := by decide +kernel
theorem dX2_seekThird_33 : decode cX2_seekThird 33 = .ok (.aload_n 0, 1) := by decide +kernel
theorem dX2_seekThird_34 : decode cX2_seekThird 34 = .ok (.getfield 15, 3) := by decide +kernel
theorem dX2_seekThird_37 : decode cX2_seekThird 37 = .ok (.iload 6, 2) := by decide +kernel
theorem dX2_seekThird_39 : decode cX2_seekThird 39 = .ok (.invokestatic 32, 3) := by decide +kernel
theorem dX2_seekThird_42 : decode cX2_seekThird 42 = .ok (.imul, 1) := by decide +kernel
theorem dX2_seekThird_43 : decode cX2_seekThird 43 = .ok (.isub, 1) := by decide +kernel
theorem dX2_seekThird_44 : decode cX2_seekThird 44 = .ok (.i2l, 1) := by decide +kernel
theorem dX2_seekThird_45 : decode cX2_seekThird 45 = .ok (.lstore 7, 2) := by decide +kernel
theorem dX2_seekThird_47 : decode cX2_seekThird 47 = .ok (.iload 4, 2) := by decide +kernel
theorem dX2_seekThird_49 : decode cX2_seekThird 49 = .ok (.aload_n 0, 1) := by decide +kernel
theorem dX2_seekThird_50 : decode cX2_seekThird 50 = .ok (.getfield 15, 3) := by decide +kernel
theorem dX2_seekThird_53 : decode cX2_seekThird 53 = .ok (.iload 6, 2) := by decide +kernel
theorem dX2_seekThird_55 : decode cX2_seekThird 55 = .ok (.invokestatic 35, 3) := by decide +kernel
theorem dX2_seekThird_58 : decode cX2_seekThird 58 = .ok (.imul, 1) := by decide +kernel
theorem dX2_seekThird_59 : decode cX2_seekThird 59 = .ok (.isub, 1) := by decide +kernel
theorem dX2_seekThird_60 : decode cX2_seekThird 60 = .ok (.i2l, 1) := by decide +kernel
theorem dX2_seekThird_61 : decode cX2_seekThird 61 = .ok (.lstore 9, 2) := by decide +kernel
theorem dX2_seekThird_63 : decode cX2_seekThird 63 = .ok (.lload 7, 2) := by decide +kernel
theorem dX2_seekThird_65 : decode cX2_seekThird 65 = .ok (.lload 7, 2) := by decide +kernel
theorem dX2_seekThird_67 : decode cX2_seekThird 67 = .ok (.lmul, 1) := by decide +kernel
theorem dX2_seekThird_68 : decode cX2_seekThird 68 = .ok (.lload 9, 2) := by decide +kernel
theorem dX2_seekThird_70 : decode cX2_seekThird 70 = .ok (.lload 9, 2) := by decide +kernel
theorem dX2_seekThird_72 : decode cX2_seekThird 72 = .ok (.lmul, 1) := by decide +kernel
theorem dX2_seekThird_73 : decode cX2_seekThird 73 = .ok (.ladd, 1) := by decide +kernel
theorem dX2_seekThird_74 : decode cX2_seekThird 74 = .ok (.lstore 11, 2) := by decide +kernel
theorem dX2_seekThird_76 : decode cX2_seekThird 76 = .ok (.lload 11, 2) := by decide +kernel
theorem dX2_seekThird_78 : decode cX2_seekThird 78 = .ok (.aload_n 0, 1) := by decide +kernel
theorem dX2_seekThird_79 : decode cX2_seekThird 79 = .ok (.getfield 22, 3) := by decide +kernel
theorem dX2_seekThird_82 : decode cX2_seekThird 82 = .ok (.lcmp, 1) := by decide +kernel
theorem dX2_seekThird_83 : decode cX2_seekThird 83 = .ok (.ifCond .ge 17, 3) := by decide +kernel
theorem dX2_seekThird_86 : decode cX2_seekThird 86 = .ok (.aload_n 0, 1) := by decide +kernel
theorem dX2_seekThird_87 : decode cX2_seekThird 87 = .ok (.lload 11, 2) := by decide +kernel
theorem dX2_seekThird_89 : decode cX2_seekThird 89 = .ok (.putfield 22, 3) := by decide +kernel
theorem dX2_seekThird_92 : decode cX2_seekThird 92 = .ok (.aload_n 0, 1) := by decide +kernel
theorem dX2_seekThird_93 : decode cX2_seekThird 93 = .ok (.iload_n 1, 1) := by decide +kernel
theorem dX2_seekThird_94 : decode cX2_seekThird 94 = .ok (.iload 5, 2) := by decide +kernel
theorem dX2_seekThird_96 : decode cX2_seekThird 96 = .ok (.iadd, 1) := by decide +kernel
theorem dX2_seekThird_97 : decode cX2_seekThird 97 = .ok (.putfield 19, 3) := by decide +kernel
theorem dX2_seekThird_100 : decode cX2_seekThird 100 = .ok (.iinc 5 1, 3) := by decide +kernel
theorem dX2_seekThird_103 : decode cX2_seekThird 103 = .ok (.goto (-100), 3) := by decide +kernel
theorem dX2_seekThird_106 : decode cX2_seekThird 106 = .ok (.return_, 1) := by decide +kernel
theorem dX2_atLeastLeft_0 : decode cX2_atLeastLeft 0 = .ok (.iload_n 1, 1) := by decide +kernel
theorem dX2_atLeastLeft_1 : decode cX2_atLeastLeft 1 = .ok (.invokestatic 49, 3) := by decide +kernel
theorem dX2_atLeastLeft_4 : decode cX2_atLeastLeft 4 = .ok (.iload_n 2, 1) := by decide +kernel
theorem dX2_atLeastLeft_5 : decode cX2_atLeastLeft 5 = .ok (.invokestatic 49, 3) := by decide +kernel
theorem dX2_atLeastLeft_8 : decode cX2_atLeastLeft 8 = .ok (.invokestatic 54, 3) := by decide +kernel
theorem dX2_atLeastLeft_11 : decode cX2_atLeastLeft 11 = .ok (.i2l, 1) := by decide +kernel
theorem dX2_atLeastLeft_12 : decode cX2_atLeastLeft 12 = .ok (.lstore_n 3, 1) := by decide +kernel
theorem dX2_atLeastLeft_13 : decode cX2_atLeastLeft 13 = .ok (.iload_n 1, 1) := by decide +kernel
theorem dX2_atLeastLeft_14 : decode cX2_atLeastLeft 14 = .ok (.invokestatic 49, 3) := by decide +kernel
theorem dX2_atLeastLeft_17 : decode cX2_atLeastLeft 17 = .ok (.iload_n 2, 1) := by decide +kernel
theorem dX2_atLeastLeft_18 : decode cX2_atLeastLeft 18 = .ok (.invokestatic 49, 3) := by decide +kernel
theorem dX2_atLeastLeft_21 : decode cX2_atLeastLeft 21 = .ok (.invokestatic 58, 3) := by decide +kernel
theorem dX2_atLeastLeft_24 : decode cX2_atLeastLeft 24 = .ok (.i2l, 1) := by decide +kernel
theorem dX2_atLeastLeft_25 : decode cX2_atLeastLeft 25 = .ok (.lstore 5, 2) := by decide +kernel
theorem dX2_atLeastLeft_27 : decode cX2_atLeastLeft 27 = .ok (.ldc2_w 61, 3) := by decide +kernel
theorem dX2_atLeastLeft_30 : decode cX2_atLeastLeft 30 = .ok (.aload_n 0, 1) := by decide +kernel
theorem dX2_atLeastLeft_31 : decode cX2_atLeastLeft 31 = .ok (.getfield 15, 3) := by decide +kernel
theorem dX2_atLeastLeft_34 : decode cX2_atLeastLeft 34 = .ok (.i2l, 1) := by decide +kernel
theorem dX2_atLeastLeft_35 : decode cX2_atLeastLeft 35 = .ok (.lmul, 1) := by decide +kernel
theorem dX2_atLeastLeft_36 : decode cX2_atLeastLeft 36 = .ok (.lstore 7, 2) := by decide +kernel
theorem dX2_atLeastLeft_38 : decode cX2_atLeastLeft 38 = .ok (.lload_n 3, 1) := by decide +kernel
theorem dX2_atLeastLeft_39 : decode cX2_atLeastLeft 39 = .ok (.lload_n 3, 1) := by decide +kernel
theorem dX2_atLeastLeft_40 : decode cX2_atLeastLeft 40 = .ok (.lmul, 1) := by decide +kernel
theorem dX2_atLeastLeft_41 : decode cX2_atLeastLeft 41 = .ok (.lload 5, 2) := by decide +kernel
theorem dX2_atLeastLeft_43 : decode cX2_atLeastLeft 43 = .ok (.lload 5, 2) := by decide +kernel
theorem dX2_atLeastLeft_45 : decode cX2_atLeastLeft 45 = .ok (.lmul, 1) := by decide +kernel
theorem dX2_atLeastLeft_46 : decode cX2_atLeastLeft 46 = .ok (.ladd, 1) := by decide +kernel
theorem dX2_atLeastLeft_47 : decode cX2_atLeastLeft 47 = .ok (.lload 7, 2) := by decide +kernel
theorem dX2_atLeastLeft_49 : decode cX2_atLeastLeft 49 = .ok (.lload 7, 2) := by decide +kernel
theorem dX2_atLeastLeft_51 : decode cX2_atLeastLeft 51 = .ok (.lmul, 1) := by decide +kernel
theorem dX2_atLeastLeft_52 : decode cX2_atLeastLeft 52 = .ok (.ladd, 1) := by decide +kernel
theorem dX2_atLeastLeft_53 : decode cX2_atLeastLeft 53 = .ok (.lload 7, 2) := by decide +kernel
theorem dX2_atLeastLeft_55 : decode cX2_atLeastLeft 55 = .ok (.ldc2_w 63, 3) := by decide +kernel
theorem dX2_atLeastLeft_58 : decode cX2_atLeastLeft 58 = .ok (.lload_n 3, 1) := by decide +kernel
theorem dX2_atLeastLeft_59 : decode cX2_atLeastLeft 59 = .ok (.lmul, 1) := by decide +kernel
theorem dX2_atLeastLeft_60 : decode cX2_atLeastLeft 60 = .ok (.lload 5, 2) := by decide +kernel
theorem dX2_atLeastLeft_62 : decode cX2_atLeastLeft 62 = .ok (.ladd, 1) := by decide +kernel
theorem dX2_atLeastLeft_63 : decode cX2_atLeastLeft 63 = .ok (.lmul, 1) := by decide +kernel
theorem dX2_atLeastLeft_64 : decode cX2_atLeastLeft 64 = .ok (.lsub, 1) := by decide +kernel
theorem dX2_atLeastLeft_65 : decode cX2_atLeastLeft 65 = .ok (.lreturn, 1) := by decide +kernel
theorem dX3_cOf_0 : decode cX3_cOf 0 = .ok (.getstatic 7, 3) := by decide +kernel
theorem dX3_cOf_3 : decode cX3_cOf 3 = .ok (.iload_n 0, 1) := by decide +kernel
theorem dX3_cOf_4 : decode cX3_cOf 4 = .ok (.iaload, 1) := by decide +kernel
theorem dX3_cOf_5 : decode cX3_cOf 5 = .ok (.ireturn, 1) := by decide +kernel
theorem dX3_sOf_0 : decode cX3_sOf 0 = .ok (.getstatic 7, 3) := by decide +kernel
theorem dX3_sOf_3 : decode cX3_sOf 3 = .ok (.iload_n 0, 1) := by decide +kernel
theorem dX3_sOf_4 : decode cX3_sOf 4 = .ok (.bipush 9, 2) := by decide +kernel
theorem dX3_sOf_6 : decode cX3_sOf 6 = .ok (.if_icmp .ge 10, 3) := by decide +kernel
theorem dX3_sOf_9 : decode cX3_sOf 9 = .ok (.iload_n 0, 1) := by decide +kernel
theorem dX3_sOf_10 : decode cX3_sOf 10 = .ok (.bipush 27, 2) := by decide +kernel
theorem dX3_sOf_12 : decode cX3_sOf 12 = .ok (.iadd, 1) := by decide +kernel
theorem dX3_sOf_13 : decode cX3_sOf 13 = .ok (.goto 7, 3) := by decide +kernel
theorem dX3_sOf_16 : decode cX3_sOf 16 = .ok (.iload_n 0, 1) := by decide +kernel
theorem dX3_sOf_17 : decode cX3_sOf 17 = .ok (.bipush 9, 2) := by decide +kernel
theorem dX3_sOf_19 : decode cX3_sOf 19 = .ok (.isub, 1) := by decide +kernel
theorem dX3_sOf_20 : decode cX3_sOf 20 = .ok (.iaload, 1) := by decide +kernel
theorem dX3_sOf_21 : decode cX3_sOf 21 = .ok (.ireturn, 1) := by decide +kernel
theorem dX3_part_0 : decode cX3_part 0 = .ok (.iload_n 1, 1) := by decide +kernel
theorem dX3_part_1 : decode cX3_part 1 = .ok (.ifCond .ne 10, 3) := by decide +kernel
theorem dX3_part_4 : decode cX3_part 4 = .ok (.iload_n 0, 1) := by decide +kernel
theorem dX3_part_5 : decode cX3_part 5 = .ok (.invokestatic 13, 3) := by decide +kernel
theorem dX3_part_8 : decode cX3_part 8 = .ok (.goto 7, 3) := by decide +kernel
theorem dX3_part_11 : decode cX3_part 11 = .ok (.iload_n 0, 1) := by decide +kernel
theorem dX3_part_12 : decode cX3_part 12 = .ok (.invokestatic 17, 3) := by decide +kernel
theorem dX3_part_15 : decode cX3_part 15 = .ok (.ireturn, 1) := by decide +kernel
theorem dX3_round_0 : decode cX3_round 0 = .ok (.iload_n 0, 1) := by decide +kernel
theorem dX3_round_1 : decode cX3_round 1 = .ok (.bipush 36, 2) := by decide +kernel
theorem dX3_round_3 : decode cX3_round 3 = .ok (.irem, 1) := by decide +kernel
theorem dX3_round_4 : decode cX3_round 4 = .ok (.ireturn, 1) := by decide +kernel
theorem dX4_init_0 : decode cX4_init 0 = .ok (.aload_n 0, 1) := by decide +kernel
theorem dX4_init_1 : decode cX4_init 1 = .ok (.invokespecial 1, 3) := by decide +kernel
theorem dX4_init_4 : decode cX4_init 4 = .ok (.aload_n 0, 1) := by decide +kernel
theorem dX4_init_5 : decode cX4_init 5 = .ok (.bipush 100, 2) := by decide +kernel
theorem dX4_init_7 : decode cX4_init 7 = .ok (.newarray .int, 2) := by decide +kernel
theorem dX4_init_9 : decode cX4_init 9 = .ok (.putfield 9, 3) := by decide +kernel
theorem dX4_init_12 : decode cX4_init 12 = .ok (.aload_n 0, 1) := by decide +kernel
theorem dX4_init_13 : decode cX4_init 13 = .ok (.iconst (-1), 1) := by decide +kernel
theorem dX4_init_14 : decode cX4_init 14 = .ok (.putfield 13, 3) := by decide +kernel
theorem dX4_init_17 : decode cX4_init 17 = .ok (.aload_n 0, 1) := by decide +kernel
theorem dX4_init_18 : decode cX4_init 18 = .ok (.iconst 0, 1) := by decide +kernel
theorem dX4_init_19 : decode cX4_init 19 = .ok (.putfield 17, 3) := by decide +kernel
theorem dX4_init_22 : decode cX4_init 22 = .ok (.return_, 1) := by decide +kernel
theorem dX4_isForm_0 : decode cX4_isForm 0 = .ok (.iload_n 0, 1) := by decide +kernel
theorem dX4_isForm_1 : decode cX4_isForm 1 = .ok (.ifCond .lt 12, 3) := by decide +kernel
theorem dX4_isForm_4 : decode cX4_isForm 4 = .ok (.iload_n 0, 1) := by decide +kernel
theorem dX4_isForm_5 : decode cX4_isForm 5 = .ok (.iconst 2, 1) := by decide +kernel
theorem dX4_isForm_6 : decode cX4_isForm 6 = .ok (.if_icmp .gt 7, 3) := by decide +kernel
theorem dX4_isForm_9 : decode cX4_isForm 9 = .ok (.iconst 1, 1) := by decide +kernel
theorem dX4_isForm_10 : decode cX4_isForm 10 = .ok (.goto 4, 3) := by decide +kernel
theorem dX4_isForm_13 : decode cX4_isForm 13 = .ok (.iconst 0, 1) := by decide +kernel
theorem dX4_isForm_14 : decode cX4_isForm 14 = .ok (.ireturn, 1) := by decide +kernel
theorem dX4_lowestBits_0 : decode cX4_lowestBits 0 = .ok (.iload_n 0, 1) := by decide +kernel
theorem dX4_lowestBits_1 : decode cX4_lowestBits 1 = .ok (.ifCond .ne 6, 3) := by decide +kernel
theorem dX4_lowestBits_4 : decode cX4_lowestBits 4 = .ok (.iload_n 1, 1) := by decide +kernel
theorem dX4_lowestBits_5 : decode cX4_lowestBits 5 = .ok (.i2b, 1) := by decide +kernel
theorem dX4_lowestBits_6 : decode cX4_lowestBits 6 = .ok (.ireturn, 1) := by decide +kernel
theorem dX4_lowestBits_7 : decode cX4_lowestBits 7 = .ok (.iload_n 0, 1) := by decide +kernel
theorem dX4_lowestBits_8 : decode cX4_lowestBits 8 = .ok (.iconst 1, 1) := by decide +kernel
theorem dX4_lowestBits_9 : decode cX4_lowestBits 9 = .ok (.if_icmp .ne 8, 3) := by decide +kernel
theorem dX4_lowestBits_12 : decode cX4_lowestBits 12 = .ok (.iload_n 1, 1) := by decide +kernel
theorem dX4_lowestBits_13 : decode cX4_lowestBits 13 = .ok (.i2s, 1) := by decide +kernel
theorem dX4_lowestBits_14 : decode cX4_lowestBits 14 = .ok (.goto 4, 3) := by decide +kernel
theorem dX4_lowestBits_17 : decode cX4_lowestBits 17 = .ok (.iload_n 1, 1) := by decide +kernel
theorem dX4_lowestBits_18 : decode cX4_lowestBits 18 = .ok (.ireturn, 1) := by decide +kernel
theorem dX4_isLost_0 : decode cX4_isLost 0 = .ok (.aload_n 0, 1) := by decide +kernel
theorem dX4_isLost_1 : decode cX4_isLost 1 = .ok (.getfield 13, 3) := by decide +kernel
theorem dX4_isLost_4 : decode cX4_isLost 4 = .ok (.iconst (-1), 1) := by decide +kernel
theorem dX4_isLost_5 : decode cX4_isLost 5 = .ok (.if_icmp .ne 7, 3) := by decide +kernel
theorem dX4_isLost_8 : decode cX4_isLost 8 = .ok (.iconst 1, 1) := by decide +kernel
theorem dX4_isLost_9 : decode cX4_isLost 9 = .ok (.goto 4, 3) := by decide +kernel
theorem dX4_isLost_12 : decode cX4_isLost 12 = .ok (.iconst 0, 1) := by decide +kernel
theorem dX4_isLost_13 : decode cX4_isLost 13 = .ok (.ireturn, 1) := by decide +kernel
theorem dX4_begin_0 : decode cX4_begin 0 = .ok (.aload_n 0, 1) := by decide +kernel
theorem dX4_begin_1 : decode cX4_begin 1 = .ok (.iload_n 1, 1) := by decide +kernel
theorem dX4_begin_2 : decode cX4_begin 2 = .ok (.putfield 13, 3) := by decide +kernel
theorem dX4_begin_5 : decode cX4_begin 5 = .ok (.aload_n 0, 1) := by decide +kernel
theorem dX4_begin_6 : decode cX4_begin 6 = .ok (.iload_n 2, 1) := by decide +kernel
theorem dX4_begin_7 : decode cX4_begin 7 = .ok (.putfield 17, 3) := by decide +kernel
theorem dX4_begin_10 : decode cX4_begin 10 = .ok (.aload_n 0, 1) := by decide +kernel
theorem dX4_begin_11 : decode cX4_begin 11 = .ok (.getfield 9, 3) := by decide +kernel
theorem dX4_begin_14 : decode cX4_begin 14 = .ok (.iconst 0, 1) := by decide +kernel
theorem dX4_begin_15 : decode cX4_begin 15 = .ok (.invokestatic 20, 3) := by decide +kernel
theorem dX4_begin_18 : decode cX4_begin 18 = .ok (.return_, 1) := by decide +kernel
theorem dX4_end_0 : decode cX4_end 0 = .ok (.aload_n 0, 1) := by decide +kernel
theorem dX4_end_1 : decode cX4_end 1 = .ok (.getfield 17, 3) := by decide +kernel
theorem dX4_end_4 : decode cX4_end 4 = .ok (.istore_n 1, 1) := by decide +kernel
theorem dX4_end_5 : decode cX4_end 5 = .ok (.aload_n 0, 1) := by decide +kernel
theorem dX4_end_6 : decode cX4_end 6 = .ok (.iconst (-1), 1) := by decide +kernel
theorem dX4_end_7 : decode cX4_end 7 = .ok (.putfield 13, 3) := by decide +kernel
theorem dX4_end_10 : decode cX4_end 10 = .ok (.aload_n 0, 1) := by decide +kernel
theorem dX4_end_11 : decode cX4_end 11 = .ok (.iconst 0, 1) := by decide +kernel
theorem dX4_end_12 : decode cX4_end 12 = .ok (.putfield 17, 3) := by decide +kernel
theorem dX4_end_15 : decode cX4_end 15 = .ok (.iload_n 1, 1) := by decide +kernel
theorem dX4_end_16 : decode cX4_end 16 = .ok (.ireturn, 1) := by decide +kernel
theorem dX4_has_0 : decode cX4_has 0 = .ok (.iload_n 1, 1) := by decide +kernel
theorem dX4_has_1 : decode cX4_has 1 = .ok (.ifCond .lt 15, 3) := by decide +kernel
theorem dX4_has_4 : decode cX4_has 4 = .ok (.iload_n 1, 1) := by decide +kernel
theorem dX4_has_5 : decode cX4_has 5 = .ok (.aload_n 0, 1) := by decide +kernel
theorem dX4_has_6 : decode cX4_has 6 = .ok (.getfield 17, 3) := by decide +kernel
theorem dX4_has_9 : decode cX4_has 9 = .ok (.if_icmp .ge 7, 3) := by decide +kernel
theorem dX4_has_12 : decode cX4_has 12 = .ok (.iconst 1, 1) := by decide +kernel
theorem dX4_has_13 : decode cX4_has 13 = .ok (.goto 4, 3) := by decide +kernel
theorem dX4_has_16 : decode cX4_has 16 = .ok (.iconst 0, 1) := by decide +kernel
theorem dX4_has_17 : decode cX4_has 17 = .ok (.ireturn, 1) := by decide +kernel
theorem dX4_hasRun_0 : decode cX4_hasRun 0 = .ok (.iload_n 1, 1) := by decide +kernel
theorem dX4_hasRun_1 : decode cX4_hasRun 1 = .ok (.ifCond .lt 21, 3) := by decide +kernel
theorem dX4_hasRun_4 : decode cX4_hasRun 4 = .ok (.iload_n 2, 1) := by decide +kernel
theorem dX4_hasRun_5 : decode cX4_hasRun 5 = .ok (.ifCond .lt 17, 3) := by decide +kernel
theorem dX4_hasRun_8 : decode cX4_hasRun 8 = .ok (.iload_n 2, 1) := by decide +kernel
theorem dX4_hasRun_9 : decode cX4_hasRun 9 = .ok (.aload_n 0, 1) := by decide +kernel
theorem dX4_hasRun_10 : decode cX4_hasRun 10 = .ok (.getfield 17, 3) := by decide +kernel
theorem dX4_hasRun_13 : decode cX4_hasRun 13 = .ok (.iload_n 1, 1) := by decide +kernel
theorem dX4_hasRun_14 : decode cX4_hasRun 14 = .ok (.isub, 1) := by decide +kernel
theorem dX4_hasRun_15 : decode cX4_hasRun 15 = .ok (.if_icmp .gt 7, 3) := by decide +kernel
theorem dX4_hasRun_18 : decode cX4_hasRun 18 = .ok (.iconst 1, 1) := by decide +kernel
theorem dX4_hasRun_19 : decode cX4_hasRun 19 = .ok (.goto 4, 3) := by decide +kernel
theorem dX4_hasRun_22 : decode cX4_hasRun 22 = .ok (.iconst 0, 1) := by decide +kernel
theorem dX4_hasRun_23 : decode cX4_hasRun 23 = .ok (.ireturn, 1) := by decide +kernel
theorem dX4_hasMeasureAt_0 : decode cX4_hasMeasureAt 0 = .ok (.aload_n 0, 1) := by decide +kernel
theorem dX4_hasMeasureAt_1 : decode cX4_hasMeasureAt 1 = .ok (.iload_n 1, 1) := by decide +kernel
theorem dX4_hasMeasureAt_2 : decode cX4_hasMeasureAt 2 = .ok (.invokevirtual 26, 3) := by decide +kernel
theorem dX4_hasMeasureAt_5 : decode cX4_hasMeasureAt 5 = .ok (.ifCond .eq 31, 3) := by decide +kernel
theorem dX4_hasMeasureAt_8 : decode cX4_hasMeasureAt 8 = .ok (.aload_n 0, 1) := by decide +kernel
theorem dX4_hasMeasureAt_9 : decode cX4_hasMeasureAt 9 = .ok (.getfield 9, 3) := by decide +kernel
theorem dX4_hasMeasureAt_12 : decode cX4_hasMeasureAt 12 = .ok (.iload_n 1, 1) := by decide +kernel
theorem dX4_hasMeasureAt_13 : decode cX4_hasMeasureAt 13 = .ok (.iaload, 1) := by decide +kernel
theorem dX4_hasMeasureAt_14 : decode cX4_hasMeasureAt 14 = .ok (.sipush (-9999), 3) := by decide +kernel
theorem dX4_hasMeasureAt_17 : decode cX4_hasMeasureAt 17 = .ok (.if_icmp .lt 19, 3) := by decide +kernel
theorem dX4_hasMeasureAt_20 : decode cX4_hasMeasureAt 20 = .ok (.aload_n 0, 1) := by decide +kernel
theorem dX4_hasMeasureAt_21 : decode cX4_hasMeasureAt 21 = .ok (.getfield 9, 3) := by decide +kernel
theorem dX4_hasMeasureAt_24 : decode cX4_hasMeasureAt 24 = .ok (.iload_n 1, 1) := by decide +kernel
theorem dX4_hasMeasureAt_25 : decode cX4_hasMeasureAt 25 = .ok (.iaload, 1) := by decide +kernel
theorem dX4_hasMeasureAt_26 : decode cX4_hasMeasureAt 26 = .ok (.sipush 9999, 3) := by decide +kernel
theorem dX4_hasMeasureAt_29 : decode cX4_hasMeasureAt 29 = .ok (.if_icmp .gt 7, 3) := by decide +kernel
theorem dX4_hasMeasureAt_32 : decode cX4_hasMeasureAt 32 = .ok (.iconst 1, 1) := by decide +kernel
theorem dX4_hasMeasureAt_33 : decode cX4_hasMeasureAt 33 = .ok (.goto 4, 3) := by decide +kernel
theorem dX4_hasMeasureAt_36 : decode cX4_hasMeasureAt 36 = .ok (.iconst 0, 1) := by decide +kernel
theorem dX4_hasMeasureAt_37 : decode cX4_hasMeasureAt 37 = .ok (.ireturn, 1) := by decide +kernel
theorem dX5_init_0 : decode cX5_init 0 = .ok (.aload_n 0, 1) := by decide +kernel
theorem dX5_init_1 : decode cX5_init 1 = .ok (.invokespecial 1, 3) := by decide +kernel
theorem dX5_init_4 : decode cX5_init 4 = .ok (.aload_n 0, 1) := by decide +kernel
theorem dX5_init_5 : decode cX5_init 5 = .ok (.iconst 0, 1) := by decide +kernel
theorem dX5_init_6 : decode cX5_init 6 = .ok (.putfield 7, 3) := by decide +kernel
theorem dX5_init_9 : decode cX5_init 9 = .ok (.aload_n 0, 1) := by decide +kernel
theorem dX5_init_10 : decode cX5_init 10 = .ok (.iconst 0, 1) := by decide +kernel
theorem dX5_init_11 : decode cX5_init 11 = .ok (.putfield 13, 3) := by decide +kernel
theorem dX5_init_14 : decode cX5_init 14 = .ok (.return_, 1) := by decide +kernel
theorem dX5_read_0 : decode cX5_read 0 = .ok (.aload_n 0, 1) := by decide +kernel
theorem dX5_read_1 : decode cX5_read 1 = .ok (.iconst 0, 1) := by decide +kernel
theorem dX5_read_2 : decode cX5_read 2 = .ok (.putfield 7, 3) := by decide +kernel
theorem dX5_read_5 : decode cX5_read 5 = .ok (.aload_n 0, 1) := by decide +kernel
theorem dX5_read_6 : decode cX5_read 6 = .ok (.iconst 0, 1) := by decide +kernel
theorem dX5_read_7 : decode cX5_read 7 = .ok (.putfield 13, 3) := by decide +kernel
theorem dX5_read_10 : decode cX5_read 10 = .ok (.iload_n 2, 1) := by decide +kernel
theorem dX5_read_11 : decode cX5_read 11 = .ok (.istore 4, 2) := by decide +kernel
theorem dX5_read_13 : decode cX5_read 13 = .ok (.iload 4, 2) := by decide +kernel
theorem dX5_read_15 : decode cX5_read 15 = .ok (.iload_n 3, 1) := by decide +kernel
theorem dX5_read_16 : decode cX5_read 16 = .ok (.if_icmp .gt 58, 3) := by decide +kernel
theorem dX5_read_19 : decode cX5_read 19 = .ok (.aload_n 0, 1) := by decide +kernel
theorem dX5_read_20 : decode cX5_read 20 = .ok (.getfield 7, 3) := by decide +kernel
theorem dX5_read_23 : decode cX5_read 23 = .ok (.bipush 50, 2) := by decide +kernel
theorem dX5_read_25 : decode cX5_read 25 = .ok (.if_icmp .ge 49, 3) := by decide +kernel
theorem dX5_read_28 : decode cX5_read 28 = .ok (.aload_n 1, 1) := by decide +kernel
theorem dX5_read_29 : decode cX5_read 29 = .ok (.getfield 16, 3) := by decide +kernel
theorem dX5_read_32 : decode cX5_read 32 = .ok (.iload 4, 2) := by decide +kernel
theorem dX5_read_34 : decode cX5_read 34 = .ok (.iaload, 1) := by decide +kernel
theorem dX5_read_35 : decode cX5_read 35 = .ok (.ifCond .eq 13, 3) := by decide +kernel
theorem dX5_read_38 : decode cX5_read 38 = .ok (.aload_n 0, 1) := by decide +kernel
theorem dX5_read_39 : decode cX5_read 39 = .ok (.dup, 1) := by decide +kernel
theorem dX5_read_40 : decode cX5_read 40 = .ok (.getfield 7, 3) := by decide +kernel
theorem dX5_read_43 : decode cX5_read 43 = .ok (.iconst 1, 1) := by decide +kernel
theorem dX5_read_44 : decode cX5_read 44 = .ok (.iadd, 1) := by decide +kernel
theorem dX5_read_45 : decode cX5_read 45 = .ok (.putfield 7, 3) := by decide +kernel
theorem dX5_read_48 : decode cX5_read 48 = .ok (.aload_n 1, 1) := by decide +kernel
theorem dX5_read_49 : decode cX5_read 49 = .ok (.getfield 16, 3) := by decide +kernel
theorem dX5_read_52 : decode cX5_read 52 = .ok (.iload 4, 2) := by decide +kernel
theorem dX5_read_54 : decode cX5_read 54 = .ok (.iaload, 1) := by decide +kernel
theorem dX5_read_55 : decode cX5_read 55 = .ok (.ifCond .le 13, 3) := by decide +kernel
theorem dX5_read_58 : decode cX5_read 58 = .ok (.aload_n 0, 1) := by decide +kernel
theorem dX5_read_59 : decode cX5_read 59 = .ok (.dup, 1) := by decide +kernel
theorem dX5_read_60 : decode cX5_read 60 = .ok (.getfield 13, 3) := by decide +kernel
theorem dX5_read_63 : decode cX5_read 63 = .ok (.iconst 1, 1) := by decide +kernel
theorem dX5_read_64 : decode cX5_read 64 = .ok (.iadd, 1) := by decide +kernel
theorem dX5_read_65 : decode cX5_read 65 = .ok (.putfield 13, 3) := by decide +kernel
theorem dX5_read_68 : decode cX5_read 68 = .ok (.iinc 4 1, 3) := by decide +kernel
theorem dX5_read_71 : decode cX5_read 71 = .ok (.goto (-58), 3) := by decide +kernel
theorem dX5_read_74 : decode cX5_read 74 = .ok (.return_, 1) := by decide +kernel
theorem dX5_falseShare_0 : decode cX5_falseShare 0 = .ok (.lconst 1, 1) := by decide +kernel
theorem dX5_falseShare_1 : decode cX5_falseShare 1 = .ok (.aload_n 0, 1) := by decide +kernel
theorem dX5_falseShare_2 : decode cX5_falseShare 2 = .ok (.getfield 7, 3) := by decide +kernel
theorem dX5_falseShare_5 : decode cX5_falseShare 5 = .ok (.lshl, 1) := by decide +kernel
theorem dX5_falseShare_6 : decode cX5_falseShare 6 = .ok (.lstore_n 1, 1) := by decide +kernel
theorem dX5_falseShare_7 : decode cX5_falseShare 7 = .ok (.lload_n 1, 1) := by decide +kernel
theorem dX5_falseShare_8 : decode cX5_falseShare 8 = .ok (.ldc2_w 22, 3) := by decide +kernel
theorem dX5_falseShare_11 : decode cX5_falseShare 11 = .ok (.aload_n 0, 1) := by decide +kernel
theorem dX5_falseShare_12 : decode cX5_falseShare 12 = .ok (.aload_n 0, 1) := by decide +kernel
theorem dX5_falseShare_13 : decode cX5_falseShare 13 = .ok (.getfield 13, 3) := by decide +kernel
theorem dX5_falseShare_16 : decode cX5_falseShare 16 = .ok (.aload_n 0, 1) := by decide +kernel
theorem dX5_falseShare_17 : decode cX5_falseShare 17 = .ok (.getfield 7, 3) := by decide +kernel
theorem dX5_falseShare_20 : decode cX5_falseShare 20 = .ok (.aload_n 0, 1) := by decide +kernel
theorem dX5_falseShare_21 : decode cX5_falseShare 21 = .ok (.getfield 13, 3) := by decide +kernel
theorem dX5_falseShare_24 : decode cX5_falseShare 24 = .ok (.isub, 1) := by decide +kernel
theorem dX5_falseShare_25 : decode cX5_falseShare 25 = .ok (.invokestatic 24, 3) := by decide +kernel
theorem dX5_falseShare_28 : decode cX5_falseShare 28 = .ok (.invokevirtual 30, 3) := by decide +kernel
theorem dX5_falseShare_31 : decode cX5_falseShare 31 = .ok (.lmul, 1) := by decide +kernel
theorem dX5_falseShare_32 : decode cX5_falseShare 32 = .ok (.invokestatic 34, 3) := by decide +kernel
theorem dX5_falseShare_35 : decode cX5_falseShare 35 = .ok (.aload_n 0, 1) := by decide +kernel
theorem dX5_falseShare_36 : decode cX5_falseShare 36 = .ok (.getfield 7, 3) := by decide +kernel
theorem dX5_falseShare_39 : decode cX5_falseShare 39 = .ok (.invokestatic 37, 3) := by decide +kernel
theorem dX5_falseShare_42 : decode cX5_falseShare 42 = .ok (.ireturn, 1) := by decide +kernel
theorem dX5_rowsUpTo_0 : decode cX5_rowsUpTo 0 = .ok (.lconst 1, 1) := by decide +kernel
theorem dX5_rowsUpTo_1 : decode cX5_rowsUpTo 1 = .ok (.lstore_n 2, 1) := by decide +kernel
theorem dX5_rowsUpTo_2 : decode cX5_rowsUpTo 2 = .ok (.lconst 1, 1) := by decide +kernel
theorem dX5_rowsUpTo_3 : decode cX5_rowsUpTo 3 = .ok (.lstore 4, 2) := by decide +kernel
theorem dX5_rowsUpTo_5 : decode cX5_rowsUpTo 5 = .ok (.iconst 1, 1) := by decide +kernel
theorem dX5_rowsUpTo_6 : decode cX5_rowsUpTo 6 = .ok (.istore 6, 2) := by decide +kernel
theorem dX5_rowsUpTo_8 : decode cX5_rowsUpTo 8 = .ok (.iload 6, 2) := by decide +kernel
theorem dX5_rowsUpTo_10 : decode cX5_rowsUpTo 10 = .ok (.iload_n 1, 1) := by decide +kernel
theorem dX5_rowsUpTo_11 : decode cX5_rowsUpTo 11 = .ok (.if_icmp .gt 32, 3) := by decide +kernel
theorem dX5_rowsUpTo_14 : decode cX5_rowsUpTo 14 = .ok (.lload_n 2, 1) := by decide +kernel
theorem dX5_rowsUpTo_15 : decode cX5_rowsUpTo 15 = .ok (.aload_n 0, 1) := by decide +kernel
theorem dX5_rowsUpTo_16 : decode cX5_rowsUpTo 16 = .ok (.getfield 7, 3) := by decide +kernel
theorem dX5_rowsUpTo_19 : decode cX5_rowsUpTo 19 = .ok (.iload 6, 2) := by decide +kernel
theorem dX5_rowsUpTo_21 : decode cX5_rowsUpTo 21 = .ok (.isub, 1) := by decide +kernel
theorem dX5_rowsUpTo_22 : decode cX5_rowsUpTo 22 = .ok (.iconst 1, 1) := by decide +kernel
theorem dX5_rowsUpTo_23 : decode cX5_rowsUpTo 23 = .ok (.iadd, 1) := by decide +kernel
theorem dX5_rowsUpTo_24 : decode cX5_rowsUpTo 24 = .ok (.i2l, 1) := by decide +kernel
theorem dX5_rowsUpTo_25 : decode cX5_rowsUpTo 25 = .ok (.lmul, 1) := by decide +kernel
theorem dX5_rowsUpTo_26 : decode cX5_rowsUpTo 26 = .ok (.iload 6, 2) := by decide +kernel
theorem dX5_rowsUpTo_28 : decode cX5_rowsUpTo 28 = .ok (.i2l, 1) := by decide +kernel
theorem dX5_rowsUpTo_29 : decode cX5_rowsUpTo 29 = .ok (.ldiv, 1) := by decide +kernel
theorem dX5_rowsUpTo_30 : decode cX5_rowsUpTo 30 = .ok (.lstore_n 2, 1) := by decide +kernel
theorem dX5_rowsUpTo_31 : decode cX5_rowsUpTo 31 = .ok (.lload 4, 2) := by decide +kernel
theorem dX5_rowsUpTo_33 : decode cX5_rowsUpTo 33 = .ok (.lload_n 2, 1) := by decide +kernel
theorem dX5_rowsUpTo_34 : decode cX5_rowsUpTo 34 = .ok (.ladd, 1) := by decide +kernel
theorem dX5_rowsUpTo_35 : decode cX5_rowsUpTo 35 = .ok (.lstore 4, 2) := by decide +kernel
theorem dX5_rowsUpTo_37 : decode cX5_rowsUpTo 37 = .ok (.iinc 6 1, 3) := by decide +kernel
theorem dX5_rowsUpTo_40 : decode cX5_rowsUpTo 40 = .ok (.goto (-32), 3) := by decide +kernel
theorem dX5_rowsUpTo_43 : decode cX5_rowsUpTo 43 = .ok (.lload 4, 2) := by decide +kernel
theorem dX5_rowsUpTo_45 : decode cX5_rowsUpTo 45 = .ok (.lreturn, 1) := by decide +kernel
theorem dX5_millionths_0 : decode cX5_millionths 0 = .ok (.lload_n 0, 1) := by decide +kernel
theorem dX5_millionths_1 : decode cX5_millionths 1 = .ok (.ldc2_w 41, 3) := by decide +kernel
theorem dX5_millionths_4 : decode cX5_millionths 4 = .ok (.lmul, 1) := by decide +kernel
theorem dX5_millionths_5 : decode cX5_millionths 5 = .ok (.iload_n 2, 1) := by decide +kernel
theorem dX5_millionths_6 : decode cX5_millionths 6 = .ok (.lshr, 1) := by decide +kernel
theorem dX5_millionths_7 : decode cX5_millionths 7 = .ok (.lstore_n 3, 1) := by decide +kernel
theorem dX5_millionths_8 : decode cX5_millionths 8 = .ok (.lload_n 0, 1) := by decide +kernel
theorem dX5_millionths_9 : decode cX5_millionths 9 = .ok (.ldc2_w 41, 3) := by decide +kernel
theorem dX5_millionths_12 : decode cX5_millionths 12 = .ok (.lmul, 1) := by decide +kernel
theorem dX5_millionths_13 : decode cX5_millionths 13 = .ok (.lload_n 3, 1) := by decide +kernel
theorem dX5_millionths_14 : decode cX5_millionths 14 = .ok (.iload_n 2, 1) := by decide +kernel
theorem dX5_millionths_15 : decode cX5_millionths 15 = .ok (.lshl, 1) := by decide +kernel
theorem dX5_millionths_16 : decode cX5_millionths 16 = .ok (.lsub, 1) := by decide +kernel
theorem dX5_millionths_17 : decode cX5_millionths 17 = .ok (.lstore 5, 2) := by decide +kernel
theorem dX5_millionths_19 : decode cX5_millionths 19 = .ok (.ldc2_w 41, 3) := by decide +kernel
theorem dX5_millionths_22 : decode cX5_millionths 22 = .ok (.lload_n 3, 1) := by decide +kernel
theorem dX5_millionths_23 : decode cX5_millionths 23 = .ok (.lmul, 1) := by decide +kernel
theorem dX5_millionths_24 : decode cX5_millionths 24 = .ok (.lload 5, 2) := by decide +kernel
theorem dX5_millionths_26 : decode cX5_millionths 26 = .ok (.ldc2_w 41, 3) := by decide +kernel
theorem dX5_millionths_29 : decode cX5_millionths 29 = .ok (.lmul, 1) := by decide +kernel
theorem dX5_millionths_30 : decode cX5_millionths 30 = .ok (.iload_n 2, 1) := by decide +kernel
theorem dX5_millionths_31 : decode cX5_millionths 31 = .ok (.lshr, 1) := by decide +kernel
theorem dX5_millionths_32 : decode cX5_millionths 32 = .ok (.ladd, 1) := by decide +kernel
theorem dX5_millionths_33 : decode cX5_millionths 33 = .ok (.l2i, 1) := by decide +kernel
theorem dX5_millionths_34 : decode cX5_millionths 34 = .ok (.ireturn, 1) := by decide +kernel
theorem dX6_init_0 : decode cX6_init 0 = .ok (.aload_n 0, 1) := by decide +kernel
theorem dX6_init_1 : decode cX6_init 1 = .ok (.invokespecial 1, 3) := by decide +kernel
theorem dX6_init_4 : decode cX6_init 4 = .ok (.aload_n 0, 1) := by decide +kernel
theorem dX6_init_5 : decode cX6_init 5 = .ok (.bipush 9, 2) := by decide +kernel
theorem dX6_init_7 : decode cX6_init 7 = .ok (.newarray .long, 2) := by decide +kernel
theorem dX6_init_9 : decode cX6_init 9 = .ok (.putfield 7, 3) := by decide +kernel
theorem dX6_init_12 : decode cX6_init 12 = .ok (.aload_n 0, 1) := by decide +kernel
theorem dX6_init_13 : decode cX6_init 13 = .ok (.iconst 3, 1) := by decide +kernel
theorem dX6_init_14 : decode cX6_init 14 = .ok (.newarray .long, 2) := by decide +kernel
theorem dX6_init_16 : decode cX6_init 16 = .ok (.putfield 13, 3) := by decide +kernel
theorem dX6_init_19 : decode cX6_init 19 = .ok (.aload_n 0, 1) := by decide +kernel
theorem dX6_init_20 : decode cX6_init 20 = .ok (.bipush 9, 2) := by decide +kernel
theorem dX6_init_22 : decode cX6_init 22 = .ok (.newarray .long, 2) := by decide +kernel
theorem dX6_init_24 : decode cX6_init 24 = .ok (.putfield 16, 3) := by decide +kernel
theorem dX6_init_27 : decode cX6_init 27 = .ok (.return_, 1) := by decide +kernel
theorem dX6_forget_0 : decode cX6_forget 0 = .ok (.aload_n 0, 1) := by decide +kernel
theorem dX6_forget_1 : decode cX6_forget 1 = .ok (.getfield 7, 3) := by decide +kernel
theorem dX6_forget_4 : decode cX6_forget 4 = .ok (.lconst 0, 1) := by decide +kernel
theorem dX6_forget_5 : decode cX6_forget 5 = .ok (.invokestatic 19, 3) := by decide +kernel
theorem dX6_forget_8 : decode cX6_forget 8 = .ok (.aload_n 0, 1) := by decide +kernel
theorem dX6_forget_9 : decode cX6_forget 9 = .ok (.getfield 13, 3) := by decide +kernel
theorem dX6_forget_12 : decode cX6_forget 12 = .ok (.lconst 0, 1) := by decide +kernel
theorem dX6_forget_13 : decode cX6_forget 13 = .ok (.invokestatic 19, 3) := by decide +kernel
theorem dX6_forget_16 : decode cX6_forget 16 = .ok (.return_, 1) := by decide +kernel
theorem dX6_addLeft_0 : decode cX6_addLeft 0 = .ok (.iconst 0, 1) := by decide +kernel
theorem dX6_addLeft_1 : decode cX6_addLeft 1 = .ok (.istore_n 3, 1) := by decide +kernel
theorem dX6_addLeft_2 : decode cX6_addLeft 2 = .ok (.iload_n 3, 1) := by decide +kernel
theorem dX6_addLeft_3 : decode cX6_addLeft 3 = .ok (.bipush 9, 2) := by decide +kernel
theorem dX6_addLeft_5 : decode cX6_addLeft 5 = .ok (.if_icmp .ge 30, 3) := by decide +kernel
theorem dX6_addLeft_8 : decode cX6_addLeft 8 = .ok (.aload_n 0, 1) := by decide +kernel
theorem dX6_addLeft_9 : decode cX6_addLeft 9 = .ok (.getfield 7, 3) := by decide +kernel
theorem dX6_addLeft_12 : decode cX6_addLeft 12 = .ok (.iload_n 3, 1) := by decide +kernel
theorem dX6_addLeft_13 : decode cX6_addLeft 13 = .ok (.dup2, 1) := by decide +kernel
theorem dX6_addLeft_14 : decode cX6_addLeft 14 = .ok (.laload, 1) := by decide +kernel
theorem dX6_addLeft_15 : decode cX6_addLeft 15 = .ok (.aload_n 1, 1) := by decide +kernel
theorem dX6_addLeft_16 : decode cX6_addLeft 16 = .ok (.getfield 25, 3) := by decide +kernel
theorem dX6_addLeft_19 : decode cX6_addLeft 19 = .ok (.bipush 9, 2) := by decide +kernel
theorem dX6_addLeft_21 : decode cX6_addLeft 21 = .ok (.iload_n 2, 1) := by decide +kernel
theorem dX6_addLeft_22 : decode cX6_addLeft 22 = .ok (.imul, 1) := by decide +kernel
theorem dX6_addLeft_23 : decode cX6_addLeft 23 = .ok (.iload_n 3, 1) := by decide +kernel
theorem dX6_addLeft_24 : decode cX6_addLeft 24 = .ok (.iadd, 1) := by decide +kernel
theorem dX6_addLeft_25 : decode cX6_addLeft 25 = .ok (.iaload, 1) := by decide +kernel
theorem dX6_addLeft_26 : decode cX6_addLeft 26 = .ok (.i2l, 1) := by decide +kernel
theorem dX6_addLeft_27 : decode cX6_addLeft 27 = .ok (.ladd, 1) := by decide +kernel
theorem dX6_addLeft_28 : decode cX6_addLeft 28 = .ok (.lastore, 1) := by decide +kernel
theorem dX6_addLeft_29 : decode cX6_addLeft 29 = .ok (.iinc 3 1, 3) := by decide +kernel
theorem dX6_addLeft_32 : decode cX6_addLeft 32 = .ok (.goto (-30), 3) := by decide +kernel
theorem dX6_addLeft_35 : decode cX6_addLeft 35 = .ok (.return_, 1) := by decide +kernel
theorem dX6_addRight_0 : decode cX6_addRight 0 = .ok (.iconst 0, 1) := by decide +kernel
theorem dX6_addRight_1 : decode cX6_addRight 1 = .ok (.istore 5, 2) := by decide +kernel
theorem dX6_addRight_3 : decode cX6_addRight 3 = .ok (.iload 5, 2) := by decide +kernel
theorem dX6_addRight_5 : decode cX6_addRight 5 = .ok (.iconst 3, 1) := by decide +kernel
theorem dX6_addRight_6 : decode cX6_addRight 6 = .ok (.if_icmp .ge 49, 3) := by decide +kernel
theorem dX6_addRight_9 : decode cX6_addRight 9 = .ok (.aload_n 1, 1) := by decide +kernel
theorem dX6_addRight_10 : decode cX6_addRight 10 = .ok (.getfield 31, 3) := by decide +kernel
theorem dX6_addRight_13 : decode cX6_addRight 13 = .ok (.iconst 3, 1) := by decide +kernel
theorem dX6_addRight_14 : decode cX6_addRight 14 = .ok (.iload_n 2, 1) := by decide +kernel
theorem dX6_addRight_15 : decode cX6_addRight 15 = .ok (.imul, 1) := by decide +kernel
theorem dX6_addRight_16 : decode cX6_addRight 16 = .ok (.iload 5, 2) := by decide +kernel
theorem dX6_addRight_18 : decode cX6_addRight 18 = .ok (.iadd, 1) := by decide +kernel
theorem dX6_addRight_19 : decode cX6_addRight 19 = .ok (.iaload, 1) := by decide +kernel
theorem dX6_addRight_20 : decode cX6_addRight 20 = .ok (.istore 6, 2) := by decide +kernel
theorem dX6_addRight_22 : decode cX6_addRight 22 = .ok (.aload_n 0, 1) := by decide +kernel
theorem dX6_addRight_23 : decode cX6_addRight 23 = .ok (.getfield 13, 3) := by decide +kernel
theorem dX6_addRight_26 : decode cX6_addRight 26 = .ok (.iload 5, 2) := by decide +kernel
theorem dX6_addRight_28 : decode cX6_addRight 28 = .ok (.dup2, 1) := by decide +kernel
theorem dX6_addRight_29 : decode cX6_addRight 29 = .ok (.laload, 1) := by decide +kernel
theorem dX6_addRight_30 : decode cX6_addRight 30 = .ok (.iload 6, 2) := by decide +kernel
theorem dX6_addRight_32 : decode cX6_addRight 32 = .ok (.invokestatic 34, 3) := by decide +kernel
theorem dX6_addRight_35 : decode cX6_addRight 35 = .ok (.iload_n 3, 1) := by decide +kernel
theorem dX6_addRight_36 : decode cX6_addRight 36 = .ok (.imul, 1) := by decide +kernel
theorem dX6_addRight_37 : decode cX6_addRight 37 = .ok (.iload 6, 2) := by decide +kernel
theorem dX6_addRight_39 : decode cX6_addRight 39 = .ok (.invokestatic 40, 3) := by decide +kernel
theorem dX6_addRight_42 : decode cX6_addRight 42 = .ok (.iload 4, 2) := by decide +kernel
theorem dX6_addRight_44 : decode cX6_addRight 44 = .ok (.imul, 1) := by decide +kernel
theorem dX6_addRight_45 : decode cX6_addRight 45 = .ok (.iadd, 1) := by decide +kernel
theorem dX6_addRight_46 : decode cX6_addRight 46 = .ok (.i2l, 1) := by decide +kernel
theorem dX6_addRight_47 : decode cX6_addRight 47 = .ok (.ladd, 1) := by decide +kernel
theorem dX6_addRight_48 : decode cX6_addRight 48 = .ok (.lastore, 1) := by decide +kernel
theorem dX6_addRight_49 : decode cX6_addRight 49 = .ok (.iinc 5 1, 3) := by decide +kernel
theorem dX6_addRight_52 : decode cX6_addRight 52 = .ok (.goto (-49), 3) := by decide +kernel
theorem dX6_addRight_55 : decode cX6_addRight 55 = .ok (.return_, 1) := by decide +kernel
theorem dX6_determinant_0 : decode cX6_determinant 0 = .ok (.aload_n 0, 1) := by decide +kernel
theorem dX6_determinant_1 : decode cX6_determinant 1 = .ok (.getfield 7, 3) := by decide +kernel
theorem dX6_determinant_4 : decode cX6_determinant 4 = .ok (.invokestatic 43, 3) := by decide +kernel
theorem dX6_determinant_7 : decode cX6_determinant 7 = .ok (.lreturn, 1) := by decide +kernel
theorem dX6_determinantOf_0 : decode cX6_determinantOf 0 = .ok (.aload_n 0, 1) := by decide +kernel
theorem dX6_determinantOf_1 : decode cX6_determinantOf 1 = .ok (.iconst 0, 1) := by decide +kernel
theorem dX6_determinantOf_2 : decode cX6_determinantOf 2 = .ok (.laload, 1) := by decide +kernel
theorem dX6_determinantOf_3 : decode cX6_determinantOf 3 = .ok (.aload_n 0, 1) := by decide +kernel
theorem dX6_determinantOf_4 : decode cX6_determinantOf 4 = .ok (.iconst 4, 1) := by decide +kernel
theorem dX6_determinantOf_5 : decode cX6_determinantOf 5 = .ok (.laload, 1) := by decide +kernel
theorem dX6_determinantOf_6 : decode cX6_determinantOf 6 = .ok (.aload_n 0, 1) := by decide +kernel
theorem dX6_determinantOf_7 : decode cX6_determinantOf 7 = .ok (.bipush 8, 2) := by decide +kernel
theorem dX6_determinantOf_9 : decode cX6_determinantOf 9 = .ok (.laload, 1) := by decide +kernel
theorem dX6_determinantOf_10 : decode cX6_determinantOf 10 = .ok (.lmul, 1) := by decide +kernel
theorem dX6_determinantOf_11 : decode cX6_determinantOf 11 = .ok (.aload_n 0, 1) := by decide +kernel
theorem dX6_determinantOf_12 : decode cX6_determinantOf 12 = .ok (.iconst 5, 1) := by decide +kernel
theorem dX6_determinantOf_13 : decode cX6_determinantOf 13 = .ok (.laload, 1) := by decide +kernel
theorem dX6_determinantOf_14 : decode cX6_determinantOf 14 = .ok (.aload_n 0, 1) := by decide +kernel
theorem dX6_determinantOf_15 : decode cX6_determinantOf 15 = .ok (.bipush 7, 2) := by decide +kernel
theorem dX6_determinantOf_17 : decode cX6_determinantOf 17 = .ok (.laload, 1) := by decide +kernel
theorem dX6_determinantOf_18 : decode cX6_determinantOf 18 = .ok (.lmul, 1) := by decide +kernel
theorem dX6_determinantOf_19 : decode cX6_determinantOf 19 = .ok (.lsub, 1) := by decide +kernel
theorem dX6_determinantOf_20 : decode cX6_determinantOf 20 = .ok (.lmul, 1) := by decide +kernel
theorem dX6_determinantOf_21 : decode cX6_determinantOf 21 = .ok (.aload_n 0, 1) := by decide +kernel
theorem dX6_determinantOf_22 : decode cX6_determinantOf 22 = .ok (.iconst 1, 1) := by decide +kernel
theorem dX6_determinantOf_23 : decode cX6_determinantOf 23 = .ok (.laload, 1) := by decide +kernel
theorem dX6_determinantOf_24 : decode cX6_determinantOf 24 = .ok (.aload_n 0, 1) := by decide +kernel
theorem dX6_determinantOf_25 : decode cX6_determinantOf 25 = .ok (.iconst 3, 1) := by decide +kernel
theorem dX6_determinantOf_26 : decode cX6_determinantOf 26 = .ok (.laload, 1) := by decide +kernel
theorem dX6_determinantOf_27 : decode cX6_determinantOf 27 = .ok (.aload_n 0, 1) := by decide +kernel
theorem dX6_determinantOf_28 : decode cX6_determinantOf 28 = .ok (.bipush 8, 2) := by decide +kernel
theorem dX6_determinantOf_30 : decode cX6_determinantOf 30 = .ok (.laload, 1) := by decide +kernel
theorem dX6_determinantOf_31 : decode cX6_determinantOf 31 = .ok (.lmul, 1) := by decide +kernel
theorem dX6_determinantOf_32 : decode cX6_determinantOf 32 = .ok (.aload_n 0, 1) := by decide +kernel
theorem dX6_determinantOf_33 : decode cX6_determinantOf 33 = .ok (.iconst 5, 1) := by decide +kernel
theorem dX6_determinantOf_34 : decode cX6_determinantOf 34 = .ok (.laload, 1) := by decide +kernel
theorem dX6_determinantOf_35 : decode cX6_determinantOf 35 = .ok (.aload_n 0, 1) := by decide +kernel
theorem dX6_determinantOf_36 : decode cX6_determinantOf 36 = .ok (.bipush 6, 2) := by decide +kernel
theorem dX6_determinantOf_38 : decode cX6_determinantOf 38 = .ok (.laload, 1) := by decide +kernel
theorem dX6_determinantOf_39 : decode cX6_determinantOf 39 = .ok (.lmul, 1) := by decide +kernel
theorem dX6_determinantOf_40 : decode cX6_determinantOf 40 = .ok (.lsub, 1) := by decide +kernel
theorem dX6_determinantOf_41 : decode cX6_determinantOf 41 = .ok (.lmul, 1) := by decide +kernel
theorem dX6_determinantOf_42 : decode cX6_determinantOf 42 = .ok (.lsub, 1) := by decide +kernel
theorem dX6_determinantOf_43 : decode cX6_determinantOf 43 = .ok (.aload_n 0, 1) := by decide +kernel
theorem dX6_determinantOf_44 : decode cX6_determinantOf 44 = .ok (.iconst 2, 1) := by decide +kernel
theorem dX6_determinantOf_45 : decode cX6_determinantOf 45 = .ok (.laload, 1) := by decide +kernel
theorem dX6_determinantOf_46 : decode cX6_determinantOf 46 = .ok (.aload_n 0, 1) := by decide +kernel
theorem dX6_determinantOf_47 : decode cX6_determinantOf 47 = .ok (.iconst 3, 1) := by decide +kernel
theorem dX6_determinantOf_48 : decode cX6_determinantOf 48 = .ok (.laload, 1) := by decide +kernel
theorem dX6_determinantOf_49 : decode cX6_determinantOf 49 = .ok (.aload_n 0, 1) := by decide +kernel
theorem dX6_determinantOf_50 : decode cX6_determinantOf 50 = .ok (.bipush 7, 2) := by decide +kernel
theorem dX6_determinantOf_52 : decode cX6_determinantOf 52 = .ok (.laload, 1) := by decide +kernel
theorem dX6_determinantOf_53 : decode cX6_determinantOf 53 = .ok (.lmul, 1) := by decide +kernel
theorem dX6_determinantOf_54 : decode cX6_determinantOf 54 = .ok (.aload_n 0, 1) := by decide +kernel
theorem dX6_determinantOf_55 : decode cX6_determinantOf 55 = .ok (.iconst 4, 1) := by decide +kernel
theorem dX6_determinantOf_56 : decode cX6_determinantOf 56 = .ok (.laload, 1) := by decide +kernel
theorem dX6_determinantOf_57 : decode cX6_determinantOf 57 = .ok (.aload_n 0, 1) := by decide +kernel
theorem dX6_determinantOf_58 : decode cX6_determinantOf 58 = .ok (.bipush 6, 2) := by decide +kernel
theorem dX6_determinantOf_60 : decode cX6_determinantOf 60 = .ok (.laload, 1) := by decide +kernel
theorem dX6_determinantOf_61 : decode cX6_determinantOf 61 = .ok (.lmul, 1) := by decide +kernel
theorem dX6_determinantOf_62 : decode cX6_determinantOf 62 = .ok (.lsub, 1) := by decide +kernel
theorem dX6_determinantOf_63 : decode cX6_determinantOf 63 = .ok (.lmul, 1) := by decide +kernel
theorem dX6_determinantOf_64 : decode cX6_determinantOf 64 = .ok (.ladd, 1) := by decide +kernel
theorem dX6_determinantOf_65 : decode cX6_determinantOf 65 = .ok (.lreturn, 1) := by decide +kernel
theorem dX6_determinantWithRight_0 : decode cX6_determinantWithRight 0 = .ok (.iconst 0, 1) := by decide +kernel
theorem dX6_determinantWithRight_1 : decode cX6_determinantWithRight 1 = .ok (.istore_n 2, 1) := by decide +kernel
theorem dX6_determinantWithRight_2 : decode cX6_determinantWithRight 2 = .ok (.iload_n 2, 1) := by decide +kernel
theorem dX6_determinantWithRight_3 : decode cX6_determinantWithRight 3 = .ok (.bipush 9, 2) := by decide +kernel
theorem dX6_determinantWithRight_5 : decode cX6_determinantWithRight 5 = .ok (.if_icmp .ge 39, 3) := by decide +kernel
theorem dX6_determinantWithRight_8 : decode cX6_determinantWithRight 8 = .ok (.aload_n 0, 1) := by decide +kernel
theorem dX6_determinantWithRight_9 : decode cX6_determinantWithRight 9 = .ok (.getfield 16, 3) := by decide +kernel
theorem dX6_determinantWithRight_12 : decode cX6_determinantWithRight 12 = .ok (.iload_n 2, 1) := by decide +kernel
theorem dX6_determinantWithRight_13 : decode cX6_determinantWithRight 13 = .ok (.iload_n 2, 1) := by decide +kernel
theorem dX6_determinantWithRight_14 : decode cX6_determinantWithRight 14 = .ok (.iconst 3, 1) := by decide +kernel
theorem dX6_determinantWithRight_15 : decode cX6_determinantWithRight 15 = .ok (.irem, 1) := by decide +kernel
theorem dX6_determinantWithRight_16 : decode cX6_determinantWithRight 16 = .ok (.iload_n 1, 1) := by decide +kernel
theorem dX6_determinantWithRight_17 : decode cX6_determinantWithRight 17 = .ok (.if_icmp .ne 14, 3) := by decide +kernel
theorem dX6_determinantWithRight_20 : decode cX6_determinantWithRight 20 = .ok (.aload_n 0, 1) := by decide +kernel
theorem dX6_determinantWithRight_21 : decode cX6_determinantWithRight 21 = .ok (.getfield 13, 3) := by decide +kernel
theorem dX6_determinantWithRight_24 : decode cX6_determinantWithRight 24 = .ok (.iload_n 2, 1) := by decide +kernel
theorem dX6_determinantWithRight_25 : decode cX6_determinantWithRight 25 = .ok (.iconst 3, 1) := by decide +kernel
theorem dX6_determinantWithRight_26 : decode cX6_determinantWithRight 26 = .ok (.idiv, 1) := by decide +kernel
theorem dX6_determinantWithRight_27 : decode cX6_determinantWithRight 27 = .ok (.laload, 1) := by decide +kernel
theorem dX6_determinantWithRight_28 : decode cX6_determinantWithRight 28 = .ok (.goto 9, 3) := by decide +kernel
theorem dX6_determinantWithRight_31 : decode cX6_determinantWithRight 31 = .ok (.aload_n 0, 1) := by decide +kernel
theorem dX6_determinantWithRight_32 : decode cX6_determinantWithRight 32 = .ok (.getfield 7, 3) := by decide +kernel
theorem dX6_determinantWithRight_35 : decode cX6_determinantWithRight 35 = .ok (.iload_n 2, 1) := by decide +kernel
theorem dX6_determinantWithRight_36 : decode cX6_determinantWithRight 36 = .ok (.laload, 1) := by decide +kernel
theorem dX6_determinantWithRight_37 : decode cX6_determinantWithRight 37 = .ok (.lastore, 1) := by decide +kernel
theorem dX6_determinantWithRight_38 : decode cX6_determinantWithRight 38 = .ok (.iinc 2 1, 3) := by decide +kernel
theorem dX6_determinantWithRight_41 : decode cX6_determinantWithRight 41 = .ok (.goto (-39), 3) := by decide +kernel
theorem dX6_determinantWithRight_44 : decode cX6_determinantWithRight 44 = .ok (.aload_n 0, 1) := by decide +kernel
theorem dX6_determinantWithRight_45 : decode cX6_determinantWithRight 45 = .ok (.getfield 16, 3) := by decide +kernel
theorem dX6_determinantWithRight_48 : decode cX6_determinantWithRight 48 = .ok (.invokestatic 43, 3) := by decide +kernel
theorem dX6_determinantWithRight_51 : decode cX6_determinantWithRight 51 = .ok (.lreturn, 1) := by decide +kernel
theorem dX6_rankOfAll_0 : decode cX6_rankOfAll 0 = .ok (.aload_n 0, 1) := by decide +kernel
theorem dX6_rankOfAll_1 : decode cX6_rankOfAll 1 = .ok (.invokevirtual 47, 3) := by decide +kernel
theorem dX6_rankOfAll_4 : decode cX6_rankOfAll 4 = .ok (.lconst 0, 1) := by decide +kernel
theorem dX6_rankOfAll_5 : decode cX6_rankOfAll 5 = .ok (.lcmp, 1) := by decide +kernel
theorem dX6_rankOfAll_6 : decode cX6_rankOfAll 6 = .ok (.ifCond .eq 5, 3) := by decide +kernel
theorem dX6_rankOfAll_9 : decode cX6_rankOfAll 9 = .ok (.iconst 3, 1) := by decide +kernel
theorem dX6_rankOfAll_10 : decode cX6_rankOfAll 10 = .ok (.ireturn, 1) := by decide +kernel
theorem dX6_rankOfAll_11 : decode cX6_rankOfAll 11 = .ok (.aload_n 0, 1) := by decide +kernel
theorem dX6_rankOfAll_12 : decode cX6_rankOfAll 12 = .ok (.iconst 0, 1) := by decide +kernel
theorem dX6_rankOfAll_13 : decode cX6_rankOfAll 13 = .ok (.invokevirtual 51, 3) := by decide +kernel
theorem dX6_rankOfAll_16 : decode cX6_rankOfAll 16 = .ok (.aload_n 0, 1) := by decide +kernel
theorem dX6_rankOfAll_17 : decode cX6_rankOfAll 17 = .ok (.iconst 1, 1) := by decide +kernel
theorem dX6_rankOfAll_18 : decode cX6_rankOfAll 18 = .ok (.invokevirtual 51, 3) := by decide +kernel
theorem dX6_rankOfAll_21 : decode cX6_rankOfAll 21 = .ok (.aload_n 0, 1) := by decide +kernel
theorem dX6_rankOfAll_22 : decode cX6_rankOfAll 22 = .ok (.iconst 2, 1) := by decide +kernel
theorem dX6_rankOfAll_23 : decode cX6_rankOfAll 23 = .ok (.invokevirtual 51, 3) := by decide +kernel
theorem dX6_rankOfAll_26 : decode cX6_rankOfAll 26 = .ok (.invokestatic 54, 3) := by decide +kernel
theorem dX6_rankOfAll_29 : decode cX6_rankOfAll 29 = .ok (.invokestatic 54, 3) := by decide +kernel
theorem dX6_rankOfAll_32 : decode cX6_rankOfAll 32 = .ok (.ireturn, 1) := by decide +kernel
theorem dX6_rankWithout_0 : decode cX6_rankWithout 0 = .ok (.iload_n 1, 1) := by decide +kernel
theorem dX6_rankWithout_1 : decode cX6_rankWithout 1 = .ok (.ifCond .ne 7, 3) := by decide +kernel
theorem dX6_rankWithout_4 : decode cX6_rankWithout 4 = .ok (.iconst 1, 1) := by decide +kernel
theorem dX6_rankWithout_5 : decode cX6_rankWithout 5 = .ok (.goto 4, 3) := by decide +kernel
theorem dX6_rankWithout_8 : decode cX6_rankWithout 8 = .ok (.iconst 0, 1) := by decide +kernel
theorem dX6_rankWithout_9 : decode cX6_rankWithout 9 = .ok (.istore_n 2, 1) := by decide +kernel
theorem dX6_rankWithout_10 : decode cX6_rankWithout 10 = .ok (.iload_n 1, 1) := by decide +kernel
theorem dX6_rankWithout_11 : decode cX6_rankWithout 11 = .ok (.iconst 2, 1) := by decide +kernel
theorem dX6_rankWithout_12 : decode cX6_rankWithout 12 = .ok (.if_icmp .ne 7, 3) := by decide +kernel
theorem dX6_rankWithout_15 : decode cX6_rankWithout 15 = .ok (.iconst 1, 1) := by decide +kernel
theorem dX6_rankWithout_16 : decode cX6_rankWithout 16 = .ok (.goto 4, 3) := by decide +kernel
theorem dX6_rankWithout_19 : decode cX6_rankWithout 19 = .ok (.iconst 2, 1) := by decide +kernel
theorem dX6_rankWithout_20 : decode cX6_rankWithout 20 = .ok (.istore_n 3, 1) := by decide +kernel
theorem dX6_rankWithout_21 : decode cX6_rankWithout 21 = .ok (.aload_n 0, 1) := by decide +kernel
theorem dX6_rankWithout_22 : decode cX6_rankWithout 22 = .ok (.getfield 7, 3) := by decide +kernel
theorem dX6_rankWithout_25 : decode cX6_rankWithout 25 = .ok (.iconst 4, 1) := by decide +kernel
theorem dX6_rankWithout_26 : decode cX6_rankWithout 26 = .ok (.iload_n 2, 1) := by decide +kernel
theorem dX6_rankWithout_27 : decode cX6_rankWithout 27 = .ok (.imul, 1) := by decide +kernel
theorem dX6_rankWithout_28 : decode cX6_rankWithout 28 = .ok (.laload, 1) := by decide +kernel
theorem dX6_rankWithout_29 : decode cX6_rankWithout 29 = .ok (.lstore 4, 2) := by decide +kernel
theorem dX6_rankWithout_31 : decode cX6_rankWithout 31 = .ok (.aload_n 0, 1) := by decide +kernel
theorem dX6_rankWithout_32 : decode cX6_rankWithout 32 = .ok (.getfield 7, 3) := by decide +kernel
theorem dX6_rankWithout_35 : decode cX6_rankWithout 35 = .ok (.iconst 4, 1) := by decide +kernel
theorem dX6_rankWithout_36 : decode cX6_rankWithout 36 = .ok (.iload_n 3, 1) := by decide +kernel
theorem dX6_rankWithout_37 : decode cX6_rankWithout 37 = .ok (.imul, 1) := by decide +kernel
theorem dX6_rankWithout_38 : decode cX6_rankWithout 38 = .ok (.laload, 1) := by decide +kernel
theorem dX6_rankWithout_39 : decode cX6_rankWithout 39 = .ok (.lstore 6, 2) := by decide +kernel
theorem dX6_rankWithout_41 : decode cX6_rankWithout 41 = .ok (.aload_n 0, 1) := by decide +kernel
theorem dX6_rankWithout_42 : decode cX6_rankWithout 42 = .ok (.getfield 7, 3) := by decide +kernel
theorem dX6_rankWithout_45 : decode cX6_rankWithout 45 = .ok (.iconst 3, 1) := by decide +kernel
theorem dX6_rankWithout_46 : decode cX6_rankWithout 46 = .ok (.iload_n 2, 1) := by decide +kernel
theorem dX6_rankWithout_47 : decode cX6_rankWithout 47 = .ok (.imul, 1) := by decide +kernel
theorem dX6_rankWithout_48 : decode cX6_rankWithout 48 = .ok (.iload_n 3, 1) := by decide +kernel
theorem dX6_rankWithout_49 : decode cX6_rankWithout 49 = .ok (.iadd, 1) := by decide +kernel
theorem dX6_rankWithout_50 : decode cX6_rankWithout 50 = .ok (.laload, 1) := by decide +kernel
theorem dX6_rankWithout_51 : decode cX6_rankWithout 51 = .ok (.lstore 8, 2) := by decide +kernel
theorem dX6_rankWithout_53 : decode cX6_rankWithout 53 = .ok (.lload 4, 2) := by decide +kernel
theorem dX6_rankWithout_55 : decode cX6_rankWithout 55 = .ok (.lload 6, 2) := by decide +kernel
theorem dX6_rankWithout_57 : decode cX6_rankWithout 57 = .ok (.lmul, 1) := by decide +kernel
theorem dX6_rankWithout_58 : decode cX6_rankWithout 58 = .ok (.lload 8, 2) := by decide +kernel
theorem dX6_rankWithout_60 : decode cX6_rankWithout 60 = .ok (.lload 8, 2) := by decide +kernel
theorem dX6_rankWithout_62 : decode cX6_rankWithout 62 = .ok (.lmul, 1) := by decide +kernel
theorem dX6_rankWithout_63 : decode cX6_rankWithout 63 = .ok (.lcmp, 1) := by decide +kernel
theorem dX6_rankWithout_64 : decode cX6_rankWithout 64 = .ok (.ifCond .eq 5, 3) := by decide +kernel
theorem dX6_rankWithout_67 : decode cX6_rankWithout 67 = .ok (.iconst 2, 1) := by decide +kernel
theorem dX6_rankWithout_68 : decode cX6_rankWithout 68 = .ok (.ireturn, 1) := by decide +kernel
theorem dX6_rankWithout_69 : decode cX6_rankWithout 69 = .ok (.lload 4, 2) := by decide +kernel
theorem dX6_rankWithout_71 : decode cX6_rankWithout 71 = .ok (.lconst 0, 1) := by decide +kernel
theorem dX6_rankWithout_72 : decode cX6_rankWithout 72 = .ok (.lcmp, 1) := by decide +kernel
theorem dX6_rankWithout_73 : decode cX6_rankWithout 73 = .ok (.ifCond .ne 10, 3) := by decide +kernel
theorem dX6_rankWithout_76 : decode cX6_rankWithout 76 = .ok (.lload 6, 2) := by decide +kernel
theorem dX6_rankWithout_78 : decode cX6_rankWithout 78 = .ok (.lconst 0, 1) := by decide +kernel
theorem dX6_rankWithout_79 : decode cX6_rankWithout 79 = .ok (.lcmp, 1) := by decide +kernel
theorem dX6_rankWithout_80 : decode cX6_rankWithout 80 = .ok (.ifCond .eq 7, 3) := by decide +kernel
theorem dX6_rankWithout_83 : decode cX6_rankWithout 83 = .ok (.iconst 1, 1) := by decide +kernel
theorem dX6_rankWithout_84 : decode cX6_rankWithout 84 = .ok (.goto 4, 3) := by decide +kernel
theorem dX6_rankWithout_87 : decode cX6_rankWithout 87 = .ok (.iconst 0, 1) := by decide +kernel
theorem dX6_rankWithout_88 : decode cX6_rankWithout 88 = .ok (.ireturn, 1) := by decide +kernel
theorem dX6_tells_0 : decode cX6_tells 0 = .ok (.aload_n 0, 1) := by decide +kernel
theorem dX6_tells_1 : decode cX6_tells 1 = .ok (.iload_n 1, 1) := by decide +kernel
theorem dX6_tells_2 : decode cX6_tells 2 = .ok (.invokevirtual 51, 3) := by decide +kernel
theorem dX6_tells_5 : decode cX6_tells 5 = .ok (.aload_n 0, 1) := by decide +kernel
theorem dX6_tells_6 : decode cX6_tells 6 = .ok (.invokevirtual 60, 3) := by decide +kernel
theorem dX6_tells_9 : decode cX6_tells 9 = .ok (.if_icmp .ge 7, 3) := by decide +kernel
theorem dX6_tells_12 : decode cX6_tells 12 = .ok (.iconst 1, 1) := by decide +kernel
theorem dX6_tells_13 : decode cX6_tells 13 = .ok (.goto 4, 3) := by decide +kernel
theorem dX6_tells_16 : decode cX6_tells 16 = .ok (.iconst 0, 1) := by decide +kernel
theorem dX6_tells_17 : decode cX6_tells 17 = .ok (.ireturn, 1) := by decide +kernel
theorem dX6_fitted_0 : decode cX6_fitted 0 = .ok (.aload_n 0, 1) := by decide +kernel
theorem dX6_fitted_1 : decode cX6_fitted 1 = .ok (.invokevirtual 47, 3) := by decide +kernel
theorem dX6_fitted_4 : decode cX6_fitted 4 = .ok (.lstore_n 2, 1) := by decide +kernel
theorem dX6_fitted_5 : decode cX6_fitted 5 = .ok (.lload_n 2, 1) := by decide +kernel
theorem dX6_fitted_6 : decode cX6_fitted 6 = .ok (.lconst 0, 1) := by decide +kernel
theorem dX6_fitted_7 : decode cX6_fitted 7 = .ok (.lcmp, 1) := by decide +kernel
theorem dX6_fitted_8 : decode cX6_fitted 8 = .ok (.ifCond .ne 5, 3) := by decide +kernel
theorem dX6_fitted_11 : decode cX6_fitted 11 = .ok (.lconst 0, 1) := by decide +kernel
theorem dX6_fitted_12 : decode cX6_fitted 12 = .ok (.lreturn, 1) := by decide +kernel
theorem dX6_fitted_13 : decode cX6_fitted 13 = .ok (.aload_n 0, 1) := by decide +kernel
theorem dX6_fitted_14 : decode cX6_fitted 14 = .ok (.iload_n 1, 1) := by decide +kernel
theorem dX6_fitted_15 : decode cX6_fitted 15 = .ok (.invokevirtual 64, 3) := by decide +kernel
theorem dX6_fitted_18 : decode cX6_fitted 18 = .ok (.lstore 4, 2) := by decide +kernel
theorem dX6_fitted_20 : decode cX6_fitted 20 = .ok (.lload 4, 2) := by decide +kernel
theorem dX6_fitted_22 : decode cX6_fitted 22 = .ok (.lload_n 2, 1) := by decide +kernel
theorem dX6_fitted_23 : decode cX6_fitted 23 = .ok (.invokestatic 68, 3) := by decide +kernel
theorem dX6_fitted_26 : decode cX6_fitted 26 = .ok (.lstore 6, 2) := by decide +kernel
theorem dX6_fitted_28 : decode cX6_fitted 28 = .ok (.lload 4, 2) := by decide +kernel
theorem dX6_fitted_30 : decode cX6_fitted 30 = .ok (.lload 6, 2) := by decide +kernel
theorem dX6_fitted_32 : decode cX6_fitted 32 = .ok (.lload_n 2, 1) := by decide +kernel
theorem dX6_fitted_33 : decode cX6_fitted 33 = .ok (.lmul, 1) := by decide +kernel
theorem dX6_fitted_34 : decode cX6_fitted 34 = .ok (.lsub, 1) := by decide +kernel
theorem dX6_fitted_35 : decode cX6_fitted 35 = .ok (.lstore 8, 2) := by decide +kernel
theorem dX6_fitted_37 : decode cX6_fitted 37 = .ok (.ldc2_w 72, 3) := by decide +kernel
theorem dX6_fitted_40 : decode cX6_fitted 40 = .ok (.lload 6, 2) := by decide +kernel
theorem dX6_fitted_42 : decode cX6_fitted 42 = .ok (.lmul, 1) := by decide +kernel
theorem dX6_fitted_43 : decode cX6_fitted 43 = .ok (.ldc2_w 72, 3) := by decide +kernel
theorem dX6_fitted_46 : decode cX6_fitted 46 = .ok (.lload 8, 2) := by decide +kernel
theorem dX6_fitted_48 : decode cX6_fitted 48 = .ok (.lmul, 1) := by decide +kernel
theorem dX6_fitted_49 : decode cX6_fitted 49 = .ok (.lload_n 2, 1) := by decide +kernel
theorem dX6_fitted_50 : decode cX6_fitted 50 = .ok (.invokestatic 68, 3) := by decide +kernel
theorem dX6_fitted_53 : decode cX6_fitted 53 = .ok (.ladd, 1) := by decide +kernel
theorem dX6_fitted_54 : decode cX6_fitted 54 = .ok (.lreturn, 1) := by decide +kernel
theorem dX7_init_0 : decode cX7_init 0 = .ok (.aload_n 0, 1) := by decide +kernel
theorem dX7_init_1 : decode cX7_init 1 = .ok (.invokespecial 1, 3) := by decide +kernel
theorem dX7_init_4 : decode cX7_init 4 = .ok (.aload_n 0, 1) := by decide +kernel
theorem dX7_init_5 : decode cX7_init 5 = .ok (.new 7, 3) := by decide +kernel
theorem dX7_init_8 : decode cX7_init 8 = .ok (.dup, 1) := by decide +kernel
theorem dX7_init_9 : decode cX7_init 9 = .ok (.invokespecial 9, 3) := by decide +kernel
theorem dX7_init_12 : decode cX7_init 12 = .ok (.putfield 10, 3) := by decide +kernel
theorem dX7_init_15 : decode cX7_init 15 = .ok (.aload_n 0, 1) := by decide +kernel
theorem dX7_init_16 : decode cX7_init 16 = .ok (.bipush 20, 2) := by decide +kernel
theorem dX7_init_18 : decode cX7_init 18 = .ok (.newarray .boolean, 2) := by decide +kernel
theorem dX7_init_20 : decode cX7_init 20 = .ok (.putfield 16, 3) := by decide +kernel
theorem dX7_init_23 : decode cX7_init 23 = .ok (.aload_n 0, 1) := by decide +kernel
theorem dX7_init_24 : decode cX7_init 24 = .ok (.bipush 12, 2) := by decide +kernel
theorem dX7_init_26 : decode cX7_init 26 = .ok (.newarray .int, 2) := by decide +kernel
theorem dX7_init_28 : decode cX7_init 28 = .ok (.putfield 20, 3) := by decide +kernel
theorem dX7_init_31 : decode cX7_init 31 = .ok (.aload_n 0, 1) := by decide +kernel
theorem dX7_init_32 : decode cX7_init 32 = .ok (.new 24, 3) := by decide +kernel
theorem dX7_init_35 : decode cX7_init 35 = .ok (.dup, 1) := by decide +kernel
theorem dX7_init_36 : decode cX7_init 36 = .ok (.invokespecial 26, 3) := by decide +kernel
theorem dX7_init_39 : decode cX7_init 39 = .ok (.putfield 27, 3) := by decide +kernel
theorem dX7_init_42 : decode cX7_init 42 = .ok (.aload_n 0, 1) := by decide +kernel
theorem dX7_init_43 : decode cX7_init 43 = .ok (.new 31, 3) := by decide +kernel
theorem dX7_init_46 : decode cX7_init 46 = .ok (.dup, 1) := by decide +kernel
theorem dX7_init_47 : decode cX7_init 47 = .ok (.invokespecial 33, 3) := by decide +kernel
theorem dX7_init_50 : decode cX7_init 50 = .ok (.putfield 34, 3) := by decide +kernel
theorem dX7_init_53 : decode cX7_init 53 = .ok (.aload_n 0, 1) := by decide +kernel
theorem dX7_init_54 : decode cX7_init 54 = .ok (.new 38, 3) := by decide +kernel
theorem dX7_init_57 : decode cX7_init 57 = .ok (.dup, 1) := by decide +kernel
theorem dX7_init_58 : decode cX7_init 58 = .ok (.invokespecial 40, 3) := by decide +kernel
theorem dX7_init_61 : decode cX7_init 61 = .ok (.putfield 41, 3) := by decide +kernel
theorem dX7_init_64 : decode cX7_init 64 = .ok (.aload_n 0, 1) := by decide +kernel
theorem dX7_init_65 : decode cX7_init 65 = .ok (.new 45, 3) := by decide +kernel
theorem dX7_init_68 : decode cX7_init 68 = .ok (.dup, 1) := by decide +kernel
theorem dX7_init_69 : decode cX7_init 69 = .ok (.invokespecial 47, 3) := by decide +kernel
theorem dX7_init_72 : decode cX7_init 72 = .ok (.putfield 48, 3) := by decide +kernel
theorem dX7_init_75 : decode cX7_init 75 = .ok (.aload_n 0, 1) := by decide +kernel
theorem dX7_init_76 : decode cX7_init 76 = .ok (.iconst 4, 1) := by decide +kernel
theorem dX7_init_77 : decode cX7_init 77 = .ok (.anewarray 52, 3) := by decide +kernel
theorem dX7_init_80 : decode cX7_init 80 = .ok (.putfield 54, 3) := by decide +kernel
theorem dX7_init_83 : decode cX7_init 83 = .ok (.aload_n 0, 1) := by decide +kernel
theorem dX7_init_84 : decode cX7_init 84 = .ok (.iconst 0, 1) := by decide +kernel
theorem dX7_init_85 : decode cX7_init 85 = .ok (.putfield 58, 3) := by decide +kernel
theorem dX7_init_88 : decode cX7_init 88 = .ok (.iconst 0, 1) := by decide +kernel
theorem dX7_init_89 : decode cX7_init 89 = .ok (.istore_n 1, 1) := by decide +kernel
theorem dX7_init_90 : decode cX7_init 90 = .ok (.iload_n 1, 1) := by decide +kernel
theorem dX7_init_91 : decode cX7_init 91 = .ok (.iconst 4, 1) := by decide +kernel
theorem dX7_init_92 : decode cX7_init 92 = .ok (.if_icmp .ge 22, 3) := by decide +kernel
theorem dX7_init_95 : decode cX7_init 95 = .ok (.aload_n 0, 1) := by decide +kernel
theorem dX7_init_96 : decode cX7_init 96 = .ok (.getfield 54, 3) := by decide +kernel
theorem dX7_init_99 : decode cX7_init 99 = .ok (.iload_n 1, 1) := by decide +kernel
theorem dX7_init_100 : decode cX7_init 100 = .ok (.new 52, 3) := by decide +kernel
theorem dX7_init_103 : decode cX7_init 103 = .ok (.dup, 1) := by decide +kernel
theorem dX7_init_104 : decode cX7_init 104 = .ok (.invokespecial 62, 3) := by decide +kernel
theorem dX7_init_107 : decode cX7_init 107 = .ok (.aastore, 1) := by decide +kernel
theorem dX7_init_108 : decode cX7_init 108 = .ok (.iinc 1 1, 3) := by decide +kernel
theorem dX7_init_111 : decode cX7_init 111 = .ok (.goto (-21), 3) := by decide +kernel
theorem dX7_init_114 : decode cX7_init 114 = .ok (.return_, 1) := by decide +kernel
theorem dX7_turn_0 : decode cX7_turn 0 = .ok (.iload_n 1, 1) := by decide +kernel
theorem dX7_turn_1 : decode cX7_turn 1 = .ok (.iconst 0, 1) := by decide +kernel
theorem dX7_turn_2 : decode cX7_turn 2 = .ok (.bipush 35, 2) := by decide +kernel
theorem dX7_turn_4 : decode cX7_turn 4 = .ok (.invokestatic 65, 3) := by decide +kernel
theorem dX7_turn_7 : decode cX7_turn 7 = .ok (.ifCond .eq 12, 3) := by decide +kernel
theorem dX7_turn_10 : decode cX7_turn 10 = .ok (.iload_n 2, 1) := by decide +kernel
theorem dX7_turn_11 : decode cX7_turn 11 = .ok (.iconst 0, 1) := by decide +kernel
theorem dX7_turn_12 : decode cX7_turn 12 = .ok (.iconst 1, 1) := by decide +kernel
theorem dX7_turn_13 : decode cX7_turn 13 = .ok (.invokestatic 65, 3) := by decide +kernel
theorem dX7_turn_16 : decode cX7_turn 16 = .ok (.ifCond .ne 7, 3) := by decide +kernel
theorem dX7_turn_19 : decode cX7_turn 19 = .ok (.sipush (-1000), 3) := by decide +kernel
theorem dX7_turn_22 : decode cX7_turn 22 = .ok (.ireturn, 1) := by decide +kernel
theorem dX7_turn_23 : decode cX7_turn 23 = .ok (.iload_n 1, 1) := by decide +kernel
theorem dX7_turn_24 : decode cX7_turn 24 = .ok (.iload_n 2, 1) := by decide +kernel
theorem dX7_turn_25 : decode cX7_turn 25 = .ok (.invokestatic 69, 3) := by decide +kernel
theorem dX7_turn_28 : decode cX7_turn 28 = .ok (.ireturn, 1) := by decide +kernel
theorem dX7_length_0 : decode cX7_length 0 = .ok (.iload_n 1, 1) := by decide +kernel
theorem dX7_length_1 : decode cX7_length 1 = .ok (.iconst 0, 1) := by decide +kernel
theorem dX7_length_2 : decode cX7_length 2 = .ok (.iconst 2, 1) := by decide +kernel
theorem dX7_length_3 : decode cX7_length 3 = .ok (.invokestatic 65, 3) := by decide +kernel
theorem dX7_length_6 : decode cX7_length 6 = .ok (.ifCond .eq 14, 3) := by decide +kernel
theorem dX7_length_9 : decode cX7_length 9 = .ok (.iload_n 2, 1) := by decide +kernel
theorem dX7_length_10 : decode cX7_length 10 = .ok (.iconst 1, 1) := by decide +kernel
theorem dX7_length_11 : decode cX7_length 11 = .ok (.sipush 999, 3) := by decide +kernel
theorem dX7_length_14 : decode cX7_length 14 = .ok (.invokestatic 65, 3) := by decide +kernel
theorem dX7_length_17 : decode cX7_length 17 = .ok (.ifCond .ne 6, 3) := by decide +kernel
theorem dX7_length_20 : decode cX7_length 20 = .ok (.bipush (-2), 2) := by decide +kernel
theorem dX7_length_22 : decode cX7_length 22 = .ok (.ireturn, 1) := by decide +kernel
theorem dX7_length_23 : decode cX7_length 23 = .ok (.aload_n 0, 1) := by decide +kernel
theorem dX7_length_24 : decode cX7_length 24 = .ok (.getfield 10, 3) := by decide +kernel
theorem dX7_length_27 : decode cX7_length 27 = .ok (.getfield 73, 3) := by decide +kernel
theorem dX7_length_30 : decode cX7_length 30 = .ok (.iload_n 1, 1) := by decide +kernel
theorem dX7_length_31 : decode cX7_length 31 = .ok (.iaload, 1) := by decide +kernel
theorem dX7_length_32 : decode cX7_length 32 = .ok (.istore_n 3, 1) := by decide +kernel
theorem dX7_length_33 : decode cX7_length 33 = .ok (.aload_n 0, 1) := by decide +kernel
theorem dX7_length_34 : decode cX7_length 34 = .ok (.getfield 10, 3) := by decide +kernel
theorem dX7_length_37 : decode cX7_length 37 = .ok (.getfield 73, 3) := by decide +kernel
theorem dX7_length_40 : decode cX7_length 40 = .ok (.iload_n 1, 1) := by decide +kernel
theorem dX7_length_41 : decode cX7_length 41 = .ok (.iload_n 2, 1) := by decide +kernel
theorem dX7_length_42 : decode cX7_length 42 = .ok (.iastore, 1) := by decide +kernel
theorem dX7_length_43 : decode cX7_length 43 = .ok (.iload_n 3, 1) := by decide +kernel
theorem dX7_length_44 : decode cX7_length 44 = .ok (.ireturn, 1) := by decide +kernel
theorem dX7_posture_0 : decode cX7_posture 0 = .ok (.iload_n 1, 1) := by decide +kernel
theorem dX7_posture_1 : decode cX7_posture 1 = .ok (.iconst 0, 1) := by decide +kernel
theorem dX7_posture_2 : decode cX7_posture 2 = .ok (.bipush 35, 2) := by decide +kernel
theorem dX7_posture_4 : decode cX7_posture 4 = .ok (.invokestatic 65, 3) := by decide +kernel
theorem dX7_posture_7 : decode cX7_posture 7 = .ok (.ifCond .eq 23, 3) := by decide +kernel
theorem dX7_posture_10 : decode cX7_posture 10 = .ok (.iload_n 2, 1) := by decide +kernel
theorem dX7_posture_11 : decode cX7_posture 11 = .ok (.iconst 0, 1) := by decide +kernel
theorem dX7_posture_12 : decode cX7_posture 12 = .ok (.bipush 35, 2) := by decide +kernel
theorem dX7_posture_14 : decode cX7_posture 14 = .ok (.invokestatic 65, 3) := by decide +kernel
theorem dX7_posture_17 : decode cX7_posture 17 = .ok (.ifCond .eq 13, 3) := by decide +kernel
theorem dX7_posture_20 : decode cX7_posture 20 = .ok (.iload_n 3, 1) := by decide +kernel
theorem dX7_posture_21 : decode cX7_posture 21 = .ok (.iconst 0, 1) := by decide +kernel
theorem dX7_posture_22 : decode cX7_posture 22 = .ok (.bipush 35, 2) := by decide +kernel
theorem dX7_posture_24 : decode cX7_posture 24 = .ok (.invokestatic 65, 3) := by decide +kernel
theorem dX7_posture_27 : decode cX7_posture 27 = .ok (.ifCond .ne 6, 3) := by decide +kernel
theorem dX7_posture_30 : decode cX7_posture 30 = .ok (.bipush (-2), 2) := by decide +kernel
theorem dX7_posture_32 : decode cX7_posture 32 = .ok (.ireturn, 1) := by decide +kernel
theorem dX7_posture_33 : decode cX7_posture 33 = .ok (.aload_n 0, 1) := by decide +kernel
theorem dX7_posture_34 : decode cX7_posture 34 = .ok (.getfield 10, 3) := by decide +kernel
theorem dX7_posture_37 : decode cX7_posture 37 = .ok (.getfield 76, 3) := by decide +kernel
theorem dX7_posture_40 : decode cX7_posture 40 = .ok (.bipush 20, 2) := by decide +kernel
theorem dX7_posture_42 : decode cX7_posture 42 = .ok (.if_icmp .lt 6, 3) := by decide +kernel
theorem dX7_posture_45 : decode cX7_posture 45 = .ok (.bipush (-4), 2) := by decide +kernel
theorem dX7_posture_47 : decode cX7_posture 47 = .ok (.ireturn, 1) := by decide +kernel
theorem dX7_posture_48 : decode cX7_posture 48 = .ok (.aload_n 0, 1) := by decide +kernel
theorem dX7_posture_49 : decode cX7_posture 49 = .ok (.getfield 10, 3) := by decide +kernel
theorem dX7_posture_52 : decode cX7_posture 52 = .ok (.iload_n 1, 1) := by decide +kernel
theorem dX7_posture_53 : decode cX7_posture 53 = .ok (.iload_n 2, 1) := by decide +kernel
theorem dX7_posture_54 : decode cX7_posture 54 = .ok (.iload_n 3, 1) := by decide +kernel
theorem dX7_posture_55 : decode cX7_posture 55 = .ok (.invokevirtual 79, 3) := by decide +kernel
theorem dX7_posture_58 : decode cX7_posture 58 = .ok (.ireturn, 1) := by decide +kernel
theorem dX7_clear_0 : decode cX7_clear 0 = .ok (.aload_n 0, 1) := by decide +kernel
theorem dX7_clear_1 : decode cX7_clear 1 = .ok (.getfield 10, 3) := by decide +kernel
theorem dX7_clear_4 : decode cX7_clear 4 = .ok (.getfield 76, 3) := by decide +kernel
theorem dX7_clear_7 : decode cX7_clear 7 = .ok (.istore_n 1, 1) := by decide +kernel
theorem dX7_clear_8 : decode cX7_clear 8 = .ok (.aload_n 0, 1) := by decide +kernel
theorem dX7_clear_9 : decode cX7_clear 9 = .ok (.getfield 10, 3) := by decide +kernel
theorem dX7_clear_12 : decode cX7_clear 12 = .ok (.iconst 0, 1) := by decide +kernel
theorem dX7_clear_13 : decode cX7_clear 13 = .ok (.putfield 76, 3) := by decide +kernel
theorem dX7_clear_16 : decode cX7_clear 16 = .ok (.iconst 0, 1) := by decide +kernel
theorem dX7_clear_17 : decode cX7_clear 17 = .ok (.istore_n 2, 1) := by decide +kernel
theorem dX7_clear_18 : decode cX7_clear 18 = .ok (.iload_n 2, 1) := by decide +kernel
theorem dX7_clear_19 : decode cX7_clear 19 = .ok (.bipush 20, 2) := by decide +kernel
theorem dX7_clear_21 : decode cX7_clear 21 = .ok (.if_icmp .ge 16, 3) := by decide +kernel
theorem dX7_clear_24 : decode cX7_clear 24 = .ok (.aload_n 0, 1) := by decide +kernel
theorem dX7_clear_25 : decode cX7_clear 25 = .ok (.getfield 16, 3) := by decide +kernel
theorem dX7_clear_28 : decode cX7_clear 28 = .ok (.iload_n 2, 1) := by decide +kernel
theorem dX7_clear_29 : decode cX7_clear 29 = .ok (.iconst 0, 1) := by decide +kernel
theorem dX7_clear_30 : decode cX7_clear 30 = .ok (.bastore, 1) := by decide +kernel
theorem dX7_clear_31 : decode cX7_clear 31 = .ok (.iinc 2 1, 3) := by decide +kernel
theorem dX7_clear_34 : decode cX7_clear 34 = .ok (.goto (-16), 3) := by decide +kernel
theorem dX7_clear_37 : decode cX7_clear 37 = .ok (.iload_n 1, 1) := by decide +kernel
theorem dX7_clear_38 : decode cX7_clear 38 = .ok (.ireturn, 1) := by decide +kernel
theorem dX7_hand_0 : decode cX7_hand 0 = .ok (.aload_n 0, 1) := by decide +kernel
theorem dX7_hand_1 : decode cX7_hand 1 = .ok (.iload_n 1, 1) := by decide +kernel
theorem dX7_hand_2 : decode cX7_hand 2 = .ok (.invokevirtual 83, 3) := by decide +kernel
theorem dX7_hand_5 : decode cX7_hand 5 = .ok (.ifCond .eq 12, 3) := by decide +kernel
theorem dX7_hand_8 : decode cX7_hand 8 = .ok (.iload_n 2, 1) := by decide +kernel
theorem dX7_hand_9 : decode cX7_hand 9 = .ok (.iconst 0, 1) := by decide +kernel
theorem dX7_hand_10 : decode cX7_hand 10 = .ok (.iconst 1, 1) := by decide +kernel
theorem dX7_hand_11 : decode cX7_hand 11 = .ok (.invokestatic 65, 3) := by decide +kernel
theorem dX7_hand_14 : decode cX7_hand 14 = .ok (.ifCond .ne 6, 3) := by decide +kernel
theorem dX7_hand_17 : decode cX7_hand 17 = .ok (.ldc 87, 2) := by decide +kernel
theorem dX7_hand_19 : decode cX7_hand 19 = .ok (.ireturn, 1) := by decide +kernel
theorem dX7_hand_20 : decode cX7_hand 20 = .ok (.aload_n 0, 1) := by decide +kernel
theorem dX7_hand_21 : decode cX7_hand 21 = .ok (.getfield 10, 3) := by decide +kernel
theorem dX7_hand_24 : decode cX7_hand 24 = .ok (.iload_n 1, 1) := by decide +kernel
theorem dX7_hand_25 : decode cX7_hand 25 = .ok (.iload_n 2, 1) := by decide +kernel
theorem dX7_hand_26 : decode cX7_hand 26 = .ok (.invokevirtual 88, 3) := by decide +kernel
theorem dX7_hand_29 : decode cX7_hand 29 = .ok (.ireturn, 1) := by decide +kernel
theorem dX7_mend_0 : decode cX7_mend 0 = .ok (.aload_n 0, 1) := by decide +kernel
theorem dX7_mend_1 : decode cX7_mend 1 = .ok (.invokevirtual 91, 3) := by decide +kernel
theorem dX7_mend_4 : decode cX7_mend 4 = .ok (.aload_n 0, 1) := by decide +kernel
theorem dX7_mend_5 : decode cX7_mend 5 = .ok (.getfield 27, 3) := by decide +kernel
theorem dX7_mend_8 : decode cX7_mend 8 = .ok (.invokevirtual 94, 3) := by decide +kernel
theorem dX7_mend_11 : decode cX7_mend 11 = .ok (.iconst 3, 1) := by decide +kernel
theorem dX7_mend_12 : decode cX7_mend 12 = .ok (.if_icmp .ge 6, 3) := by decide +kernel
theorem dX7_mend_15 : decode cX7_mend 15 = .ok (.bipush (-3), 2) := by decide +kernel
theorem dX7_mend_17 : decode cX7_mend 17 = .ok (.ireturn, 1) := by decide +kernel
theorem dX7_mend_18 : decode cX7_mend 18 = .ok (.iconst 0, 1) := by decide +kernel
theorem dX7_mend_19 : decode cX7_mend 19 = .ok (.istore_n 1, 1) := by decide +kernel
theorem dX7_mend_20 : decode cX7_mend 20 = .ok (.iload_n 1, 1) := by decide +kernel
theorem dX7_mend_21 : decode cX7_mend 21 = .ok (.iconst 3, 1) := by decide +kernel
theorem dX7_mend_22 : decode cX7_mend 22 = .ok (.if_icmp .ge 49, 3) := by decide +kernel
theorem dX7_mend_25 : decode cX7_mend 25 = .ok (.aload_n 0, 1) := by decide +kernel
theorem dX7_mend_26 : decode cX7_mend 26 = .ok (.getfield 27, 3) := by decide +kernel
theorem dX7_mend_29 : decode cX7_mend 29 = .ok (.iload_n 1, 1) := by decide +kernel
theorem dX7_mend_30 : decode cX7_mend 30 = .ok (.invokevirtual 98, 3) := by decide +kernel
theorem dX7_mend_33 : decode cX7_mend 33 = .ok (.ldc2_w 102, 3) := by decide +kernel
theorem dX7_mend_36 : decode cX7_mend 36 = .ok (.ladd, 1) := by decide +kernel
theorem dX7_mend_37 : decode cX7_mend 37 = .ok (.ldc2_w 104, 3) := by decide +kernel
theorem dX7_mend_40 : decode cX7_mend 40 = .ok (.invokestatic 106, 3) := by decide +kernel
theorem dX7_mend_43 : decode cX7_mend 43 = .ok (.lstore_n 2, 1) := by decide +kernel
theorem dX7_mend_44 : decode cX7_mend 44 = .ok (.aload_n 0, 1) := by decide +kernel
theorem dX7_mend_45 : decode cX7_mend 45 = .ok (.getfield 10, 3) := by decide +kernel
theorem dX7_mend_48 : decode cX7_mend 48 = .ok (.getfield 73, 3) := by decide +kernel
theorem dX7_mend_51 : decode cX7_mend 51 = .ok (.iload_n 1, 1) := by decide +kernel
theorem dX7_mend_52 : decode cX7_mend 52 = .ok (.lconst 1, 1) := by decide +kernel
theorem dX7_mend_53 : decode cX7_mend 53 = .ok (.ldc2_w 112, 3) := by decide +kernel
theorem dX7_mend_56 : decode cX7_mend 56 = .ok (.lload_n 2, 1) := by decide +kernel
theorem dX7_mend_57 : decode cX7_mend 57 = .ok (.invokestatic 114, 3) := by decide +kernel
theorem dX7_mend_60 : decode cX7_mend 60 = .ok (.invokestatic 117, 3) := by decide +kernel
theorem dX7_mend_63 : decode cX7_mend 63 = .ok (.l2i, 1) := by decide +kernel
theorem dX7_mend_64 : decode cX7_mend 64 = .ok (.iastore, 1) := by decide +kernel
theorem dX7_mend_65 : decode cX7_mend 65 = .ok (.iinc 1 1, 3) := by decide +kernel
theorem dX7_mend_68 : decode cX7_mend 68 = .ok (.goto (-48), 3) := by decide +kernel
theorem dX7_mend_71 : decode cX7_mend 71 = .ok (.iconst 1, 1) := by decide +kernel
theorem dX7_mend_72 : decode cX7_mend 72 = .ok (.ireturn, 1) := by decide +kernel
theorem dX7_measure_0 : decode cX7_measure 0 = .ok (.aload_n 0, 1) := by decide +kernel
theorem dX7_measure_1 : decode cX7_measure 1 = .ok (.iload_n 1, 1) := by decide +kernel
theorem dX7_measure_2 : decode cX7_measure 2 = .ok (.invokevirtual 83, 3) := by decide +kernel
theorem dX7_measure_5 : decode cX7_measure 5 = .ok (.ifCond .eq 12, 3) := by decide +kernel
theorem dX7_measure_8 : decode cX7_measure 8 = .ok (.iload_n 2, 1) := by decide +kernel
theorem dX7_measure_9 : decode cX7_measure 9 = .ok (.iconst 0, 1) := by decide +kernel
theorem dX7_measure_10 : decode cX7_measure 10 = .ok (.iconst 1, 1) := by decide +kernel
theorem dX7_measure_11 : decode cX7_measure 11 = .ok (.invokestatic 65, 3) := by decide +kernel
theorem dX7_measure_14 : decode cX7_measure 14 = .ok (.ifCond .ne 7, 3) := by decide +kernel
theorem dX7_measure_17 : decode cX7_measure 17 = .ok (.sipush (-10000), 3) := by decide +kernel
theorem dX7_measure_20 : decode cX7_measure 20 = .ok (.ireturn, 1) := by decide +kernel
theorem dX7_measure_21 : decode cX7_measure 21 = .ok (.aload_n 0, 1) := by decide +kernel
theorem dX7_measure_22 : decode cX7_measure 22 = .ok (.iload_n 1, 1) := by decide +kernel
theorem dX7_measure_23 : decode cX7_measure 23 = .ok (.invokevirtual 120, 3) := by decide +kernel
theorem dX7_measure_26 : decode cX7_measure 26 = .ok (.ifCond .eq 12, 3) := by decide +kernel
theorem dX7_measure_29 : decode cX7_measure 29 = .ok (.aload_n 0, 1) := by decide +kernel
theorem dX7_measure_30 : decode cX7_measure 30 = .ok (.iload_n 1, 1) := by decide +kernel
theorem dX7_measure_31 : decode cX7_measure 31 = .ok (.iload_n 2, 1) := by decide +kernel
theorem dX7_measure_32 : decode cX7_measure 32 = .ok (.invokevirtual 123, 3) := by decide +kernel
theorem dX7_measure_35 : decode cX7_measure 35 = .ok (.goto 6, 3) := by decide +kernel
theorem dX7_measure_38 : decode cX7_measure 38 = .ok (.sipush (-10001), 3) := by decide +kernel
theorem dX7_measure_41 : decode cX7_measure 41 = .ok (.ireturn, 1) := by decide +kernel
theorem dX7_leave_0 : decode cX7_leave 0 = .ok (.aload_n 0, 1) := by decide +kernel
theorem dX7_leave_1 : decode cX7_leave 1 = .ok (.iload_n 1, 1) := by decide +kernel
theorem dX7_leave_2 : decode cX7_leave 2 = .ok (.invokevirtual 83, 3) := by decide +kernel
theorem dX7_leave_5 : decode cX7_leave 5 = .ok (.ifCond .ne 6, 3) := by decide +kernel
theorem dX7_leave_8 : decode cX7_leave 8 = .ok (.bipush (-2), 2) := by decide +kernel
theorem dX7_leave_10 : decode cX7_leave 10 = .ok (.ireturn, 1) := by decide +kernel
theorem dX7_leave_11 : decode cX7_leave 11 = .ok (.aload_n 0, 1) := by decide +kernel
theorem dX7_leave_12 : decode cX7_leave 12 = .ok (.getfield 16, 3) := by decide +kernel
theorem dX7_leave_15 : decode cX7_leave 15 = .ok (.iload_n 1, 1) := by decide +kernel
theorem dX7_leave_16 : decode cX7_leave 16 = .ok (.iload_n 2, 1) := by decide +kernel
theorem dX7_leave_17 : decode cX7_leave 17 = .ok (.bastore, 1) := by decide +kernel
theorem dX7_leave_18 : decode cX7_leave 18 = .ok (.iconst 1, 1) := by decide +kernel
theorem dX7_leave_19 : decode cX7_leave 19 = .ok (.ireturn, 1) := by decide +kernel
theorem dX7_used_0 : decode cX7_used 0 = .ok (.aload_n 0, 1) := by decide +kernel
theorem dX7_used_1 : decode cX7_used 1 = .ok (.invokevirtual 126, 3) := by decide +kernel
theorem dX7_used_4 : decode cX7_used 4 = .ok (.ireturn, 1) := by decide +kernel
theorem dX7_table_0 : decode cX7_table 0 = .ok (.iload_n 1, 1) := by decide +kernel
theorem dX7_table_1 : decode cX7_table 1 = .ok (.iconst 0, 1) := by decide +kernel
theorem dX7_table_2 : decode cX7_table 2 = .ok (.iconst 2, 1) := by decide +kernel
theorem dX7_table_3 : decode cX7_table 3 = .ok (.invokestatic 65, 3) := by decide +kernel
theorem dX7_table_6 : decode cX7_table 6 = .ok (.ifCond .eq 12, 3) := by decide +kernel
theorem dX7_table_9 : decode cX7_table 9 = .ok (.iload_n 2, 1) := by decide +kernel
theorem dX7_table_10 : decode cX7_table 10 = .ok (.iconst 0, 1) := by decide +kernel
theorem dX7_table_11 : decode cX7_table 11 = .ok (.iconst 2, 1) := by decide +kernel
theorem dX7_table_12 : decode cX7_table 12 = .ok (.invokestatic 65, 3) := by decide +kernel
theorem dX7_table_15 : decode cX7_table 15 = .ok (.ifCond .ne 7, 3) := by decide +kernel
theorem dX7_table_18 : decode cX7_table 18 = .ok (.ldc2_w 129, 3) := by decide +kernel
theorem dX7_table_21 : decode cX7_table 21 = .ok (.lreturn, 1) := by decide +kernel
theorem dX7_table_22 : decode cX7_table 22 = .ok (.aload_n 0, 1) := by decide +kernel
theorem dX7_table_23 : decode cX7_table 23 = .ok (.invokevirtual 91, 3) := by decide +kernel
theorem dX7_table_26 : decode cX7_table 26 = .ok (.aload_n 0, 1) := by decide +kernel
theorem dX7_table_27 : decode cX7_table 27 = .ok (.getfield 27, 3) := by decide +kernel
theorem dX7_table_30 : decode cX7_table 30 = .ok (.getfield 131, 3) := by decide +kernel
theorem dX7_table_33 : decode cX7_table 33 = .ok (.iconst 3, 1) := by decide +kernel
theorem dX7_table_34 : decode cX7_table 34 = .ok (.iload_n 1, 1) := by decide +kernel
theorem dX7_table_35 : decode cX7_table 35 = .ok (.imul, 1) := by decide +kernel
theorem dX7_table_36 : decode cX7_table 36 = .ok (.iload_n 2, 1) := by decide +kernel
theorem dX7_table_37 : decode cX7_table 37 = .ok (.iadd, 1) := by decide +kernel
theorem dX7_table_38 : decode cX7_table 38 = .ok (.laload, 1) := by decide +kernel
theorem dX7_table_39 : decode cX7_table 39 = .ok (.lreturn, 1) := by decide +kernel
theorem dX7_rank_0 : decode cX7_rank 0 = .ok (.aload_n 0, 1) := by decide +kernel
theorem dX7_rank_1 : decode cX7_rank 1 = .ok (.invokevirtual 91, 3) := by decide +kernel
theorem dX7_rank_4 : decode cX7_rank 4 = .ok (.aload_n 0, 1) := by decide +kernel
theorem dX7_rank_5 : decode cX7_rank 5 = .ok (.getfield 27, 3) := by decide +kernel
theorem dX7_rank_8 : decode cX7_rank 8 = .ok (.invokevirtual 94, 3) := by decide +kernel
theorem dX7_rank_11 : decode cX7_rank 11 = .ok (.ireturn, 1) := by decide +kernel
theorem dX7_told_0 : decode cX7_told 0 = .ok (.iload_n 1, 1) := by decide +kernel
theorem dX7_told_1 : decode cX7_told 1 = .ok (.iconst 0, 1) := by decide +kernel
theorem dX7_told_2 : decode cX7_told 2 = .ok (.iconst 2, 1) := by decide +kernel
theorem dX7_told_3 : decode cX7_told 3 = .ok (.invokestatic 65, 3) := by decide +kernel
theorem dX7_told_6 : decode cX7_told 6 = .ok (.ifCond .ne 6, 3) := by decide +kernel
theorem dX7_told_9 : decode cX7_told 9 = .ok (.bipush (-2), 2) := by decide +kernel
theorem dX7_told_11 : decode cX7_told 11 = .ok (.ireturn, 1) := by decide +kernel
theorem dX7_told_12 : decode cX7_told 12 = .ok (.aload_n 0, 1) := by decide +kernel
theorem dX7_told_13 : decode cX7_told 13 = .ok (.invokevirtual 91, 3) := by decide +kernel
theorem dX7_told_16 : decode cX7_told 16 = .ok (.aload_n 0, 1) := by decide +kernel
theorem dX7_told_17 : decode cX7_told 17 = .ok (.getfield 27, 3) := by decide +kernel
theorem dX7_told_20 : decode cX7_told 20 = .ok (.iload_n 1, 1) := by decide +kernel
theorem dX7_told_21 : decode cX7_told 21 = .ok (.invokevirtual 135, 3) := by decide +kernel
theorem dX7_told_24 : decode cX7_told 24 = .ok (.ifCond .eq 7, 3) := by decide +kernel
theorem dX7_told_27 : decode cX7_told 27 = .ok (.iconst 1, 1) := by decide +kernel
theorem dX7_told_28 : decode cX7_told 28 = .ok (.goto 4, 3) := by decide +kernel
theorem dX7_told_31 : decode cX7_told 31 = .ok (.iconst 0, 1) := by decide +kernel
theorem dX7_told_32 : decode cX7_told 32 = .ok (.ireturn, 1) := by decide +kernel
theorem dX7_fit_0 : decode cX7_fit 0 = .ok (.iload_n 1, 1) := by decide +kernel
theorem dX7_fit_1 : decode cX7_fit 1 = .ok (.iconst 0, 1) := by decide +kernel
theorem dX7_fit_2 : decode cX7_fit 2 = .ok (.iconst 2, 1) := by decide +kernel
theorem dX7_fit_3 : decode cX7_fit 3 = .ok (.invokestatic 65, 3) := by decide +kernel
theorem dX7_fit_6 : decode cX7_fit 6 = .ok (.ifCond .ne 7, 3) := by decide +kernel
theorem dX7_fit_9 : decode cX7_fit 9 = .ok (.ldc2_w 129, 3) := by decide +kernel
theorem dX7_fit_12 : decode cX7_fit 12 = .ok (.lreturn, 1) := by decide +kernel
theorem dX7_fit_13 : decode cX7_fit 13 = .ok (.aload_n 0, 1) := by decide +kernel
theorem dX7_fit_14 : decode cX7_fit 14 = .ok (.invokevirtual 91, 3) := by decide +kernel
theorem dX7_fit_17 : decode cX7_fit 17 = .ok (.aload_n 0, 1) := by decide +kernel
theorem dX7_fit_18 : decode cX7_fit 18 = .ok (.getfield 27, 3) := by decide +kernel
theorem dX7_fit_21 : decode cX7_fit 21 = .ok (.invokevirtual 94, 3) := by decide +kernel
theorem dX7_fit_24 : decode cX7_fit 24 = .ok (.iconst 3, 1) := by decide +kernel
theorem dX7_fit_25 : decode cX7_fit 25 = .ok (.if_icmp .ge 7, 3) := by decide +kernel
theorem dX7_fit_28 : decode cX7_fit 28 = .ok (.ldc2_w 138, 3) := by decide +kernel
theorem dX7_fit_31 : decode cX7_fit 31 = .ok (.lreturn, 1) := by decide +kernel
theorem dX7_fit_32 : decode cX7_fit 32 = .ok (.aload_n 0, 1) := by decide +kernel
theorem dX7_fit_33 : decode cX7_fit 33 = .ok (.getfield 27, 3) := by decide +kernel
theorem dX7_fit_36 : decode cX7_fit 36 = .ok (.iload_n 1, 1) := by decide +kernel
theorem dX7_fit_37 : decode cX7_fit 37 = .ok (.invokevirtual 98, 3) := by decide +kernel
theorem dX7_fit_40 : decode cX7_fit 40 = .ok (.lreturn, 1) := by decide +kernel
theorem dX7_miss_0 : decode cX7_miss 0 = .ok (.aload_n 0, 1) := by decide +kernel
theorem dX7_miss_1 : decode cX7_miss 1 = .ok (.iload_n 1, 1) := by decide +kernel
theorem dX7_miss_2 : decode cX7_miss 2 = .ok (.invokevirtual 83, 3) := by decide +kernel
end
section
theorem dX7_miss_5 : decode cX7_miss 5 = .ok (.ifCond .ne 6, 3) := by decide +kernel
theorem dX7_miss_8 : decode cX7_miss 8 = .ok (.bipush (-2), 2) := by decide +kernel
theorem dX7_miss_10 : decode cX7_miss 10 = .ok (.ireturn, 1) := by decide +kernel
theorem dX7_miss_11 : decode cX7_miss 11 = .ok (.aload_n 0, 1) := by decide +kernel
theorem dX7_miss_12 : decode cX7_miss 12 = .ok (.iload_n 1, 1) := by decide +kernel
theorem dX7_miss_13 : decode cX7_miss 13 = .ok (.invokevirtual 120, 3) := by decide +kernel
theorem dX7_miss_16 : decode cX7_miss 16 = .ok (.ifCond .eq 11, 3) := by decide +kernel
theorem dX7_miss_19 : decode cX7_miss 19 = .ok (.aload_n 0, 1) := by decide +kernel
theorem dX7_miss_20 : decode cX7_miss 20 = .ok (.iload_n 1, 1) := by decide +kernel
theorem dX7_miss_21 : decode cX7_miss 21 = .ok (.invokevirtual 140, 3) := by decide +kernel
theorem dX7_miss_24 : decode cX7_miss 24 = .ok (.goto 5, 3) := by decide +kernel
theorem dX7_miss_27 : decode cX7_miss 27 = .ok (.bipush (-3), 2) := by decide +kernel
theorem dX7_miss_29 : decode cX7_miss 29 = .ok (.ireturn, 1) := by decide +kernel
theorem dX7_worst_0 : decode cX7_worst 0 = .ok (.aload_n 0, 1) := by decide +kernel
theorem dX7_worst_1 : decode cX7_worst 1 = .ok (.invokevirtual 126, 3) := by decide +kernel
theorem dX7_worst_4 : decode cX7_worst 4 = .ok (.istore_n 1, 1) := by decide +kernel
theorem dX7_worst_5 : decode cX7_worst 5 = .ok (.iconst (-1), 1) := by decide +kernel
theorem dX7_worst_6 : decode cX7_worst 6 = .ok (.istore_n 2, 1) := by decide +kernel
theorem dX7_worst_7 : decode cX7_worst 7 = .ok (.iconst (-1), 1) := by decide +kernel
theorem dX7_worst_8 : decode cX7_worst 8 = .ok (.istore_n 3, 1) := by decide +kernel
theorem dX7_worst_9 : decode cX7_worst 9 = .ok (.iconst 0, 1) := by decide +kernel
theorem dX7_worst_10 : decode cX7_worst 10 = .ok (.istore 4, 2) := by decide +kernel
theorem dX7_worst_12 : decode cX7_worst 12 = .ok (.iload 4, 2) := by decide +kernel
theorem dX7_worst_14 : decode cX7_worst 14 = .ok (.iload_n 1, 1) := by decide +kernel
theorem dX7_worst_15 : decode cX7_worst 15 = .ok (.if_icmp .ge 39, 3) := by decide +kernel
theorem dX7_worst_18 : decode cX7_worst 18 = .ok (.aload_n 0, 1) := by decide +kernel
theorem dX7_worst_19 : decode cX7_worst 19 = .ok (.aload_n 0, 1) := by decide +kernel
theorem dX7_worst_20 : decode cX7_worst 20 = .ok (.getfield 20, 3) := by decide +kernel
theorem dX7_worst_23 : decode cX7_worst 23 = .ok (.iload 4, 2) := by decide +kernel
theorem dX7_worst_25 : decode cX7_worst 25 = .ok (.iaload, 1) := by decide +kernel
theorem dX7_worst_26 : decode cX7_worst 26 = .ok (.invokevirtual 140, 3) := by decide +kernel
theorem dX7_worst_29 : decode cX7_worst 29 = .ok (.istore 5, 2) := by decide +kernel
theorem dX7_worst_31 : decode cX7_worst 31 = .ok (.iload 5, 2) := by decide +kernel
theorem dX7_worst_33 : decode cX7_worst 33 = .ok (.iload_n 3, 1) := by decide +kernel
theorem dX7_worst_34 : decode cX7_worst 34 = .ok (.if_icmp .le 14, 3) := by decide +kernel
theorem dX7_worst_37 : decode cX7_worst 37 = .ok (.iload 5, 2) := by decide +kernel
theorem dX7_worst_39 : decode cX7_worst 39 = .ok (.istore_n 3, 1) := by decide +kernel
theorem dX7_worst_40 : decode cX7_worst 40 = .ok (.aload_n 0, 1) := by decide +kernel
theorem dX7_worst_41 : decode cX7_worst 41 = .ok (.getfield 20, 3) := by decide +kernel
theorem dX7_worst_44 : decode cX7_worst 44 = .ok (.iload 4, 2) := by decide +kernel
theorem dX7_worst_46 : decode cX7_worst 46 = .ok (.iaload, 1) := by decide +kernel
theorem dX7_worst_47 : decode cX7_worst 47 = .ok (.istore_n 2, 1) := by decide +kernel
theorem dX7_worst_48 : decode cX7_worst 48 = .ok (.iinc 4 1, 3) := by decide +kernel
theorem dX7_worst_51 : decode cX7_worst 51 = .ok (.goto (-39), 3) := by decide +kernel
theorem dX7_worst_54 : decode cX7_worst 54 = .ok (.iload_n 2, 1) := by decide +kernel
theorem dX7_worst_55 : decode cX7_worst 55 = .ok (.ireturn, 1) := by decide +kernel
theorem dX7_best_0 : decode cX7_best 0 = .ok (.iload_n 1, 1) := by decide +kernel
theorem dX7_best_1 : decode cX7_best 1 = .ok (.iconst 1, 1) := by decide +kernel
theorem dX7_best_2 : decode cX7_best 2 = .ok (.iconst 4, 1) := by decide +kernel
theorem dX7_best_3 : decode cX7_best 3 = .ok (.invokestatic 65, 3) := by decide +kernel
theorem dX7_best_6 : decode cX7_best 6 = .ok (.ifCond .ne 6, 3) := by decide +kernel
theorem dX7_best_9 : decode cX7_best 9 = .ok (.bipush (-2), 2) := by decide +kernel
theorem dX7_best_11 : decode cX7_best 11 = .ok (.ireturn, 1) := by decide +kernel
theorem dX7_best_12 : decode cX7_best 12 = .ok (.aload_n 0, 1) := by decide +kernel
theorem dX7_best_13 : decode cX7_best 13 = .ok (.getfield 10, 3) := by decide +kernel
theorem dX7_best_16 : decode cX7_best 16 = .ok (.getfield 76, 3) := by decide +kernel
theorem dX7_best_19 : decode cX7_best 19 = .ok (.iload_n 1, 1) := by decide +kernel
theorem dX7_best_20 : decode cX7_best 20 = .ok (.if_icmp .ge 6, 3) := by decide +kernel
theorem dX7_best_23 : decode cX7_best 23 = .ok (.bipush (-3), 2) := by decide +kernel
theorem dX7_best_25 : decode cX7_best 25 = .ok (.ireturn, 1) := by decide +kernel
theorem dX7_best_26 : decode cX7_best 26 = .ok (.iconst (-1), 1) := by decide +kernel
theorem dX7_best_27 : decode cX7_best 27 = .ok (.istore_n 2, 1) := by decide +kernel
theorem dX7_best_28 : decode cX7_best 28 = .ok (.lconst 0, 1) := by decide +kernel
theorem dX7_best_29 : decode cX7_best 29 = .ok (.lstore_n 3, 1) := by decide +kernel
theorem dX7_best_30 : decode cX7_best 30 = .ok (.aload_n 0, 1) := by decide +kernel
theorem dX7_best_31 : decode cX7_best 31 = .ok (.invokevirtual 144, 3) := by decide +kernel
theorem dX7_best_34 : decode cX7_best 34 = .ok (.istore 5, 2) := by decide +kernel
theorem dX7_best_36 : decode cX7_best 36 = .ok (.iconst 1, 1) := by decide +kernel
theorem dX7_best_37 : decode cX7_best 37 = .ok (.istore 6, 2) := by decide +kernel
theorem dX7_best_39 : decode cX7_best 39 = .ok (.iload 6, 2) := by decide +kernel
theorem dX7_best_41 : decode cX7_best 41 = .ok (.iload 5, 2) := by decide +kernel
theorem dX7_best_43 : decode cX7_best 43 = .ok (.if_icmp .ge 39, 3) := by decide +kernel
theorem dX7_best_46 : decode cX7_best 46 = .ok (.iload 6, 2) := by decide +kernel
theorem dX7_best_48 : decode cX7_best 48 = .ok (.invokestatic 147, 3) := by decide +kernel
theorem dX7_best_51 : decode cX7_best 51 = .ok (.iload_n 1, 1) := by decide +kernel
theorem dX7_best_52 : decode cX7_best 52 = .ok (.if_icmp .ne 24, 3) := by decide +kernel
theorem dX7_best_55 : decode cX7_best 55 = .ok (.aload_n 0, 1) := by decide +kernel
theorem dX7_best_56 : decode cX7_best 56 = .ok (.iload 6, 2) := by decide +kernel
theorem dX7_best_58 : decode cX7_best 58 = .ok (.invokevirtual 152, 3) := by decide +kernel
theorem dX7_best_61 : decode cX7_best 61 = .ok (.lstore 7, 2) := by decide +kernel
theorem dX7_best_63 : decode cX7_best 63 = .ok (.lload 7, 2) := by decide +kernel
theorem dX7_best_65 : decode cX7_best 65 = .ok (.lload_n 3, 1) := by decide +kernel
theorem dX7_best_66 : decode cX7_best 66 = .ok (.lcmp, 1) := by decide +kernel
theorem dX7_best_67 : decode cX7_best 67 = .ok (.ifCond .le 9, 3) := by decide +kernel
theorem dX7_best_70 : decode cX7_best 70 = .ok (.lload 7, 2) := by decide +kernel
theorem dX7_best_72 : decode cX7_best 72 = .ok (.lstore_n 3, 1) := by decide +kernel
theorem dX7_best_73 : decode cX7_best 73 = .ok (.iload 6, 2) := by decide +kernel
theorem dX7_best_75 : decode cX7_best 75 = .ok (.istore_n 2, 1) := by decide +kernel
theorem dX7_best_76 : decode cX7_best 76 = .ok (.iinc 6 1, 3) := by decide +kernel
theorem dX7_best_79 : decode cX7_best 79 = .ok (.goto (-40), 3) := by decide +kernel
theorem dX7_best_82 : decode cX7_best 82 = .ok (.iload_n 2, 1) := by decide +kernel
theorem dX7_best_83 : decode cX7_best 83 = .ok (.ireturn, 1) := by decide +kernel
theorem dX7_weight_0 : decode cX7_weight 0 = .ok (.iload_n 1, 1) := by decide +kernel
theorem dX7_weight_1 : decode cX7_weight 1 = .ok (.iconst 0, 1) := by decide +kernel
theorem dX7_weight_2 : decode cX7_weight 2 = .ok (.aload_n 0, 1) := by decide +kernel
theorem dX7_weight_3 : decode cX7_weight 3 = .ok (.invokevirtual 144, 3) := by decide +kernel
theorem dX7_weight_6 : decode cX7_weight 6 = .ok (.iconst 1, 1) := by decide +kernel
theorem dX7_weight_7 : decode cX7_weight 7 = .ok (.isub, 1) := by decide +kernel
theorem dX7_weight_8 : decode cX7_weight 8 = .ok (.invokestatic 65, 3) := by decide +kernel
theorem dX7_weight_11 : decode cX7_weight 11 = .ok (.ifCond .ne 7, 3) := by decide +kernel
theorem dX7_weight_14 : decode cX7_weight 14 = .ok (.ldc2_w 129, 3) := by decide +kernel
theorem dX7_weight_17 : decode cX7_weight 17 = .ok (.lreturn, 1) := by decide +kernel
theorem dX7_weight_18 : decode cX7_weight 18 = .ok (.aload_n 0, 1) := by decide +kernel
theorem dX7_weight_19 : decode cX7_weight 19 = .ok (.iload_n 1, 1) := by decide +kernel
theorem dX7_weight_20 : decode cX7_weight 20 = .ok (.invokevirtual 152, 3) := by decide +kernel
theorem dX7_weight_23 : decode cX7_weight 23 = .ok (.lreturn, 1) := by decide +kernel
theorem dX7_pair_0 : decode cX7_pair 0 = .ok (.iload_n 1, 1) := by decide +kernel
theorem dX7_pair_1 : decode cX7_pair 1 = .ok (.invokestatic 155, 3) := by decide +kernel
theorem dX7_pair_4 : decode cX7_pair 4 = .ok (.ifCond .eq 25, 3) := by decide +kernel
theorem dX7_pair_7 : decode cX7_pair 7 = .ok (.iload_n 2, 1) := by decide +kernel
theorem dX7_pair_8 : decode cX7_pair 8 = .ok (.invokestatic 155, 3) := by decide +kernel
theorem dX7_pair_11 : decode cX7_pair 11 = .ok (.ifCond .eq 18, 3) := by decide +kernel
theorem dX7_pair_14 : decode cX7_pair 14 = .ok (.iload_n 3, 1) := by decide +kernel
theorem dX7_pair_15 : decode cX7_pair 15 = .ok (.invokestatic 155, 3) := by decide +kernel
theorem dX7_pair_18 : decode cX7_pair 18 = .ok (.ifCond .eq 11, 3) := by decide +kernel
theorem dX7_pair_21 : decode cX7_pair 21 = .ok (.iload 4, 2) := by decide +kernel
theorem dX7_pair_23 : decode cX7_pair 23 = .ok (.invokestatic 155, 3) := by decide +kernel
theorem dX7_pair_26 : decode cX7_pair 26 = .ok (.ifCond .ne 6, 3) := by decide +kernel
theorem dX7_pair_29 : decode cX7_pair 29 = .ok (.bipush (-2), 2) := by decide +kernel
theorem dX7_pair_31 : decode cX7_pair 31 = .ok (.ireturn, 1) := by decide +kernel
theorem dX7_pair_32 : decode cX7_pair 32 = .ok (.aload_n 0, 1) := by decide +kernel
theorem dX7_pair_33 : decode cX7_pair 33 = .ok (.getfield 34, 3) := by decide +kernel
theorem dX7_pair_36 : decode cX7_pair 36 = .ok (.getfield 158, 3) := by decide +kernel
theorem dX7_pair_39 : decode cX7_pair 39 = .ok (.bipush 20, 2) := by decide +kernel
theorem dX7_pair_41 : decode cX7_pair 41 = .ok (.if_icmp .lt 6, 3) := by decide +kernel
theorem dX7_pair_44 : decode cX7_pair 44 = .ok (.bipush (-4), 2) := by decide +kernel
theorem dX7_pair_46 : decode cX7_pair 46 = .ok (.ireturn, 1) := by decide +kernel
theorem dX7_pair_47 : decode cX7_pair 47 = .ok (.aload_n 0, 1) := by decide +kernel
theorem dX7_pair_48 : decode cX7_pair 48 = .ok (.getfield 34, 3) := by decide +kernel
theorem dX7_pair_51 : decode cX7_pair 51 = .ok (.iload_n 1, 1) := by decide +kernel
theorem dX7_pair_52 : decode cX7_pair 52 = .ok (.iload_n 2, 1) := by decide +kernel
theorem dX7_pair_53 : decode cX7_pair 53 = .ok (.iload_n 3, 1) := by decide +kernel
theorem dX7_pair_54 : decode cX7_pair 54 = .ok (.iload 4, 2) := by decide +kernel
theorem dX7_pair_56 : decode cX7_pair 56 = .ok (.invokevirtual 161, 3) := by decide +kernel
theorem dX7_pair_59 : decode cX7_pair 59 = .ok (.ireturn, 1) := by decide +kernel
theorem dX7_shut_0 : decode cX7_shut 0 = .ok (.aload_n 0, 1) := by decide +kernel
theorem dX7_shut_1 : decode cX7_shut 1 = .ok (.getfield 34, 3) := by decide +kernel
theorem dX7_shut_4 : decode cX7_shut 4 = .ok (.getfield 158, 3) := by decide +kernel
theorem dX7_shut_7 : decode cX7_shut 7 = .ok (.istore_n 1, 1) := by decide +kernel
theorem dX7_shut_8 : decode cX7_shut 8 = .ok (.aload_n 0, 1) := by decide +kernel
theorem dX7_shut_9 : decode cX7_shut 9 = .ok (.getfield 34, 3) := by decide +kernel
theorem dX7_shut_12 : decode cX7_shut 12 = .ok (.iconst 0, 1) := by decide +kernel
theorem dX7_shut_13 : decode cX7_shut 13 = .ok (.putfield 158, 3) := by decide +kernel
theorem dX7_shut_16 : decode cX7_shut 16 = .ok (.iload_n 1, 1) := by decide +kernel
theorem dX7_shut_17 : decode cX7_shut 17 = .ok (.ireturn, 1) := by decide +kernel
theorem dX7_answers_0 : decode cX7_answers 0 = .ok (.aload_n 0, 1) := by decide +kernel
theorem dX7_answers_1 : decode cX7_answers 1 = .ok (.getfield 34, 3) := by decide +kernel
theorem dX7_answers_4 : decode cX7_answers 4 = .ok (.invokevirtual 165, 3) := by decide +kernel
theorem dX7_answers_7 : decode cX7_answers 7 = .ok (.ireturn, 1) := by decide +kernel
theorem dX7_answer_0 : decode cX7_answer 0 = .ok (.iload_n 1, 1) := by decide +kernel
theorem dX7_answer_1 : decode cX7_answer 1 = .ok (.ifCond .lt 12, 3) := by decide +kernel
theorem dX7_answer_4 : decode cX7_answer 4 = .ok (.iload_n 2, 1) := by decide +kernel
theorem dX7_answer_5 : decode cX7_answer 5 = .ok (.iconst 0, 1) := by decide +kernel
theorem dX7_answer_6 : decode cX7_answer 6 = .ok (.iconst 2, 1) := by decide +kernel
theorem dX7_answer_7 : decode cX7_answer 7 = .ok (.invokestatic 65, 3) := by decide +kernel
theorem dX7_answer_10 : decode cX7_answer 10 = .ok (.ifCond .ne 6, 3) := by decide +kernel
theorem dX7_answer_13 : decode cX7_answer 13 = .ok (.ldc 87, 2) := by decide +kernel
theorem dX7_answer_15 : decode cX7_answer 15 = .ok (.ireturn, 1) := by decide +kernel
theorem dX7_answer_16 : decode cX7_answer 16 = .ok (.aload_n 0, 1) := by decide +kernel
theorem dX7_answer_17 : decode cX7_answer 17 = .ok (.getfield 34, 3) := by decide +kernel
theorem dX7_answer_20 : decode cX7_answer 20 = .ok (.iload_n 1, 1) := by decide +kernel
theorem dX7_answer_21 : decode cX7_answer 21 = .ok (.invokevirtual 168, 3) := by decide +kernel
theorem dX7_answer_24 : decode cX7_answer 24 = .ok (.istore_n 3, 1) := by decide +kernel
theorem dX7_answer_25 : decode cX7_answer 25 = .ok (.iload_n 3, 1) := by decide +kernel
theorem dX7_answer_26 : decode cX7_answer 26 = .ok (.iconst (-1), 1) := by decide +kernel
theorem dX7_answer_27 : decode cX7_answer 27 = .ok (.if_icmp .ne 6, 3) := by decide +kernel
theorem dX7_answer_30 : decode cX7_answer 30 = .ok (.ldc 87, 2) := by decide +kernel
theorem dX7_answer_32 : decode cX7_answer 32 = .ok (.ireturn, 1) := by decide +kernel
theorem dX7_answer_33 : decode cX7_answer 33 = .ok (.iload_n 2, 1) := by decide +kernel
theorem dX7_answer_34 : decode cX7_answer 34 = .ok (.ifCond .ne 5, 3) := by decide +kernel
theorem dX7_answer_37 : decode cX7_answer 37 = .ok (.iload_n 3, 1) := by decide +kernel
theorem dX7_answer_38 : decode cX7_answer 38 = .ok (.ireturn, 1) := by decide +kernel
theorem dX7_answer_39 : decode cX7_answer 39 = .ok (.aload_n 0, 1) := by decide +kernel
theorem dX7_answer_40 : decode cX7_answer 40 = .ok (.getfield 34, 3) := by decide +kernel
theorem dX7_answer_43 : decode cX7_answer 43 = .ok (.getfield 158, 3) := by decide +kernel
theorem dX7_answer_46 : decode cX7_answer 46 = .ok (.ifCond .ne 8, 3) := by decide +kernel
theorem dX7_answer_49 : decode cX7_answer 49 = .ok (.ldc 171, 2) := by decide +kernel
theorem dX7_answer_51 : decode cX7_answer 51 = .ok (.goto 15, 3) := by decide +kernel
theorem dX7_answer_54 : decode cX7_answer 54 = .ok (.aload_n 0, 1) := by decide +kernel
theorem dX7_answer_55 : decode cX7_answer 55 = .ok (.getfield 34, 3) := by decide +kernel
theorem dX7_answer_58 : decode cX7_answer 58 = .ok (.iload_n 3, 1) := by decide +kernel
theorem dX7_answer_59 : decode cX7_answer 59 = .ok (.iconst 0, 1) := by decide +kernel
theorem dX7_answer_60 : decode cX7_answer 60 = .ok (.iload_n 2, 1) := by decide +kernel
theorem dX7_answer_61 : decode cX7_answer 61 = .ok (.iconst 1, 1) := by decide +kernel
theorem dX7_answer_62 : decode cX7_answer 62 = .ok (.isub, 1) := by decide +kernel
theorem dX7_answer_63 : decode cX7_answer 63 = .ok (.invokevirtual 172, 3) := by decide +kernel
theorem dX7_answer_66 : decode cX7_answer 66 = .ok (.ireturn, 1) := by decide +kernel
theorem dX7_limit_0 : decode cX7_limit 0 = .ok (.iload_n 1, 1) := by decide +kernel
theorem dX7_limit_1 : decode cX7_limit 1 = .ok (.iconst 0, 1) := by decide +kernel
theorem dX7_limit_2 : decode cX7_limit 2 = .ok (.iconst 2, 1) := by decide +kernel
theorem dX7_limit_3 : decode cX7_limit 3 = .ok (.invokestatic 65, 3) := by decide +kernel
theorem dX7_limit_6 : decode cX7_limit 6 = .ok (.ifCond .eq 23, 3) := by decide +kernel
theorem dX7_limit_9 : decode cX7_limit 9 = .ok (.iload_n 2, 1) := by decide +kernel
theorem dX7_limit_10 : decode cX7_limit 10 = .ok (.iconst 0, 1) := by decide +kernel
theorem dX7_limit_11 : decode cX7_limit 11 = .ok (.bipush 35, 2) := by decide +kernel
theorem dX7_limit_13 : decode cX7_limit 13 = .ok (.invokestatic 65, 3) := by decide +kernel
theorem dX7_limit_16 : decode cX7_limit 16 = .ok (.ifCond .eq 13, 3) := by decide +kernel
theorem dX7_limit_19 : decode cX7_limit 19 = .ok (.iload_n 3, 1) := by decide +kernel
theorem dX7_limit_20 : decode cX7_limit 20 = .ok (.iconst 0, 1) := by decide +kernel
theorem dX7_limit_21 : decode cX7_limit 21 = .ok (.bipush 35, 2) := by decide +kernel
theorem dX7_limit_23 : decode cX7_limit 23 = .ok (.invokestatic 65, 3) := by decide +kernel
theorem dX7_limit_26 : decode cX7_limit 26 = .ok (.ifCond .ne 6, 3) := by decide +kernel
theorem dX7_limit_29 : decode cX7_limit 29 = .ok (.bipush (-2), 2) := by decide +kernel
theorem dX7_limit_31 : decode cX7_limit 31 = .ok (.ireturn, 1) := by decide +kernel
theorem dX7_limit_32 : decode cX7_limit 32 = .ok (.aload_n 0, 1) := by decide +kernel
theorem dX7_limit_33 : decode cX7_limit 33 = .ok (.getfield 41, 3) := by decide +kernel
theorem dX7_limit_36 : decode cX7_limit 36 = .ok (.iload_n 1, 1) := by decide +kernel
theorem dX7_limit_37 : decode cX7_limit 37 = .ok (.iload_n 2, 1) := by decide +kernel
theorem dX7_limit_38 : decode cX7_limit 38 = .ok (.iload_n 3, 1) := by decide +kernel
theorem dX7_limit_39 : decode cX7_limit 39 = .ok (.invokevirtual 175, 3) := by decide +kernel
theorem dX7_limit_42 : decode cX7_limit 42 = .ok (.iconst 1, 1) := by decide +kernel
theorem dX7_limit_43 : decode cX7_limit 43 = .ok (.ireturn, 1) := by decide +kernel
theorem dX7_nearest_0 : decode cX7_nearest 0 = .ok (.iload_n 1, 1) := by decide +kernel
theorem dX7_nearest_1 : decode cX7_nearest 1 = .ok (.iload_n 2, 1) := by decide +kernel
theorem dX7_nearest_2 : decode cX7_nearest 2 = .ok (.invokestatic 179, 3) := by decide +kernel
theorem dX7_nearest_5 : decode cX7_nearest 5 = .ok (.ifCond .ne 6, 3) := by decide +kernel
theorem dX7_nearest_8 : decode cX7_nearest 8 = .ok (.bipush (-2), 2) := by decide +kernel
theorem dX7_nearest_10 : decode cX7_nearest 10 = .ok (.ireturn, 1) := by decide +kernel
theorem dX7_nearest_11 : decode cX7_nearest 11 = .ok (.aload_n 0, 1) := by decide +kernel
theorem dX7_nearest_12 : decode cX7_nearest 12 = .ok (.getfield 41, 3) := by decide +kernel
theorem dX7_nearest_15 : decode cX7_nearest 15 = .ok (.aload_n 0, 1) := by decide +kernel
theorem dX7_nearest_16 : decode cX7_nearest 16 = .ok (.getfield 10, 3) := by decide +kernel
theorem dX7_nearest_19 : decode cX7_nearest 19 = .ok (.getfield 73, 3) := by decide +kernel
theorem dX7_nearest_22 : decode cX7_nearest 22 = .ok (.iload_n 1, 1) := by decide +kernel
theorem dX7_nearest_23 : decode cX7_nearest 23 = .ok (.iload_n 2, 1) := by decide +kernel
theorem dX7_nearest_24 : decode cX7_nearest 24 = .ok (.invokevirtual 183, 3) := by decide +kernel
theorem dX7_nearest_27 : decode cX7_nearest 27 = .ok (.aload_n 0, 1) := by decide +kernel
theorem dX7_nearest_28 : decode cX7_nearest 28 = .ok (.getfield 41, 3) := by decide +kernel
theorem dX7_nearest_31 : decode cX7_nearest 31 = .ok (.getfield 187, 3) := by decide +kernel
theorem dX7_nearest_34 : decode cX7_nearest 34 = .ok (.ireturn, 1) := by decide +kernel
theorem dX7_near_0 : decode cX7_near 0 = .ok (.iload_n 1, 1) := by decide +kernel
theorem dX7_near_1 : decode cX7_near 1 = .ok (.iload_n 2, 1) := by decide +kernel
theorem dX7_near_2 : decode cX7_near 2 = .ok (.invokestatic 179, 3) := by decide +kernel
theorem dX7_near_5 : decode cX7_near 5 = .ok (.ifCond .ne 7, 3) := by decide +kernel
theorem dX7_near_8 : decode cX7_near 8 = .ok (.ldc2_w 129, 3) := by decide +kernel
theorem dX7_near_11 : decode cX7_near 11 = .ok (.lreturn, 1) := by decide +kernel
theorem dX7_near_12 : decode cX7_near 12 = .ok (.aload_n 0, 1) := by decide +kernel
theorem dX7_near_13 : decode cX7_near 13 = .ok (.getfield 41, 3) := by decide +kernel
theorem dX7_near_16 : decode cX7_near 16 = .ok (.aload_n 0, 1) := by decide +kernel
theorem dX7_near_17 : decode cX7_near 17 = .ok (.getfield 10, 3) := by decide +kernel
theorem dX7_near_20 : decode cX7_near 20 = .ok (.getfield 73, 3) := by decide +kernel
theorem dX7_near_23 : decode cX7_near 23 = .ok (.iload_n 1, 1) := by decide +kernel
theorem dX7_near_24 : decode cX7_near 24 = .ok (.iload_n 2, 1) := by decide +kernel
theorem dX7_near_25 : decode cX7_near 25 = .ok (.invokevirtual 183, 3) := by decide +kernel
theorem dX7_near_28 : decode cX7_near 28 = .ok (.aload_n 0, 1) := by decide +kernel
theorem dX7_near_29 : decode cX7_near 29 = .ok (.getfield 41, 3) := by decide +kernel
theorem dX7_near_32 : decode cX7_near 32 = .ok (.getfield 190, 3) := by decide +kernel
theorem dX7_near_35 : decode cX7_near 35 = .ok (.lreturn, 1) := by decide +kernel
theorem dX7_drift_0 : decode cX7_drift 0 = .ok (.iload_n 1, 1) := by decide +kernel
theorem dX7_drift_1 : decode cX7_drift 1 = .ok (.invokestatic 194, 3) := by decide +kernel
theorem dX7_drift_4 : decode cX7_drift 4 = .ok (.ifCond .eq 22, 3) := by decide +kernel
theorem dX7_drift_7 : decode cX7_drift 7 = .ok (.iload_n 2, 1) := by decide +kernel
theorem dX7_drift_8 : decode cX7_drift 8 = .ok (.ifCond .lt 18, 3) := by decide +kernel
theorem dX7_drift_11 : decode cX7_drift 11 = .ok (.iload_n 2, 1) := by decide +kernel
theorem dX7_drift_12 : decode cX7_drift 12 = .ok (.iload_n 3, 1) := by decide +kernel
theorem dX7_drift_13 : decode cX7_drift 13 = .ok (.if_icmp .gt 13, 3) := by decide +kernel
theorem dX7_drift_16 : decode cX7_drift 16 = .ok (.iload 4, 2) := by decide +kernel
theorem dX7_drift_18 : decode cX7_drift 18 = .ok (.iconst 0, 1) := by decide +kernel
theorem dX7_drift_19 : decode cX7_drift 19 = .ok (.iconst 2, 1) := by decide +kernel
theorem dX7_drift_20 : decode cX7_drift 20 = .ok (.invokestatic 65, 3) := by decide +kernel
theorem dX7_drift_23 : decode cX7_drift 23 = .ok (.ifCond .ne 6, 3) := by decide +kernel
theorem dX7_drift_26 : decode cX7_drift 26 = .ok (.bipush (-2), 2) := by decide +kernel
theorem dX7_drift_28 : decode cX7_drift 28 = .ok (.ireturn, 1) := by decide +kernel
theorem dX7_drift_29 : decode cX7_drift 29 = .ok (.aload_n 0, 1) := by decide +kernel
theorem dX7_drift_30 : decode cX7_drift 30 = .ok (.getfield 54, 3) := by decide +kernel
theorem dX7_drift_33 : decode cX7_drift 33 = .ok (.iload_n 1, 1) := by decide +kernel
theorem dX7_drift_34 : decode cX7_drift 34 = .ok (.aaload, 1) := by decide +kernel
theorem dX7_drift_35 : decode cX7_drift 35 = .ok (.astore 5, 2) := by decide +kernel
theorem dX7_drift_37 : decode cX7_drift 37 = .ok (.aload 5, 2) := by decide +kernel
theorem dX7_drift_39 : decode cX7_drift 39 = .ok (.invokevirtual 197, 3) := by decide +kernel
theorem dX7_drift_42 : decode cX7_drift 42 = .ok (.ifCond .eq 9, 3) := by decide +kernel
theorem dX7_drift_45 : decode cX7_drift 45 = .ok (.aload_n 0, 1) := by decide +kernel
theorem dX7_drift_46 : decode cX7_drift 46 = .ok (.iconst 1, 1) := by decide +kernel
theorem dX7_drift_47 : decode cX7_drift 47 = .ok (.invokevirtual 201, 3) := by decide +kernel
theorem dX7_drift_50 : decode cX7_drift 50 = .ok (.ireturn, 1) := by decide +kernel
theorem dX7_drift_51 : decode cX7_drift 51 = .ok (.aload 5, 2) := by decide +kernel
theorem dX7_drift_53 : decode cX7_drift 53 = .ok (.iload_n 3, 1) := by decide +kernel
theorem dX7_drift_54 : decode cX7_drift 54 = .ok (.invokevirtual 204, 3) := by decide +kernel
theorem dX7_drift_57 : decode cX7_drift 57 = .ok (.ifCond .ne 9, 3) := by decide +kernel
theorem dX7_drift_60 : decode cX7_drift 60 = .ok (.aload_n 0, 1) := by decide +kernel
theorem dX7_drift_61 : decode cX7_drift 61 = .ok (.iconst 2, 1) := by decide +kernel
theorem dX7_drift_62 : decode cX7_drift 62 = .ok (.invokevirtual 201, 3) := by decide +kernel
theorem dX7_drift_65 : decode cX7_drift 65 = .ok (.ireturn, 1) := by decide +kernel
theorem dX7_drift_66 : decode cX7_drift 66 = .ok (.aload_n 0, 1) := by decide +kernel
theorem dX7_drift_67 : decode cX7_drift 67 = .ok (.getfield 48, 3) := by decide +kernel
theorem dX7_drift_70 : decode cX7_drift 70 = .ok (.aload 5, 2) := by decide +kernel
theorem dX7_drift_72 : decode cX7_drift 72 = .ok (.iload_n 2, 1) := by decide +kernel
theorem dX7_drift_73 : decode cX7_drift 73 = .ok (.iload_n 3, 1) := by decide +kernel
theorem dX7_drift_74 : decode cX7_drift 74 = .ok (.invokevirtual 207, 3) := by decide +kernel
theorem dX7_drift_77 : decode cX7_drift 77 = .ok (.iload 4, 2) := by decide +kernel
theorem dX7_drift_79 : decode cX7_drift 79 = .ok (.ifCond .ne 11, 3) := by decide +kernel
theorem dX7_drift_82 : decode cX7_drift 82 = .ok (.aload_n 0, 1) := by decide +kernel
theorem dX7_drift_83 : decode cX7_drift 83 = .ok (.getfield 48, 3) := by decide +kernel
theorem dX7_drift_86 : decode cX7_drift 86 = .ok (.getfield 211, 3) := by decide +kernel
theorem dX7_drift_89 : decode cX7_drift 89 = .ok (.ireturn, 1) := by decide +kernel
theorem dX7_drift_90 : decode cX7_drift 90 = .ok (.iload 4, 2) := by decide +kernel
theorem dX7_drift_92 : decode cX7_drift 92 = .ok (.iconst 1, 1) := by decide +kernel
theorem dX7_drift_93 : decode cX7_drift 93 = .ok (.if_icmp .ne 13, 3) := by decide +kernel
theorem dX7_drift_96 : decode cX7_drift 96 = .ok (.aload_n 0, 1) := by decide +kernel
theorem dX7_drift_97 : decode cX7_drift 97 = .ok (.getfield 48, 3) := by decide +kernel
theorem dX7_drift_100 : decode cX7_drift 100 = .ok (.getfield 214, 3) := by decide +kernel
theorem dX7_drift_103 : decode cX7_drift 103 = .ok (.goto 10, 3) := by decide +kernel
theorem dX7_drift_106 : decode cX7_drift 106 = .ok (.aload_n 0, 1) := by decide +kernel
theorem dX7_drift_107 : decode cX7_drift 107 = .ok (.getfield 48, 3) := by decide +kernel
theorem dX7_drift_110 : decode cX7_drift 110 = .ok (.invokevirtual 217, 3) := by decide +kernel
theorem dX7_drift_113 : decode cX7_drift 113 = .ok (.ireturn, 1) := by decide +kernel
theorem dX7_sheet_0 : decode cX7_sheet 0 = .ok (.iload_n 1, 1) := by decide +kernel
theorem dX7_sheet_1 : decode cX7_sheet 1 = .ok (.invokestatic 194, 3) := by decide +kernel
theorem dX7_sheet_4 : decode cX7_sheet 4 = .ok (.ifCond .eq 16, 3) := by decide +kernel
theorem dX7_sheet_7 : decode cX7_sheet 7 = .ok (.iload_n 2, 1) := by decide +kernel
theorem dX7_sheet_8 : decode cX7_sheet 8 = .ok (.invokestatic 220, 3) := by decide +kernel
theorem dX7_sheet_11 : decode cX7_sheet 11 = .ok (.ifCond .eq 9, 3) := by decide +kernel
theorem dX7_sheet_14 : decode cX7_sheet 14 = .ok (.iload_n 3, 1) := by decide +kernel
theorem dX7_sheet_15 : decode cX7_sheet 15 = .ok (.bipush 100, 2) := by decide +kernel
theorem dX7_sheet_17 : decode cX7_sheet 17 = .ok (.if_icmp .le 6, 3) := by decide +kernel
theorem dX7_sheet_20 : decode cX7_sheet 20 = .ok (.bipush (-2), 2) := by decide +kernel
theorem dX7_sheet_22 : decode cX7_sheet 22 = .ok (.ireturn, 1) := by decide +kernel
theorem dX7_sheet_23 : decode cX7_sheet 23 = .ok (.iload_n 3, 1) := by decide +kernel
theorem dX7_sheet_24 : decode cX7_sheet 24 = .ok (.ifCond .ge 9, 3) := by decide +kernel
theorem dX7_sheet_27 : decode cX7_sheet 27 = .ok (.aload_n 0, 1) := by decide +kernel
theorem dX7_sheet_28 : decode cX7_sheet 28 = .ok (.iconst 5, 1) := by decide +kernel
theorem dX7_sheet_29 : decode cX7_sheet 29 = .ok (.invokevirtual 201, 3) := by decide +kernel
theorem dX7_sheet_32 : decode cX7_sheet 32 = .ok (.ireturn, 1) := by decide +kernel
theorem dX7_sheet_33 : decode cX7_sheet 33 = .ok (.aload_n 0, 1) := by decide +kernel
theorem dX7_sheet_34 : decode cX7_sheet 34 = .ok (.getfield 54, 3) := by decide +kernel
theorem dX7_sheet_37 : decode cX7_sheet 37 = .ok (.iload_n 1, 1) := by decide +kernel
theorem dX7_sheet_38 : decode cX7_sheet 38 = .ok (.aaload, 1) := by decide +kernel
theorem dX7_sheet_39 : decode cX7_sheet 39 = .ok (.iload_n 2, 1) := by decide +kernel
theorem dX7_sheet_40 : decode cX7_sheet 40 = .ok (.iload_n 3, 1) := by decide +kernel
theorem dX7_sheet_41 : decode cX7_sheet 41 = .ok (.invokevirtual 223, 3) := by decide +kernel
theorem dX7_sheet_44 : decode cX7_sheet 44 = .ok (.iload_n 3, 1) := by decide +kernel
theorem dX7_sheet_45 : decode cX7_sheet 45 = .ok (.ireturn, 1) := by decide +kernel
theorem dX7_lose_0 : decode cX7_lose 0 = .ok (.iload_n 1, 1) := by decide +kernel
theorem dX7_lose_1 : decode cX7_lose 1 = .ok (.invokestatic 194, 3) := by decide +kernel
theorem dX7_lose_4 : decode cX7_lose 4 = .ok (.ifCond .ne 6, 3) := by decide +kernel
theorem dX7_lose_7 : decode cX7_lose 7 = .ok (.bipush (-2), 2) := by decide +kernel
theorem dX7_lose_9 : decode cX7_lose 9 = .ok (.ireturn, 1) := by decide +kernel
theorem dX7_lose_10 : decode cX7_lose 10 = .ok (.aload_n 0, 1) := by decide +kernel
theorem dX7_lose_11 : decode cX7_lose 11 = .ok (.getfield 54, 3) := by decide +kernel
theorem dX7_lose_14 : decode cX7_lose 14 = .ok (.iload_n 1, 1) := by decide +kernel
theorem dX7_lose_15 : decode cX7_lose 15 = .ok (.aaload, 1) := by decide +kernel
theorem dX7_lose_16 : decode cX7_lose 16 = .ok (.invokevirtual 197, 3) := by decide +kernel
theorem dX7_lose_19 : decode cX7_lose 19 = .ok (.ifCond .eq 9, 3) := by decide +kernel
theorem dX7_lose_22 : decode cX7_lose 22 = .ok (.aload_n 0, 1) := by decide +kernel
theorem dX7_lose_23 : decode cX7_lose 23 = .ok (.iconst 1, 1) := by decide +kernel
theorem dX7_lose_24 : decode cX7_lose 24 = .ok (.invokevirtual 201, 3) := by decide +kernel
theorem dX7_lose_27 : decode cX7_lose 27 = .ok (.ireturn, 1) := by decide +kernel
theorem dX7_lose_28 : decode cX7_lose 28 = .ok (.aload_n 0, 1) := by decide +kernel
theorem dX7_lose_29 : decode cX7_lose 29 = .ok (.getfield 54, 3) := by decide +kernel
theorem dX7_lose_32 : decode cX7_lose 32 = .ok (.iload_n 1, 1) := by decide +kernel
theorem dX7_lose_33 : decode cX7_lose 33 = .ok (.aaload, 1) := by decide +kernel
theorem dX7_lose_34 : decode cX7_lose 34 = .ok (.invokevirtual 227, 3) := by decide +kernel
theorem dX7_lose_37 : decode cX7_lose 37 = .ok (.ireturn, 1) := by decide +kernel
theorem dX7_put_0 : decode cX7_put 0 = .ok (.iload_n 1, 1) := by decide +kernel
theorem dX7_put_1 : decode cX7_put 1 = .ok (.invokestatic 194, 3) := by decide +kernel
theorem dX7_put_4 : decode cX7_put 4 = .ok (.ifCond .eq 10, 3) := by decide +kernel
theorem dX7_put_7 : decode cX7_put 7 = .ok (.iload_n 2, 1) := by decide +kernel
theorem dX7_put_8 : decode cX7_put 8 = .ok (.invokestatic 220, 3) := by decide +kernel
theorem dX7_put_11 : decode cX7_put 11 = .ok (.ifCond .ne 6, 3) := by decide +kernel
theorem dX7_put_14 : decode cX7_put 14 = .ok (.bipush (-2), 2) := by decide +kernel
theorem dX7_put_16 : decode cX7_put 16 = .ok (.ireturn, 1) := by decide +kernel
theorem dX7_put_17 : decode cX7_put 17 = .ok (.aload_n 0, 1) := by decide +kernel
theorem dX7_put_18 : decode cX7_put 18 = .ok (.getfield 54, 3) := by decide +kernel
theorem dX7_put_21 : decode cX7_put 21 = .ok (.iload_n 1, 1) := by decide +kernel
theorem dX7_put_22 : decode cX7_put 22 = .ok (.aaload, 1) := by decide +kernel
theorem dX7_put_23 : decode cX7_put 23 = .ok (.iload_n 2, 1) := by decide +kernel
theorem dX7_put_24 : decode cX7_put 24 = .ok (.iload_n 3, 1) := by decide +kernel
theorem dX7_put_25 : decode cX7_put 25 = .ok (.invokestatic 230, 3) := by decide +kernel
theorem dX7_put_28 : decode cX7_put 28 = .ok (.istore 5, 2) := by decide +kernel
theorem dX7_put_30 : decode cX7_put 30 = .ok (.iload 5, 2) := by decide +kernel
theorem dX7_put_32 : decode cX7_put 32 = .ok (.ifCond .eq 10, 3) := by decide +kernel
theorem dX7_put_35 : decode cX7_put 35 = .ok (.aload_n 0, 1) := by decide +kernel
theorem dX7_put_36 : decode cX7_put 36 = .ok (.iload 5, 2) := by decide +kernel
theorem dX7_put_38 : decode cX7_put 38 = .ok (.invokevirtual 201, 3) := by decide +kernel
theorem dX7_put_41 : decode cX7_put 41 = .ok (.ireturn, 1) := by decide +kernel
theorem dX7_put_42 : decode cX7_put 42 = .ok (.aload_n 0, 1) := by decide +kernel
theorem dX7_put_43 : decode cX7_put 43 = .ok (.getfield 54, 3) := by decide +kernel
theorem dX7_put_46 : decode cX7_put 46 = .ok (.iload_n 1, 1) := by decide +kernel
theorem dX7_put_47 : decode cX7_put 47 = .ok (.aaload, 1) := by decide +kernel
theorem dX7_put_48 : decode cX7_put 48 = .ok (.getfield 234, 3) := by decide +kernel
theorem dX7_put_51 : decode cX7_put 51 = .ok (.iload_n 3, 1) := by decide +kernel
theorem dX7_put_52 : decode cX7_put 52 = .ok (.iload_n 2, 1) := by decide +kernel
theorem dX7_put_53 : decode cX7_put 53 = .ok (.iload 4, 2) := by decide +kernel
theorem dX7_put_55 : decode cX7_put 55 = .ok (.invokestatic 237, 3) := by decide +kernel
theorem dX7_put_58 : decode cX7_put 58 = .ok (.iastore, 1) := by decide +kernel
theorem dX7_put_59 : decode cX7_put 59 = .ok (.iconst 1, 1) := by decide +kernel
theorem dX7_put_60 : decode cX7_put 60 = .ok (.ireturn, 1) := by decide +kernel
theorem dX7_get_0 : decode cX7_get 0 = .ok (.iload_n 1, 1) := by decide +kernel
theorem dX7_get_1 : decode cX7_get 1 = .ok (.invokestatic 194, 3) := by decide +kernel
theorem dX7_get_4 : decode cX7_get 4 = .ok (.ifCond .eq 10, 3) := by decide +kernel
theorem dX7_get_7 : decode cX7_get 7 = .ok (.iload_n 2, 1) := by decide +kernel
theorem dX7_get_8 : decode cX7_get 8 = .ok (.invokestatic 220, 3) := by decide +kernel
theorem dX7_get_11 : decode cX7_get 11 = .ok (.ifCond .ne 6, 3) := by decide +kernel
theorem dX7_get_14 : decode cX7_get 14 = .ok (.ldc 87, 2) := by decide +kernel
theorem dX7_get_16 : decode cX7_get 16 = .ok (.ireturn, 1) := by decide +kernel
theorem dX7_get_17 : decode cX7_get 17 = .ok (.aload_n 0, 1) := by decide +kernel
theorem dX7_get_18 : decode cX7_get 18 = .ok (.getfield 54, 3) := by decide +kernel
theorem dX7_get_21 : decode cX7_get 21 = .ok (.iload_n 1, 1) := by decide +kernel
theorem dX7_get_22 : decode cX7_get 22 = .ok (.aaload, 1) := by decide +kernel
theorem dX7_get_23 : decode cX7_get 23 = .ok (.iload_n 2, 1) := by decide +kernel
theorem dX7_get_24 : decode cX7_get 24 = .ok (.iload_n 3, 1) := by decide +kernel
theorem dX7_get_25 : decode cX7_get 25 = .ok (.invokestatic 230, 3) := by decide +kernel
theorem dX7_get_28 : decode cX7_get 28 = .ok (.istore 4, 2) := by decide +kernel
theorem dX7_get_30 : decode cX7_get 30 = .ok (.iload 4, 2) := by decide +kernel
theorem dX7_get_32 : decode cX7_get 32 = .ok (.ifCond .eq 12, 3) := by decide +kernel
theorem dX7_get_35 : decode cX7_get 35 = .ok (.aload_n 0, 1) := by decide +kernel
theorem dX7_get_36 : decode cX7_get 36 = .ok (.iload 4, 2) := by decide +kernel
theorem dX7_get_38 : decode cX7_get 38 = .ok (.putfield 58, 3) := by decide +kernel
theorem dX7_get_41 : decode cX7_get 41 = .ok (.ldc 87, 2) := by decide +kernel
theorem dX7_get_43 : decode cX7_get 43 = .ok (.ireturn, 1) := by decide +kernel
theorem dX7_get_44 : decode cX7_get 44 = .ok (.aload_n 0, 1) := by decide +kernel
theorem dX7_get_45 : decode cX7_get 45 = .ok (.getfield 54, 3) := by decide +kernel
theorem dX7_get_48 : decode cX7_get 48 = .ok (.iload_n 1, 1) := by decide +kernel
theorem dX7_get_49 : decode cX7_get 49 = .ok (.aaload, 1) := by decide +kernel
theorem dX7_get_50 : decode cX7_get 50 = .ok (.getfield 234, 3) := by decide +kernel
theorem dX7_get_53 : decode cX7_get 53 = .ok (.iload_n 3, 1) := by decide +kernel
theorem dX7_get_54 : decode cX7_get 54 = .ok (.iaload, 1) := by decide +kernel
theorem dX7_get_55 : decode cX7_get 55 = .ok (.ireturn, 1) := by decide +kernel
theorem dX7_copy_0 : decode cX7_copy 0 = .ok (.iload_n 1, 1) := by decide +kernel
theorem dX7_copy_1 : decode cX7_copy 1 = .ok (.invokestatic 194, 3) := by decide +kernel
theorem dX7_copy_4 : decode cX7_copy 4 = .ok (.ifCond .eq 10, 3) := by decide +kernel
theorem dX7_copy_7 : decode cX7_copy 7 = .ok (.iload_n 3, 1) := by decide +kernel
theorem dX7_copy_8 : decode cX7_copy 8 = .ok (.invokestatic 194, 3) := by decide +kernel
theorem dX7_copy_11 : decode cX7_copy 11 = .ok (.ifCond .ne 6, 3) := by decide +kernel
theorem dX7_copy_14 : decode cX7_copy 14 = .ok (.bipush (-2), 2) := by decide +kernel
theorem dX7_copy_16 : decode cX7_copy 16 = .ok (.ireturn, 1) := by decide +kernel
theorem dX7_copy_17 : decode cX7_copy 17 = .ok (.aload_n 0, 1) := by decide +kernel
theorem dX7_copy_18 : decode cX7_copy 18 = .ok (.getfield 54, 3) := by decide +kernel
theorem dX7_copy_21 : decode cX7_copy 21 = .ok (.iload_n 1, 1) := by decide +kernel
theorem dX7_copy_22 : decode cX7_copy 22 = .ok (.aaload, 1) := by decide +kernel
theorem dX7_copy_23 : decode cX7_copy 23 = .ok (.astore 6, 2) := by decide +kernel
theorem dX7_copy_25 : decode cX7_copy 25 = .ok (.aload_n 0, 1) := by decide +kernel
theorem dX7_copy_26 : decode cX7_copy 26 = .ok (.getfield 54, 3) := by decide +kernel
theorem dX7_copy_29 : decode cX7_copy 29 = .ok (.iload_n 3, 1) := by decide +kernel
theorem dX7_copy_30 : decode cX7_copy 30 = .ok (.aaload, 1) := by decide +kernel
theorem dX7_copy_31 : decode cX7_copy 31 = .ok (.astore 7, 2) := by decide +kernel
theorem dX7_copy_33 : decode cX7_copy 33 = .ok (.aload 6, 2) := by decide +kernel
theorem dX7_copy_35 : decode cX7_copy 35 = .ok (.invokevirtual 197, 3) := by decide +kernel
theorem dX7_copy_38 : decode cX7_copy 38 = .ok (.ifCond .ne 11, 3) := by decide +kernel
theorem dX7_copy_41 : decode cX7_copy 41 = .ok (.aload 7, 2) := by decide +kernel
theorem dX7_copy_43 : decode cX7_copy 43 = .ok (.invokevirtual 197, 3) := by decide +kernel
theorem dX7_copy_46 : decode cX7_copy 46 = .ok (.ifCond .eq 9, 3) := by decide +kernel
theorem dX7_copy_49 : decode cX7_copy 49 = .ok (.aload_n 0, 1) := by decide +kernel
theorem dX7_copy_50 : decode cX7_copy 50 = .ok (.iconst 1, 1) := by decide +kernel
theorem dX7_copy_51 : decode cX7_copy 51 = .ok (.invokevirtual 201, 3) := by decide +kernel
theorem dX7_copy_54 : decode cX7_copy 54 = .ok (.ireturn, 1) := by decide +kernel
theorem dX7_copy_55 : decode cX7_copy 55 = .ok (.aload 6, 2) := by decide +kernel
theorem dX7_copy_57 : decode cX7_copy 57 = .ok (.getfield 240, 3) := by decide +kernel
theorem dX7_copy_60 : decode cX7_copy 60 = .ok (.aload 7, 2) := by decide +kernel
theorem dX7_copy_62 : decode cX7_copy 62 = .ok (.getfield 240, 3) := by decide +kernel
theorem dX7_copy_65 : decode cX7_copy 65 = .ok (.if_icmp .eq 9, 3) := by decide +kernel
theorem dX7_copy_68 : decode cX7_copy 68 = .ok (.aload_n 0, 1) := by decide +kernel
theorem dX7_copy_69 : decode cX7_copy 69 = .ok (.iconst 4, 1) := by decide +kernel
theorem dX7_copy_70 : decode cX7_copy 70 = .ok (.invokevirtual 201, 3) := by decide +kernel
theorem dX7_copy_73 : decode cX7_copy 73 = .ok (.ireturn, 1) := by decide +kernel
theorem dX7_copy_74 : decode cX7_copy 74 = .ok (.aload 6, 2) := by decide +kernel
theorem dX7_copy_76 : decode cX7_copy 76 = .ok (.iload_n 2, 1) := by decide +kernel
theorem dX7_copy_77 : decode cX7_copy 77 = .ok (.iload 5, 2) := by decide +kernel
theorem dX7_copy_79 : decode cX7_copy 79 = .ok (.invokevirtual 243, 3) := by decide +kernel
theorem dX7_copy_82 : decode cX7_copy 82 = .ok (.ifCond .eq 15, 3) := by decide +kernel
theorem dX7_copy_85 : decode cX7_copy 85 = .ok (.aload 7, 2) := by decide +kernel
theorem dX7_copy_87 : decode cX7_copy 87 = .ok (.iload 4, 2) := by decide +kernel
theorem dX7_copy_89 : decode cX7_copy 89 = .ok (.iload 5, 2) := by decide +kernel
theorem dX7_copy_91 : decode cX7_copy 91 = .ok (.invokevirtual 243, 3) := by decide +kernel
theorem dX7_copy_94 : decode cX7_copy 94 = .ok (.ifCond .ne 9, 3) := by decide +kernel
theorem dX7_copy_97 : decode cX7_copy 97 = .ok (.aload_n 0, 1) := by decide +kernel
theorem dX7_copy_98 : decode cX7_copy 98 = .ok (.iconst 2, 1) := by decide +kernel
theorem dX7_copy_99 : decode cX7_copy 99 = .ok (.invokevirtual 201, 3) := by decide +kernel
theorem dX7_copy_102 : decode cX7_copy 102 = .ok (.ireturn, 1) := by decide +kernel
theorem dX7_copy_103 : decode cX7_copy 103 = .ok (.aload 6, 2) := by decide +kernel
theorem dX7_copy_105 : decode cX7_copy 105 = .ok (.getfield 234, 3) := by decide +kernel
theorem dX7_copy_108 : decode cX7_copy 108 = .ok (.iload_n 2, 1) := by decide +kernel
theorem dX7_copy_109 : decode cX7_copy 109 = .ok (.aload 7, 2) := by decide +kernel
theorem dX7_copy_111 : decode cX7_copy 111 = .ok (.getfield 234, 3) := by decide +kernel
theorem dX7_copy_114 : decode cX7_copy 114 = .ok (.iload 4, 2) := by decide +kernel
theorem dX7_copy_116 : decode cX7_copy 116 = .ok (.iload 5, 2) := by decide +kernel
theorem dX7_copy_118 : decode cX7_copy 118 = .ok (.invokestatic 246, 3) := by decide +kernel
theorem dX7_copy_121 : decode cX7_copy 121 = .ok (.iconst 1, 1) := by decide +kernel
theorem dX7_copy_122 : decode cX7_copy 122 = .ok (.ireturn, 1) := by decide +kernel
theorem dX7_count_0 : decode cX7_count 0 = .ok (.iload_n 1, 1) := by decide +kernel
theorem dX7_count_1 : decode cX7_count 1 = .ok (.tableswitch 77 0 5 #[39, 47, 52, 60, 67, 72], 39) := by decide +kernel
theorem dX7_count_40 : decode cX7_count 40 = .ok (.aload_n 0, 1) := by decide +kernel
theorem dX7_count_41 : decode cX7_count 41 = .ok (.getfield 10, 3) := by decide +kernel
theorem dX7_count_44 : decode cX7_count 44 = .ok (.getfield 76, 3) := by decide +kernel
theorem dX7_count_47 : decode cX7_count 47 = .ok (.ireturn, 1) := by decide +kernel
theorem dX7_count_48 : decode cX7_count 48 = .ok (.aload_n 0, 1) := by decide +kernel
theorem dX7_count_49 : decode cX7_count 49 = .ok (.invokevirtual 252, 3) := by decide +kernel
theorem dX7_count_52 : decode cX7_count 52 = .ok (.ireturn, 1) := by decide +kernel
theorem dX7_count_53 : decode cX7_count 53 = .ok (.aload_n 0, 1) := by decide +kernel
theorem dX7_count_54 : decode cX7_count 54 = .ok (.getfield 34, 3) := by decide +kernel
theorem dX7_count_57 : decode cX7_count 57 = .ok (.getfield 158, 3) := by decide +kernel
theorem dX7_count_60 : decode cX7_count 60 = .ok (.ireturn, 1) := by decide +kernel
theorem dX7_count_61 : decode cX7_count 61 = .ok (.iconst 4, 1) := by decide +kernel
theorem dX7_count_62 : decode cX7_count 62 = .ok (.aload_n 0, 1) := by decide +kernel
theorem dX7_count_63 : decode cX7_count 63 = .ok (.invokevirtual 255, 3) := by decide +kernel
theorem dX7_count_66 : decode cX7_count 66 = .ok (.isub, 1) := by decide +kernel
theorem dX7_count_67 : decode cX7_count 67 = .ok (.ireturn, 1) := by decide +kernel
theorem dX7_count_68 : decode cX7_count 68 = .ok (.aload_n 0, 1) := by decide +kernel
theorem dX7_count_69 : decode cX7_count 69 = .ok (.invokevirtual 255, 3) := by decide +kernel
theorem dX7_count_72 : decode cX7_count 72 = .ok (.ireturn, 1) := by decide +kernel
theorem dX7_count_73 : decode cX7_count 73 = .ok (.aload_n 0, 1) := by decide +kernel
theorem dX7_count_74 : decode cX7_count 74 = .ok (.getfield 58, 3) := by decide +kernel
theorem dX7_count_77 : decode cX7_count 77 = .ok (.ireturn, 1) := by decide +kernel
theorem dX7_count_78 : decode cX7_count 78 = .ok (.bipush (-2), 2) := by decide +kernel
theorem dX7_count_80 : decode cX7_count 80 = .ok (.ireturn, 1) := by decide +kernel
theorem dX7_digest_0 : decode cX7_digest 0 = .ok (.ldc2_w 258, 3) := by decide +kernel
theorem dX7_digest_3 : decode cX7_digest 3 = .ok (.lstore_n 1, 1) := by decide +kernel
theorem dX7_digest_4 : decode cX7_digest 4 = .ok (.iconst 0, 1) := by decide +kernel
theorem dX7_digest_5 : decode cX7_digest 5 = .ok (.istore_n 3, 1) := by decide +kernel
theorem dX7_digest_6 : decode cX7_digest 6 = .ok (.iload_n 3, 1) := by decide +kernel
theorem dX7_digest_7 : decode cX7_digest 7 = .ok (.iconst 4, 1) := by decide +kernel
theorem dX7_digest_8 : decode cX7_digest 8 = .ok (.if_icmp .gt 22, 3) := by decide +kernel
theorem dX7_digest_11 : decode cX7_digest 11 = .ok (.ldc2_w 260, 3) := by decide +kernel
theorem dX7_digest_14 : decode cX7_digest 14 = .ok (.lload_n 1, 1) := by decide +kernel
theorem dX7_digest_15 : decode cX7_digest 15 = .ok (.lmul, 1) := by decide +kernel
theorem dX7_digest_16 : decode cX7_digest 16 = .ok (.aload_n 0, 1) := by decide +kernel
theorem dX7_digest_17 : decode cX7_digest 17 = .ok (.iload_n 3, 1) := by decide +kernel
theorem dX7_digest_18 : decode cX7_digest 18 = .ok (.invokevirtual 262, 3) := by decide +kernel
theorem dX7_digest_21 : decode cX7_digest 21 = .ok (.i2l, 1) := by decide +kernel
theorem dX7_digest_22 : decode cX7_digest 22 = .ok (.ladd, 1) := by decide +kernel
theorem dX7_digest_23 : decode cX7_digest 23 = .ok (.lstore_n 1, 1) := by decide +kernel
theorem dX7_digest_24 : decode cX7_digest 24 = .ok (.iinc 3 1, 3) := by decide +kernel
theorem dX7_digest_27 : decode cX7_digest 27 = .ok (.goto (-21), 3) := by decide +kernel
theorem dX7_digest_30 : decode cX7_digest 30 = .ok (.iconst 0, 1) := by decide +kernel
theorem dX7_digest_31 : decode cX7_digest 31 = .ok (.istore_n 3, 1) := by decide +kernel
theorem dX7_digest_32 : decode cX7_digest 32 = .ok (.iload_n 3, 1) := by decide +kernel
theorem dX7_digest_33 : decode cX7_digest 33 = .ok (.iconst 3, 1) := by decide +kernel
theorem dX7_digest_34 : decode cX7_digest 34 = .ok (.if_icmp .ge 26, 3) := by decide +kernel
theorem dX7_digest_37 : decode cX7_digest 37 = .ok (.ldc2_w 260, 3) := by decide +kernel
theorem dX7_digest_40 : decode cX7_digest 40 = .ok (.lload_n 1, 1) := by decide +kernel
theorem dX7_digest_41 : decode cX7_digest 41 = .ok (.lmul, 1) := by decide +kernel
theorem dX7_digest_42 : decode cX7_digest 42 = .ok (.aload_n 0, 1) := by decide +kernel
theorem dX7_digest_43 : decode cX7_digest 43 = .ok (.getfield 10, 3) := by decide +kernel
theorem dX7_digest_46 : decode cX7_digest 46 = .ok (.getfield 73, 3) := by decide +kernel
theorem dX7_digest_49 : decode cX7_digest 49 = .ok (.iload_n 3, 1) := by decide +kernel
theorem dX7_digest_50 : decode cX7_digest 50 = .ok (.iaload, 1) := by decide +kernel
theorem dX7_digest_51 : decode cX7_digest 51 = .ok (.i2l, 1) := by decide +kernel
theorem dX7_digest_52 : decode cX7_digest 52 = .ok (.ladd, 1) := by decide +kernel
theorem dX7_digest_53 : decode cX7_digest 53 = .ok (.lstore_n 1, 1) := by decide +kernel
theorem dX7_digest_54 : decode cX7_digest 54 = .ok (.iinc 3 1, 3) := by decide +kernel
theorem dX7_digest_57 : decode cX7_digest 57 = .ok (.goto (-25), 3) := by decide +kernel
theorem dX7_digest_60 : decode cX7_digest 60 = .ok (.iconst 0, 1) := by decide +kernel
theorem dX7_digest_61 : decode cX7_digest 61 = .ok (.istore_n 3, 1) := by decide +kernel
theorem dX7_digest_62 : decode cX7_digest 62 = .ok (.iload_n 3, 1) := by decide +kernel
theorem dX7_digest_63 : decode cX7_digest 63 = .ok (.aload_n 0, 1) := by decide +kernel
theorem dX7_digest_64 : decode cX7_digest 64 = .ok (.getfield 10, 3) := by decide +kernel
theorem dX7_digest_67 : decode cX7_digest 67 = .ok (.getfield 76, 3) := by decide +kernel
theorem dX7_digest_70 : decode cX7_digest 70 = .ok (.if_icmp .ge 43, 3) := by decide +kernel
theorem dX7_digest_73 : decode cX7_digest 73 = .ok (.ldc2_w 260, 3) := by decide +kernel
theorem dX7_digest_76 : decode cX7_digest 76 = .ok (.lload_n 1, 1) := by decide +kernel
theorem dX7_digest_77 : decode cX7_digest 77 = .ok (.lmul, 1) := by decide +kernel
theorem dX7_digest_78 : decode cX7_digest 78 = .ok (.aload_n 0, 1) := by decide +kernel
theorem dX7_digest_79 : decode cX7_digest 79 = .ok (.getfield 10, 3) := by decide +kernel
theorem dX7_digest_82 : decode cX7_digest 82 = .ok (.iload_n 3, 1) := by decide +kernel
theorem dX7_digest_83 : decode cX7_digest 83 = .ok (.iconst 0, 1) := by decide +kernel
theorem dX7_digest_84 : decode cX7_digest 84 = .ok (.invokevirtual 88, 3) := by decide +kernel
theorem dX7_digest_87 : decode cX7_digest 87 = .ok (.i2l, 1) := by decide +kernel
theorem dX7_digest_88 : decode cX7_digest 88 = .ok (.ladd, 1) := by decide +kernel
theorem dX7_digest_89 : decode cX7_digest 89 = .ok (.lstore_n 1, 1) := by decide +kernel
theorem dX7_digest_90 : decode cX7_digest 90 = .ok (.ldc2_w 260, 3) := by decide +kernel
theorem dX7_digest_93 : decode cX7_digest 93 = .ok (.lload_n 1, 1) := by decide +kernel
theorem dX7_digest_94 : decode cX7_digest 94 = .ok (.lmul, 1) := by decide +kernel
theorem dX7_digest_95 : decode cX7_digest 95 = .ok (.aload_n 0, 1) := by decide +kernel
theorem dX7_digest_96 : decode cX7_digest 96 = .ok (.getfield 10, 3) := by decide +kernel
theorem dX7_digest_99 : decode cX7_digest 99 = .ok (.iload_n 3, 1) := by decide +kernel
theorem dX7_digest_100 : decode cX7_digest 100 = .ok (.iconst 1, 1) := by decide +kernel
theorem dX7_digest_101 : decode cX7_digest 101 = .ok (.invokevirtual 88, 3) := by decide +kernel
theorem dX7_digest_104 : decode cX7_digest 104 = .ok (.i2l, 1) := by decide +kernel
theorem dX7_digest_105 : decode cX7_digest 105 = .ok (.ladd, 1) := by decide +kernel
theorem dX7_digest_106 : decode cX7_digest 106 = .ok (.lstore_n 1, 1) := by decide +kernel
theorem dX7_digest_107 : decode cX7_digest 107 = .ok (.iinc 3 1, 3) := by decide +kernel
theorem dX7_digest_110 : decode cX7_digest 110 = .ok (.goto (-48), 3) := by decide +kernel
theorem dX7_digest_113 : decode cX7_digest 113 = .ok (.aload_n 0, 1) := by decide +kernel
theorem dX7_digest_114 : decode cX7_digest 114 = .ok (.invokevirtual 91, 3) := by decide +kernel
theorem dX7_digest_117 : decode cX7_digest 117 = .ok (.iconst 0, 1) := by decide +kernel
theorem dX7_digest_118 : decode cX7_digest 118 = .ok (.istore_n 3, 1) := by decide +kernel
theorem dX7_digest_119 : decode cX7_digest 119 = .ok (.iload_n 3, 1) := by decide +kernel
theorem dX7_digest_120 : decode cX7_digest 120 = .ok (.bipush 9, 2) := by decide +kernel
theorem dX7_digest_122 : decode cX7_digest 122 = .ok (.if_icmp .ge 25, 3) := by decide +kernel
theorem dX7_digest_125 : decode cX7_digest 125 = .ok (.ldc2_w 260, 3) := by decide +kernel
theorem dX7_digest_128 : decode cX7_digest 128 = .ok (.lload_n 1, 1) := by decide +kernel
theorem dX7_digest_129 : decode cX7_digest 129 = .ok (.lmul, 1) := by decide +kernel
theorem dX7_digest_130 : decode cX7_digest 130 = .ok (.aload_n 0, 1) := by decide +kernel
theorem dX7_digest_131 : decode cX7_digest 131 = .ok (.getfield 27, 3) := by decide +kernel
theorem dX7_digest_134 : decode cX7_digest 134 = .ok (.getfield 131, 3) := by decide +kernel
theorem dX7_digest_137 : decode cX7_digest 137 = .ok (.iload_n 3, 1) := by decide +kernel
theorem dX7_digest_138 : decode cX7_digest 138 = .ok (.laload, 1) := by decide +kernel
theorem dX7_digest_139 : decode cX7_digest 139 = .ok (.ladd, 1) := by decide +kernel
theorem dX7_digest_140 : decode cX7_digest 140 = .ok (.lstore_n 1, 1) := by decide +kernel
theorem dX7_digest_141 : decode cX7_digest 141 = .ok (.iinc 3 1, 3) := by decide +kernel
theorem dX7_digest_144 : decode cX7_digest 144 = .ok (.goto (-25), 3) := by decide +kernel
theorem dX7_digest_147 : decode cX7_digest 147 = .ok (.ldc2_w 260, 3) := by decide +kernel
theorem dX7_digest_150 : decode cX7_digest 150 = .ok (.lload_n 1, 1) := by decide +kernel
theorem dX7_digest_151 : decode cX7_digest 151 = .ok (.lmul, 1) := by decide +kernel
theorem dX7_digest_152 : decode cX7_digest 152 = .ok (.aload_n 0, 1) := by decide +kernel
theorem dX7_digest_153 : decode cX7_digest 153 = .ok (.getfield 27, 3) := by decide +kernel
theorem dX7_digest_156 : decode cX7_digest 156 = .ok (.invokevirtual 94, 3) := by decide +kernel
theorem dX7_digest_159 : decode cX7_digest 159 = .ok (.i2l, 1) := by decide +kernel
theorem dX7_digest_160 : decode cX7_digest 160 = .ok (.ladd, 1) := by decide +kernel
theorem dX7_digest_161 : decode cX7_digest 161 = .ok (.lstore_n 1, 1) := by decide +kernel
theorem dX7_digest_162 : decode cX7_digest 162 = .ok (.ldc2_w 260, 3) := by decide +kernel
theorem dX7_digest_165 : decode cX7_digest 165 = .ok (.lload_n 1, 1) := by decide +kernel
theorem dX7_digest_166 : decode cX7_digest 166 = .ok (.lmul, 1) := by decide +kernel
theorem dX7_digest_167 : decode cX7_digest 167 = .ok (.aload_n 0, 1) := by decide +kernel
theorem dX7_digest_168 : decode cX7_digest 168 = .ok (.getfield 34, 3) := by decide +kernel
theorem dX7_digest_171 : decode cX7_digest 171 = .ok (.invokevirtual 165, 3) := by decide +kernel
theorem dX7_digest_174 : decode cX7_digest 174 = .ok (.i2l, 1) := by decide +kernel
theorem dX7_digest_175 : decode cX7_digest 175 = .ok (.ladd, 1) := by decide +kernel
theorem dX7_digest_176 : decode cX7_digest 176 = .ok (.lreturn, 1) := by decide +kernel
theorem dX7_within_0 : decode cX7_within 0 = .ok (.iload_n 0, 1) := by decide +kernel
theorem dX7_within_1 : decode cX7_within 1 = .ok (.iload_n 1, 1) := by decide +kernel
theorem dX7_within_2 : decode cX7_within 2 = .ok (.if_icmp .lt 12, 3) := by decide +kernel
theorem dX7_within_5 : decode cX7_within 5 = .ok (.iload_n 0, 1) := by decide +kernel
theorem dX7_within_6 : decode cX7_within 6 = .ok (.iload_n 2, 1) := by decide +kernel
theorem dX7_within_7 : decode cX7_within 7 = .ok (.if_icmp .gt 7, 3) := by decide +kernel
theorem dX7_within_10 : decode cX7_within 10 = .ok (.iconst 1, 1) := by decide +kernel
theorem dX7_within_11 : decode cX7_within 11 = .ok (.goto 4, 3) := by decide +kernel
theorem dX7_within_14 : decode cX7_within 14 = .ok (.iconst 0, 1) := by decide +kernel
theorem dX7_within_15 : decode cX7_within 15 = .ok (.ireturn, 1) := by decide +kernel
theorem dX7_isPosture_0 : decode cX7_isPosture 0 = .ok (.iload_n 1, 1) := by decide +kernel
theorem dX7_isPosture_1 : decode cX7_isPosture 1 = .ok (.ifCond .lt 18, 3) := by decide +kernel
theorem dX7_isPosture_4 : decode cX7_isPosture 4 = .ok (.iload_n 1, 1) := by decide +kernel
theorem dX7_isPosture_5 : decode cX7_isPosture 5 = .ok (.aload_n 0, 1) := by decide +kernel
theorem dX7_isPosture_6 : decode cX7_isPosture 6 = .ok (.getfield 10, 3) := by decide +kernel
theorem dX7_isPosture_9 : decode cX7_isPosture 9 = .ok (.getfield 76, 3) := by decide +kernel
theorem dX7_isPosture_12 : decode cX7_isPosture 12 = .ok (.if_icmp .ge 7, 3) := by decide +kernel
theorem dX7_isPosture_15 : decode cX7_isPosture 15 = .ok (.iconst 1, 1) := by decide +kernel
theorem dX7_isPosture_16 : decode cX7_isPosture 16 = .ok (.goto 4, 3) := by decide +kernel
theorem dX7_isPosture_19 : decode cX7_isPosture 19 = .ok (.iconst 0, 1) := by decide +kernel
theorem dX7_isPosture_20 : decode cX7_isPosture 20 = .ok (.ireturn, 1) := by decide +kernel
theorem dX7_isSheet_0 : decode cX7_isSheet 0 = .ok (.iload_n 0, 1) := by decide +kernel
theorem dX7_isSheet_1 : decode cX7_isSheet 1 = .ok (.ifCond .lt 12, 3) := by decide +kernel
theorem dX7_isSheet_4 : decode cX7_isSheet 4 = .ok (.iload_n 0, 1) := by decide +kernel
theorem dX7_isSheet_5 : decode cX7_isSheet 5 = .ok (.iconst 4, 1) := by decide +kernel
theorem dX7_isSheet_6 : decode cX7_isSheet 6 = .ok (.if_icmp .ge 7, 3) := by decide +kernel
theorem dX7_isSheet_9 : decode cX7_isSheet 9 = .ok (.iconst 1, 1) := by decide +kernel
theorem dX7_isSheet_10 : decode cX7_isSheet 10 = .ok (.goto 4, 3) := by decide +kernel
theorem dX7_isSheet_13 : decode cX7_isSheet 13 = .ok (.iconst 0, 1) := by decide +kernel
theorem dX7_isSheet_14 : decode cX7_isSheet 14 = .ok (.ireturn, 1) := by decide +kernel
theorem dX7_finding_0 : decode cX7_finding 0 = .ok (.aload_n 0, 1) := by decide +kernel
theorem dX7_finding_1 : decode cX7_finding 1 = .ok (.iload_n 1, 1) := by decide +kernel
theorem dX7_finding_2 : decode cX7_finding 2 = .ok (.putfield 58, 3) := by decide +kernel
theorem dX7_finding_5 : decode cX7_finding 5 = .ok (.bipush (-10), 2) := by decide +kernel
theorem dX7_finding_7 : decode cX7_finding 7 = .ok (.iload_n 1, 1) := by decide +kernel
theorem dX7_finding_8 : decode cX7_finding 8 = .ok (.isub, 1) := by decide +kernel
theorem dX7_finding_9 : decode cX7_finding 9 = .ok (.ireturn, 1) := by decide +kernel
theorem dX7_troubleWith_0 : decode cX7_troubleWith 0 = .ok (.aload_n 0, 1) := by decide +kernel
theorem dX7_troubleWith_1 : decode cX7_troubleWith 1 = .ok (.invokevirtual 197, 3) := by decide +kernel
theorem dX7_troubleWith_4 : decode cX7_troubleWith 4 = .ok (.ifCond .eq 5, 3) := by decide +kernel
theorem dX7_troubleWith_7 : decode cX7_troubleWith 7 = .ok (.iconst 1, 1) := by decide +kernel
theorem dX7_troubleWith_8 : decode cX7_troubleWith 8 = .ok (.ireturn, 1) := by decide +kernel
theorem dX7_troubleWith_9 : decode cX7_troubleWith 9 = .ok (.aload_n 0, 1) := by decide +kernel
theorem dX7_troubleWith_10 : decode cX7_troubleWith 10 = .ok (.getfield 240, 3) := by decide +kernel
theorem dX7_troubleWith_13 : decode cX7_troubleWith 13 = .ok (.iload_n 1, 1) := by decide +kernel
theorem dX7_troubleWith_14 : decode cX7_troubleWith 14 = .ok (.if_icmp .eq 5, 3) := by decide +kernel
theorem dX7_troubleWith_17 : decode cX7_troubleWith 17 = .ok (.iconst 3, 1) := by decide +kernel
theorem dX7_troubleWith_18 : decode cX7_troubleWith 18 = .ok (.ireturn, 1) := by decide +kernel
theorem dX7_troubleWith_19 : decode cX7_troubleWith 19 = .ok (.aload_n 0, 1) := by decide +kernel
theorem dX7_troubleWith_20 : decode cX7_troubleWith 20 = .ok (.iload_n 2, 1) := by decide +kernel
theorem dX7_troubleWith_21 : decode cX7_troubleWith 21 = .ok (.invokevirtual 204, 3) := by decide +kernel
theorem dX7_troubleWith_24 : decode cX7_troubleWith 24 = .ok (.ifCond .eq 7, 3) := by decide +kernel
theorem dX7_troubleWith_27 : decode cX7_troubleWith 27 = .ok (.iconst 0, 1) := by decide +kernel
theorem dX7_troubleWith_28 : decode cX7_troubleWith 28 = .ok (.goto 4, 3) := by decide +kernel
theorem dX7_troubleWith_31 : decode cX7_troubleWith 31 = .ok (.iconst 2, 1) := by decide +kernel
theorem dX7_troubleWith_32 : decode cX7_troubleWith 32 = .ok (.ireturn, 1) := by decide +kernel
theorem dX7_countLeftOut_0 : decode cX7_countLeftOut 0 = .ok (.iconst 0, 1) := by decide +kernel
theorem dX7_countLeftOut_1 : decode cX7_countLeftOut 1 = .ok (.istore_n 1, 1) := by decide +kernel
theorem dX7_countLeftOut_2 : decode cX7_countLeftOut 2 = .ok (.iconst 0, 1) := by decide +kernel
theorem dX7_countLeftOut_3 : decode cX7_countLeftOut 3 = .ok (.istore_n 2, 1) := by decide +kernel
theorem dX7_countLeftOut_4 : decode cX7_countLeftOut 4 = .ok (.iload_n 2, 1) := by decide +kernel
theorem dX7_countLeftOut_5 : decode cX7_countLeftOut 5 = .ok (.aload_n 0, 1) := by decide +kernel
theorem dX7_countLeftOut_6 : decode cX7_countLeftOut 6 = .ok (.getfield 10, 3) := by decide +kernel
theorem dX7_countLeftOut_9 : decode cX7_countLeftOut 9 = .ok (.getfield 76, 3) := by decide +kernel
theorem dX7_countLeftOut_12 : decode cX7_countLeftOut 12 = .ok (.if_icmp .ge 21, 3) := by decide +kernel
theorem dX7_countLeftOut_15 : decode cX7_countLeftOut 15 = .ok (.aload_n 0, 1) := by decide +kernel
theorem dX7_countLeftOut_16 : decode cX7_countLeftOut 16 = .ok (.getfield 16, 3) := by decide +kernel
theorem dX7_countLeftOut_19 : decode cX7_countLeftOut 19 = .ok (.iload_n 2, 1) := by decide +kernel
theorem dX7_countLeftOut_20 : decode cX7_countLeftOut 20 = .ok (.baload, 1) := by decide +kernel
theorem dX7_countLeftOut_21 : decode cX7_countLeftOut 21 = .ok (.ifCond .eq 6, 3) := by decide +kernel
theorem dX7_countLeftOut_24 : decode cX7_countLeftOut 24 = .ok (.iinc 1 1, 3) := by decide +kernel
theorem dX7_countLeftOut_27 : decode cX7_countLeftOut 27 = .ok (.iinc 2 1, 3) := by decide +kernel
theorem dX7_countLeftOut_30 : decode cX7_countLeftOut 30 = .ok (.goto (-26), 3) := by decide +kernel
theorem dX7_countLeftOut_33 : decode cX7_countLeftOut 33 = .ok (.iload_n 1, 1) := by decide +kernel
theorem dX7_countLeftOut_34 : decode cX7_countLeftOut 34 = .ok (.ireturn, 1) := by decide +kernel
theorem dX7_countLost_0 : decode cX7_countLost 0 = .ok (.iconst 0, 1) := by decide +kernel
theorem dX7_countLost_1 : decode cX7_countLost 1 = .ok (.istore_n 1, 1) := by decide +kernel
theorem dX7_countLost_2 : decode cX7_countLost 2 = .ok (.iconst 0, 1) := by decide +kernel
theorem dX7_countLost_3 : decode cX7_countLost 3 = .ok (.istore_n 2, 1) := by decide +kernel
theorem dX7_countLost_4 : decode cX7_countLost 4 = .ok (.iload_n 2, 1) := by decide +kernel
theorem dX7_countLost_5 : decode cX7_countLost 5 = .ok (.iconst 4, 1) := by decide +kernel
theorem dX7_countLost_6 : decode cX7_countLost 6 = .ok (.if_icmp .ge 24, 3) := by decide +kernel
theorem dX7_countLost_9 : decode cX7_countLost 9 = .ok (.aload_n 0, 1) := by decide +kernel
theorem dX7_countLost_10 : decode cX7_countLost 10 = .ok (.getfield 54, 3) := by decide +kernel
theorem dX7_countLost_13 : decode cX7_countLost 13 = .ok (.iload_n 2, 1) := by decide +kernel
theorem dX7_countLost_14 : decode cX7_countLost 14 = .ok (.aaload, 1) := by decide +kernel
theorem dX7_countLost_15 : decode cX7_countLost 15 = .ok (.invokevirtual 197, 3) := by decide +kernel
theorem dX7_countLost_18 : decode cX7_countLost 18 = .ok (.ifCond .eq 6, 3) := by decide +kernel
theorem dX7_countLost_21 : decode cX7_countLost 21 = .ok (.iinc 1 1, 3) := by decide +kernel
theorem dX7_countLost_24 : decode cX7_countLost 24 = .ok (.iinc 2 1, 3) := by decide +kernel
theorem dX7_countLost_27 : decode cX7_countLost 27 = .ok (.goto (-23), 3) := by decide +kernel
theorem dX7_countLost_30 : decode cX7_countLost 30 = .ok (.iload_n 1, 1) := by decide +kernel
theorem dX7_countLost_31 : decode cX7_countLost 31 = .ok (.ireturn, 1) := by decide +kernel
theorem dX7_isMeasured_0 : decode cX7_isMeasured 0 = .ok (.aload_n 0, 1) := by decide +kernel
theorem dX7_isMeasured_1 : decode cX7_isMeasured 1 = .ok (.getfield 54, 3) := by decide +kernel
theorem dX7_isMeasured_4 : decode cX7_isMeasured 4 = .ok (.iconst 0, 1) := by decide +kernel
theorem dX7_isMeasured_5 : decode cX7_isMeasured 5 = .ok (.aaload, 1) := by decide +kernel
theorem dX7_isMeasured_6 : decode cX7_isMeasured 6 = .ok (.iconst 2, 1) := by decide +kernel
theorem dX7_isMeasured_7 : decode cX7_isMeasured 7 = .ok (.iload_n 1, 1) := by decide +kernel
theorem dX7_isMeasured_8 : decode cX7_isMeasured 8 = .ok (.imul, 1) := by decide +kernel
theorem dX7_isMeasured_9 : decode cX7_isMeasured 9 = .ok (.invokevirtual 265, 3) := by decide +kernel
theorem dX7_isMeasured_12 : decode cX7_isMeasured 12 = .ok (.ifCond .eq 24, 3) := by decide +kernel
theorem dX7_isMeasured_15 : decode cX7_isMeasured 15 = .ok (.aload_n 0, 1) := by decide +kernel
theorem dX7_isMeasured_16 : decode cX7_isMeasured 16 = .ok (.getfield 54, 3) := by decide +kernel
theorem dX7_isMeasured_19 : decode cX7_isMeasured 19 = .ok (.iconst 0, 1) := by decide +kernel
theorem dX7_isMeasured_20 : decode cX7_isMeasured 20 = .ok (.aaload, 1) := by decide +kernel
theorem dX7_isMeasured_21 : decode cX7_isMeasured 21 = .ok (.iconst 2, 1) := by decide +kernel
theorem dX7_isMeasured_22 : decode cX7_isMeasured 22 = .ok (.iload_n 1, 1) := by decide +kernel
theorem dX7_isMeasured_23 : decode cX7_isMeasured 23 = .ok (.imul, 1) := by decide +kernel
theorem dX7_isMeasured_24 : decode cX7_isMeasured 24 = .ok (.iconst 1, 1) := by decide +kernel
theorem dX7_isMeasured_25 : decode cX7_isMeasured 25 = .ok (.iadd, 1) := by decide +kernel
theorem dX7_isMeasured_26 : decode cX7_isMeasured 26 = .ok (.invokevirtual 265, 3) := by decide +kernel
theorem dX7_isMeasured_29 : decode cX7_isMeasured 29 = .ok (.ifCond .eq 7, 3) := by decide +kernel
theorem dX7_isMeasured_32 : decode cX7_isMeasured 32 = .ok (.iconst 1, 1) := by decide +kernel
theorem dX7_isMeasured_33 : decode cX7_isMeasured 33 = .ok (.goto 4, 3) := by decide +kernel
theorem dX7_isMeasured_36 : decode cX7_isMeasured 36 = .ok (.iconst 0, 1) := by decide +kernel
theorem dX7_isMeasured_37 : decode cX7_isMeasured 37 = .ok (.ireturn, 1) := by decide +kernel
theorem dX7_measured_0 : decode cX7_measured 0 = .ok (.aload_n 0, 1) := by decide +kernel
theorem dX7_measured_1 : decode cX7_measured 1 = .ok (.getfield 54, 3) := by decide +kernel
theorem dX7_measured_4 : decode cX7_measured 4 = .ok (.iconst 0, 1) := by decide +kernel
theorem dX7_measured_5 : decode cX7_measured 5 = .ok (.aaload, 1) := by decide +kernel
theorem dX7_measured_6 : decode cX7_measured 6 = .ok (.getfield 234, 3) := by decide +kernel
theorem dX7_measured_9 : decode cX7_measured 9 = .ok (.iconst 2, 1) := by decide +kernel
theorem dX7_measured_10 : decode cX7_measured 10 = .ok (.iload_n 1, 1) := by decide +kernel
theorem dX7_measured_11 : decode cX7_measured 11 = .ok (.imul, 1) := by decide +kernel
theorem dX7_measured_12 : decode cX7_measured 12 = .ok (.iload_n 2, 1) := by decide +kernel
theorem dX7_measured_13 : decode cX7_measured 13 = .ok (.iadd, 1) := by decide +kernel
theorem dX7_measured_14 : decode cX7_measured 14 = .ok (.iaload, 1) := by decide +kernel
theorem dX7_measured_15 : decode cX7_measured 15 = .ok (.ireturn, 1) := by decide +kernel
theorem dX7_missOf_0 : decode cX7_missOf 0 = .ok (.aload_n 0, 1) := by decide +kernel
theorem dX7_missOf_1 : decode cX7_missOf 1 = .ok (.getfield 10, 3) := by decide +kernel
theorem dX7_missOf_4 : decode cX7_missOf 4 = .ok (.iload_n 1, 1) := by decide +kernel
theorem dX7_missOf_5 : decode cX7_missOf 5 = .ok (.iconst 0, 1) := by decide +kernel
theorem dX7_missOf_6 : decode cX7_missOf 6 = .ok (.invokevirtual 88, 3) := by decide +kernel
theorem dX7_missOf_9 : decode cX7_missOf 9 = .ok (.bipush 65, 2) := by decide +kernel
theorem dX7_missOf_11 : decode cX7_missOf 11 = .ok (.aload_n 0, 1) := by decide +kernel
theorem dX7_missOf_12 : decode cX7_missOf 12 = .ok (.iload_n 1, 1) := by decide +kernel
theorem dX7_missOf_13 : decode cX7_missOf 13 = .ok (.iconst 0, 1) := by decide +kernel
theorem dX7_missOf_14 : decode cX7_missOf 14 = .ok (.invokevirtual 123, 3) := by decide +kernel
theorem dX7_missOf_17 : decode cX7_missOf 17 = .ok (.imul, 1) := by decide +kernel
theorem dX7_missOf_18 : decode cX7_missOf 18 = .ok (.isub, 1) := by decide +kernel
theorem dX7_missOf_19 : decode cX7_missOf 19 = .ok (.invokestatic 268, 3) := by decide +kernel
theorem dX7_missOf_22 : decode cX7_missOf 22 = .ok (.istore_n 2, 1) := by decide +kernel
theorem dX7_missOf_23 : decode cX7_missOf 23 = .ok (.aload_n 0, 1) := by decide +kernel
theorem dX7_missOf_24 : decode cX7_missOf 24 = .ok (.getfield 10, 3) := by decide +kernel
theorem dX7_missOf_27 : decode cX7_missOf 27 = .ok (.iload_n 1, 1) := by decide +kernel
theorem dX7_missOf_28 : decode cX7_missOf 28 = .ok (.iconst 1, 1) := by decide +kernel
theorem dX7_missOf_29 : decode cX7_missOf 29 = .ok (.invokevirtual 88, 3) := by decide +kernel
theorem dX7_missOf_32 : decode cX7_missOf 32 = .ok (.bipush 65, 2) := by decide +kernel
theorem dX7_missOf_34 : decode cX7_missOf 34 = .ok (.aload_n 0, 1) := by decide +kernel
theorem dX7_missOf_35 : decode cX7_missOf 35 = .ok (.iload_n 1, 1) := by decide +kernel
theorem dX7_missOf_36 : decode cX7_missOf 36 = .ok (.iconst 1, 1) := by decide +kernel
theorem dX7_missOf_37 : decode cX7_missOf 37 = .ok (.invokevirtual 123, 3) := by decide +kernel
theorem dX7_missOf_40 : decode cX7_missOf 40 = .ok (.imul, 1) := by decide +kernel
theorem dX7_missOf_41 : decode cX7_missOf 41 = .ok (.isub, 1) := by decide +kernel
theorem dX7_missOf_42 : decode cX7_missOf 42 = .ok (.invokestatic 268, 3) := by decide +kernel
theorem dX7_missOf_45 : decode cX7_missOf 45 = .ok (.istore_n 3, 1) := by decide +kernel
theorem dX7_missOf_46 : decode cX7_missOf 46 = .ok (.iload_n 2, 1) := by decide +kernel
theorem dX7_missOf_47 : decode cX7_missOf 47 = .ok (.iload_n 3, 1) := by decide +kernel
theorem dX7_missOf_48 : decode cX7_missOf 48 = .ok (.invokestatic 271, 3) := by decide +kernel
theorem dX7_missOf_51 : decode cX7_missOf 51 = .ok (.ireturn, 1) := by decide +kernel
theorem dX7_listUsed_0 : decode cX7_listUsed 0 = .ok (.iconst 0, 1) := by decide +kernel
theorem dX7_listUsed_1 : decode cX7_listUsed 1 = .ok (.istore_n 1, 1) := by decide +kernel
theorem dX7_listUsed_2 : decode cX7_listUsed 2 = .ok (.iconst 0, 1) := by decide +kernel
theorem dX7_listUsed_3 : decode cX7_listUsed 3 = .ok (.istore_n 2, 1) := by decide +kernel
theorem dX7_listUsed_4 : decode cX7_listUsed 4 = .ok (.iload_n 2, 1) := by decide +kernel
theorem dX7_listUsed_5 : decode cX7_listUsed 5 = .ok (.aload_n 0, 1) := by decide +kernel
theorem dX7_listUsed_6 : decode cX7_listUsed 6 = .ok (.getfield 10, 3) := by decide +kernel
theorem dX7_listUsed_9 : decode cX7_listUsed 9 = .ok (.getfield 76, 3) := by decide +kernel
theorem dX7_listUsed_12 : decode cX7_listUsed 12 = .ok (.if_icmp .ge 42, 3) := by decide +kernel
theorem dX7_listUsed_15 : decode cX7_listUsed 15 = .ok (.iload_n 1, 1) := by decide +kernel
theorem dX7_listUsed_16 : decode cX7_listUsed 16 = .ok (.bipush 12, 2) := by decide +kernel
theorem dX7_listUsed_18 : decode cX7_listUsed 18 = .ok (.if_icmp .ge 36, 3) := by decide +kernel
theorem dX7_listUsed_21 : decode cX7_listUsed 21 = .ok (.aload_n 0, 1) := by decide +kernel
theorem dX7_listUsed_22 : decode cX7_listUsed 22 = .ok (.getfield 16, 3) := by decide +kernel
theorem dX7_listUsed_25 : decode cX7_listUsed 25 = .ok (.iload_n 2, 1) := by decide +kernel
theorem dX7_listUsed_26 : decode cX7_listUsed 26 = .ok (.baload, 1) := by decide +kernel
theorem dX7_listUsed_27 : decode cX7_listUsed 27 = .ok (.ifCond .ne 21, 3) := by decide +kernel
theorem dX7_listUsed_30 : decode cX7_listUsed 30 = .ok (.aload_n 0, 1) := by decide +kernel
theorem dX7_listUsed_31 : decode cX7_listUsed 31 = .ok (.iload_n 2, 1) := by decide +kernel
theorem dX7_listUsed_32 : decode cX7_listUsed 32 = .ok (.invokevirtual 120, 3) := by decide +kernel
theorem dX7_listUsed_35 : decode cX7_listUsed 35 = .ok (.ifCond .eq 13, 3) := by decide +kernel
theorem dX7_listUsed_38 : decode cX7_listUsed 38 = .ok (.aload_n 0, 1) := by decide +kernel
theorem dX7_listUsed_39 : decode cX7_listUsed 39 = .ok (.getfield 20, 3) := by decide +kernel
theorem dX7_listUsed_42 : decode cX7_listUsed 42 = .ok (.iload_n 1, 1) := by decide +kernel
theorem dX7_listUsed_43 : decode cX7_listUsed 43 = .ok (.iload_n 2, 1) := by decide +kernel
theorem dX7_listUsed_44 : decode cX7_listUsed 44 = .ok (.iastore, 1) := by decide +kernel
theorem dX7_listUsed_45 : decode cX7_listUsed 45 = .ok (.iinc 1 1, 3) := by decide +kernel
theorem dX7_listUsed_48 : decode cX7_listUsed 48 = .ok (.iinc 2 1, 3) := by decide +kernel
theorem dX7_listUsed_51 : decode cX7_listUsed 51 = .ok (.goto (-47), 3) := by decide +kernel
theorem dX7_listUsed_54 : decode cX7_listUsed 54 = .ok (.iload_n 1, 1) := by decide +kernel
theorem dX7_listUsed_55 : decode cX7_listUsed 55 = .ok (.ireturn, 1) := by decide +kernel
theorem dX7_sumUsed_0 : decode cX7_sumUsed 0 = .ok (.aload_n 0, 1) := by decide +kernel
theorem dX7_sumUsed_1 : decode cX7_sumUsed 1 = .ok (.invokevirtual 126, 3) := by decide +kernel
theorem dX7_sumUsed_4 : decode cX7_sumUsed 4 = .ok (.istore_n 1, 1) := by decide +kernel
theorem dX7_sumUsed_5 : decode cX7_sumUsed 5 = .ok (.aload_n 0, 1) := by decide +kernel
theorem dX7_sumUsed_6 : decode cX7_sumUsed 6 = .ok (.getfield 27, 3) := by decide +kernel
theorem dX7_sumUsed_9 : decode cX7_sumUsed 9 = .ok (.invokevirtual 273, 3) := by decide +kernel
theorem dX7_sumUsed_12 : decode cX7_sumUsed 12 = .ok (.iconst 0, 1) := by decide +kernel
theorem dX7_sumUsed_13 : decode cX7_sumUsed 13 = .ok (.istore_n 2, 1) := by decide +kernel
theorem dX7_sumUsed_14 : decode cX7_sumUsed 14 = .ok (.iload_n 2, 1) := by decide +kernel
theorem dX7_sumUsed_15 : decode cX7_sumUsed 15 = .ok (.iload_n 1, 1) := by decide +kernel
theorem dX7_sumUsed_16 : decode cX7_sumUsed 16 = .ok (.if_icmp .ge 52, 3) := by decide +kernel
theorem dX7_sumUsed_19 : decode cX7_sumUsed 19 = .ok (.aload_n 0, 1) := by decide +kernel
theorem dX7_sumUsed_20 : decode cX7_sumUsed 20 = .ok (.getfield 20, 3) := by decide +kernel
theorem dX7_sumUsed_23 : decode cX7_sumUsed 23 = .ok (.iload_n 2, 1) := by decide +kernel
theorem dX7_sumUsed_24 : decode cX7_sumUsed 24 = .ok (.iaload, 1) := by decide +kernel
theorem dX7_sumUsed_25 : decode cX7_sumUsed 25 = .ok (.istore_n 3, 1) := by decide +kernel
theorem dX7_sumUsed_26 : decode cX7_sumUsed 26 = .ok (.aload_n 0, 1) := by decide +kernel
theorem dX7_sumUsed_27 : decode cX7_sumUsed 27 = .ok (.getfield 27, 3) := by decide +kernel
theorem dX7_sumUsed_30 : decode cX7_sumUsed 30 = .ok (.aload_n 0, 1) := by decide +kernel
theorem dX7_sumUsed_31 : decode cX7_sumUsed 31 = .ok (.getfield 10, 3) := by decide +kernel
theorem dX7_sumUsed_34 : decode cX7_sumUsed 34 = .ok (.iload_n 3, 1) := by decide +kernel
theorem dX7_sumUsed_35 : decode cX7_sumUsed 35 = .ok (.invokevirtual 276, 3) := by decide +kernel
theorem dX7_sumUsed_38 : decode cX7_sumUsed 38 = .ok (.aload_n 0, 1) := by decide +kernel
theorem dX7_sumUsed_39 : decode cX7_sumUsed 39 = .ok (.getfield 27, 3) := by decide +kernel
theorem dX7_sumUsed_42 : decode cX7_sumUsed 42 = .ok (.aload_n 0, 1) := by decide +kernel
theorem dX7_sumUsed_43 : decode cX7_sumUsed 43 = .ok (.getfield 10, 3) := by decide +kernel
theorem dX7_sumUsed_46 : decode cX7_sumUsed 46 = .ok (.iload_n 3, 1) := by decide +kernel
theorem dX7_sumUsed_47 : decode cX7_sumUsed 47 = .ok (.aload_n 0, 1) := by decide +kernel
theorem dX7_sumUsed_48 : decode cX7_sumUsed 48 = .ok (.iload_n 3, 1) := by decide +kernel
theorem dX7_sumUsed_49 : decode cX7_sumUsed 49 = .ok (.iconst 0, 1) := by decide +kernel
theorem dX7_sumUsed_50 : decode cX7_sumUsed 50 = .ok (.invokevirtual 123, 3) := by decide +kernel
theorem dX7_sumUsed_53 : decode cX7_sumUsed 53 = .ok (.aload_n 0, 1) := by decide +kernel
theorem dX7_sumUsed_54 : decode cX7_sumUsed 54 = .ok (.iload_n 3, 1) := by decide +kernel
theorem dX7_sumUsed_55 : decode cX7_sumUsed 55 = .ok (.iconst 1, 1) := by decide +kernel
theorem dX7_sumUsed_56 : decode cX7_sumUsed 56 = .ok (.invokevirtual 123, 3) := by decide +kernel
theorem dX7_sumUsed_59 : decode cX7_sumUsed 59 = .ok (.invokevirtual 280, 3) := by decide +kernel
theorem dX7_sumUsed_62 : decode cX7_sumUsed 62 = .ok (.iinc 2 1, 3) := by decide +kernel
theorem dX7_sumUsed_65 : decode cX7_sumUsed 65 = .ok (.goto (-51), 3) := by decide +kernel
theorem dX7_sumUsed_68 : decode cX7_sumUsed 68 = .ok (.return_, 1) := by decide +kernel
theorem dX7_choosableSets_0 : decode cX7_choosableSets 0 = .ok (.iconst 1, 1) := by decide +kernel
theorem dX7_choosableSets_1 : decode cX7_choosableSets 1 = .ok (.aload_n 0, 1) := by decide +kernel
theorem dX7_choosableSets_2 : decode cX7_choosableSets 2 = .ok (.getfield 10, 3) := by decide +kernel
theorem dX7_choosableSets_5 : decode cX7_choosableSets 5 = .ok (.getfield 76, 3) := by decide +kernel
theorem dX7_choosableSets_8 : decode cX7_choosableSets 8 = .ok (.bipush 10, 2) := by decide +kernel
theorem dX7_choosableSets_10 : decode cX7_choosableSets 10 = .ok (.invokestatic 284, 3) := by decide +kernel
theorem dX7_choosableSets_13 : decode cX7_choosableSets 13 = .ok (.ishl, 1) := by decide +kernel
theorem dX7_choosableSets_14 : decode cX7_choosableSets 14 = .ok (.ireturn, 1) := by decide +kernel
theorem dX7_weightOf_0 : decode cX7_weightOf 0 = .ok (.aload_n 0, 1) := by decide +kernel
theorem dX7_weightOf_1 : decode cX7_weightOf 1 = .ok (.getfield 27, 3) := by decide +kernel
theorem dX7_weightOf_4 : decode cX7_weightOf 4 = .ok (.invokevirtual 273, 3) := by decide +kernel
theorem dX7_weightOf_7 : decode cX7_weightOf 7 = .ok (.iconst 0, 1) := by decide +kernel
theorem dX7_weightOf_8 : decode cX7_weightOf 8 = .ok (.istore_n 2, 1) := by decide +kernel
theorem dX7_weightOf_9 : decode cX7_weightOf 9 = .ok (.iload_n 2, 1) := by decide +kernel
theorem dX7_weightOf_10 : decode cX7_weightOf 10 = .ok (.bipush 10, 2) := by decide +kernel
theorem dX7_weightOf_12 : decode cX7_weightOf 12 = .ok (.if_icmp .ge 30, 3) := by decide +kernel
theorem dX7_weightOf_15 : decode cX7_weightOf 15 = .ok (.iload_n 1, 1) := by decide +kernel
theorem dX7_weightOf_16 : decode cX7_weightOf 16 = .ok (.iload_n 2, 1) := by decide +kernel
theorem dX7_weightOf_17 : decode cX7_weightOf 17 = .ok (.ishr, 1) := by decide +kernel
theorem dX7_weightOf_18 : decode cX7_weightOf 18 = .ok (.iconst 1, 1) := by decide +kernel
theorem dX7_weightOf_19 : decode cX7_weightOf 19 = .ok (.iand, 1) := by decide +kernel
theorem dX7_weightOf_20 : decode cX7_weightOf 20 = .ok (.iconst 1, 1) := by decide +kernel
theorem dX7_weightOf_21 : decode cX7_weightOf 21 = .ok (.if_icmp .ne 15, 3) := by decide +kernel
theorem dX7_weightOf_24 : decode cX7_weightOf 24 = .ok (.aload_n 0, 1) := by decide +kernel
theorem dX7_weightOf_25 : decode cX7_weightOf 25 = .ok (.getfield 27, 3) := by decide +kernel
theorem dX7_weightOf_28 : decode cX7_weightOf 28 = .ok (.aload_n 0, 1) := by decide +kernel
theorem dX7_weightOf_29 : decode cX7_weightOf 29 = .ok (.getfield 10, 3) := by decide +kernel
theorem dX7_weightOf_32 : decode cX7_weightOf 32 = .ok (.iload_n 2, 1) := by decide +kernel
theorem dX7_weightOf_33 : decode cX7_weightOf 33 = .ok (.invokevirtual 276, 3) := by decide +kernel
theorem dX7_weightOf_36 : decode cX7_weightOf 36 = .ok (.iinc 2 1, 3) := by decide +kernel
theorem dX7_weightOf_39 : decode cX7_weightOf 39 = .ok (.goto (-30), 3) := by decide +kernel
theorem dX7_weightOf_42 : decode cX7_weightOf 42 = .ok (.aload_n 0, 1) := by decide +kernel
theorem dX7_weightOf_43 : decode cX7_weightOf 43 = .ok (.getfield 27, 3) := by decide +kernel
theorem dX7_weightOf_46 : decode cX7_weightOf 46 = .ok (.invokevirtual 286, 3) := by decide +kernel
theorem dX7_weightOf_49 : decode cX7_weightOf 49 = .ok (.lreturn, 1) := by decide +kernel
theorem dX8_init_0 : decode cX8_init 0 = .ok (.aload_n 0, 1) := by decide +kernel
theorem dX8_init_1 : decode cX8_init 1 = .ok (.invokespecial 1, 3) := by decide +kernel
theorem dX8_init_4 : decode cX8_init 4 = .ok (.aload_n 0, 1) := by decide +kernel
theorem dX8_init_5 : decode cX8_init 5 = .ok (.bipush 36, 2) := by decide +kernel
theorem dX8_init_7 : decode cX8_init 7 = .ok (.newarray .int, 2) := by decide +kernel
theorem dX8_init_9 : decode cX8_init 9 = .ok (.putfield 7, 3) := by decide +kernel
theorem dX8_init_12 : decode cX8_init 12 = .ok (.aload_n 0, 1) := by decide +kernel
theorem dX8_init_13 : decode cX8_init 13 = .ok (.iconst 3, 1) := by decide +kernel
theorem dX8_init_14 : decode cX8_init 14 = .ok (.newarray .int, 2) := by decide +kernel
theorem dX8_init_16 : decode cX8_init 16 = .ok (.putfield 13, 3) := by decide +kernel
theorem dX8_init_19 : decode cX8_init 19 = .ok (.aload_n 0, 1) := by decide +kernel
theorem dX8_init_20 : decode cX8_init 20 = .ok (.bipush 60, 2) := by decide +kernel
theorem dX8_init_22 : decode cX8_init 22 = .ok (.newarray .int, 2) := by decide +kernel
theorem dX8_init_24 : decode cX8_init 24 = .ok (.putfield 16, 3) := by decide +kernel
theorem dX8_init_27 : decode cX8_init 27 = .ok (.aload_n 0, 1) := by decide +kernel
theorem dX8_init_28 : decode cX8_init 28 = .ok (.bipush 20, 2) := by decide +kernel
theorem dX8_init_30 : decode cX8_init 30 = .ok (.newarray .boolean, 2) := by decide +kernel
theorem dX8_init_32 : decode cX8_init 32 = .ok (.putfield 19, 3) := by decide +kernel
theorem dX8_init_35 : decode cX8_init 35 = .ok (.aload_n 0, 1) := by decide +kernel
theorem dX8_init_36 : decode cX8_init 36 = .ok (.bipush 12, 2) := by decide +kernel
theorem dX8_init_38 : decode cX8_init 38 = .ok (.newarray .int, 2) := by decide +kernel
theorem dX8_init_40 : decode cX8_init 40 = .ok (.putfield 23, 3) := by decide +kernel
theorem dX8_init_43 : decode cX8_init 43 = .ok (.aload_n 0, 1) := by decide +kernel
theorem dX8_init_44 : decode cX8_init 44 = .ok (.bipush 9, 2) := by decide +kernel
theorem dX8_init_46 : decode cX8_init 46 = .ok (.newarray .long, 2) := by decide +kernel
theorem dX8_init_48 : decode cX8_init 48 = .ok (.putfield 26, 3) := by decide +kernel
theorem dX8_init_51 : decode cX8_init 51 = .ok (.aload_n 0, 1) := by decide +kernel
theorem dX8_init_52 : decode cX8_init 52 = .ok (.iconst 3, 1) := by decide +kernel
theorem dX8_init_53 : decode cX8_init 53 = .ok (.newarray .long, 2) := by decide +kernel
theorem dX8_init_55 : decode cX8_init 55 = .ok (.putfield 30, 3) := by decide +kernel
theorem dX8_init_58 : decode cX8_init 58 = .ok (.aload_n 0, 1) := by decide +kernel
theorem dX8_init_59 : decode cX8_init 59 = .ok (.iconst 3, 1) := by decide +kernel
theorem dX8_init_60 : decode cX8_init 60 = .ok (.newarray .long, 2) := by decide +kernel
theorem dX8_init_62 : decode cX8_init 62 = .ok (.putfield 33, 3) := by decide +kernel
theorem dX8_init_65 : decode cX8_init 65 = .ok (.aload_n 0, 1) := by decide +kernel
theorem dX8_init_66 : decode cX8_init 66 = .ok (.bipush 20, 2) := by decide +kernel
theorem dX8_init_68 : decode cX8_init 68 = .ok (.newarray .int, 2) := by decide +kernel
theorem dX8_init_70 : decode cX8_init 70 = .ok (.putfield 36, 3) := by decide +kernel
theorem dX8_init_73 : decode cX8_init 73 = .ok (.aload_n 0, 1) := by decide +kernel
theorem dX8_init_74 : decode cX8_init 74 = .ok (.bipush 20, 2) := by decide +kernel
theorem dX8_init_76 : decode cX8_init 76 = .ok (.newarray .int, 2) := by decide +kernel
theorem dX8_init_78 : decode cX8_init 78 = .ok (.putfield 39, 3) := by decide +kernel
theorem dX8_init_81 : decode cX8_init 81 = .ok (.aload_n 0, 1) := by decide +kernel
theorem dX8_init_82 : decode cX8_init 82 = .ok (.bipush 20, 2) := by decide +kernel
theorem dX8_init_84 : decode cX8_init 84 = .ok (.newarray .int, 2) := by decide +kernel
theorem dX8_init_86 : decode cX8_init 86 = .ok (.putfield 42, 3) := by decide +kernel
theorem dX8_init_89 : decode cX8_init 89 = .ok (.aload_n 0, 1) := by decide +kernel
theorem dX8_init_90 : decode cX8_init 90 = .ok (.bipush 20, 2) := by decide +kernel
theorem dX8_init_92 : decode cX8_init 92 = .ok (.newarray .int, 2) := by decide +kernel
theorem dX8_init_94 : decode cX8_init 94 = .ok (.putfield 45, 3) := by decide +kernel
theorem dX8_init_97 : decode cX8_init 97 = .ok (.aload_n 0, 1) := by decide +kernel
theorem dX8_init_98 : decode cX8_init 98 = .ok (.iconst 3, 1) := by decide +kernel
theorem dX8_init_99 : decode cX8_init 99 = .ok (.newarray .int, 2) := by decide +kernel
theorem dX8_init_101 : decode cX8_init 101 = .ok (.putfield 48, 3) := by decide +kernel
theorem dX8_init_104 : decode cX8_init 104 = .ok (.aload_n 0, 1) := by decide +kernel
theorem dX8_init_105 : decode cX8_init 105 = .ok (.iconst 3, 1) := by decide +kernel
theorem dX8_init_106 : decode cX8_init 106 = .ok (.newarray .int, 2) := by decide +kernel
theorem dX8_init_108 : decode cX8_init 108 = .ok (.putfield 51, 3) := by decide +kernel
theorem dX8_init_111 : decode cX8_init 111 = .ok (.aload_n 0, 1) := by decide +kernel
theorem dX8_init_112 : decode cX8_init 112 = .ok (.iconst 4, 1) := by decide +kernel
theorem dX8_init_113 : decode cX8_init 113 = .ok (.newarray .int, 2) := by decide +kernel
theorem dX8_init_115 : decode cX8_init 115 = .ok (.putfield 54, 3) := by decide +kernel
theorem dX8_init_118 : decode cX8_init 118 = .ok (.aload_n 0, 1) := by decide +kernel
theorem dX8_init_119 : decode cX8_init 119 = .ok (.iconst 4, 1) := by decide +kernel
theorem dX8_init_120 : decode cX8_init 120 = .ok (.newarray .int, 2) := by decide +kernel
theorem dX8_init_122 : decode cX8_init 122 = .ok (.putfield 57, 3) := by decide +kernel
theorem dX8_init_125 : decode cX8_init 125 = .ok (.aload_n 0, 1) := by decide +kernel
theorem dX8_init_126 : decode cX8_init 126 = .ok (.sipush 400, 3) := by decide +kernel
theorem dX8_init_129 : decode cX8_init 129 = .ok (.newarray .int, 2) := by decide +kernel
theorem dX8_init_131 : decode cX8_init 131 = .ok (.putfield 60, 3) := by decide +kernel
theorem dX8_init_134 : decode cX8_init 134 = .ok (.aload_n 0, 1) := by decide +kernel
theorem dX8_init_135 : decode cX8_init 135 = .ok (.bipush 100, 2) := by decide +kernel
theorem dX8_init_137 : decode cX8_init 137 = .ok (.newarray .int, 2) := by decide +kernel
theorem dX8_init_139 : decode cX8_init 139 = .ok (.putfield 63, 3) := by decide +kernel
theorem dX8_init_142 : decode cX8_init 142 = .ok (.aload_n 0, 1) := by decide +kernel
theorem dX8_init_143 : decode cX8_init 143 = .ok (.getfield 7, 3) := by decide +kernel
theorem dX8_init_146 : decode cX8_init 146 = .ok (.iconst 0, 1) := by decide +kernel
theorem dX8_init_147 : decode cX8_init 147 = .ok (.bipush 65, 2) := by decide +kernel
theorem dX8_init_149 : decode cX8_init 149 = .ok (.iastore, 1) := by decide +kernel
theorem dX8_init_150 : decode cX8_init 150 = .ok (.aload_n 0, 1) := by decide +kernel
theorem dX8_init_151 : decode cX8_init 151 = .ok (.getfield 7, 3) := by decide +kernel
theorem dX8_init_154 : decode cX8_init 154 = .ok (.iconst 1, 1) := by decide +kernel
theorem dX8_init_155 : decode cX8_init 155 = .ok (.bipush 63, 2) := by decide +kernel
theorem dX8_init_157 : decode cX8_init 157 = .ok (.iastore, 1) := by decide +kernel
theorem dX8_init_158 : decode cX8_init 158 = .ok (.aload_n 0, 1) := by decide +kernel
theorem dX8_init_159 : decode cX8_init 159 = .ok (.getfield 7, 3) := by decide +kernel
theorem dX8_init_162 : decode cX8_init 162 = .ok (.iconst 2, 1) := by decide +kernel
theorem dX8_init_163 : decode cX8_init 163 = .ok (.bipush 60, 2) := by decide +kernel
theorem dX8_init_165 : decode cX8_init 165 = .ok (.iastore, 1) := by decide +kernel
theorem dX8_init_166 : decode cX8_init 166 = .ok (.aload_n 0, 1) := by decide +kernel
theorem dX8_init_167 : decode cX8_init 167 = .ok (.getfield 7, 3) := by decide +kernel
theorem dX8_init_170 : decode cX8_init 170 = .ok (.iconst 3, 1) := by decide +kernel
theorem dX8_init_171 : decode cX8_init 171 = .ok (.bipush 56, 2) := by decide +kernel
theorem dX8_init_173 : decode cX8_init 173 = .ok (.iastore, 1) := by decide +kernel
theorem dX8_init_174 : decode cX8_init 174 = .ok (.aload_n 0, 1) := by decide +kernel
theorem dX8_init_175 : decode cX8_init 175 = .ok (.getfield 7, 3) := by decide +kernel
theorem dX8_init_178 : decode cX8_init 178 = .ok (.iconst 4, 1) := by decide +kernel
theorem dX8_init_179 : decode cX8_init 179 = .ok (.bipush 52, 2) := by decide +kernel
theorem dX8_init_181 : decode cX8_init 181 = .ok (.iastore, 1) := by decide +kernel
theorem dX8_init_182 : decode cX8_init 182 = .ok (.aload_n 0, 1) := by decide +kernel
theorem dX8_init_183 : decode cX8_init 183 = .ok (.getfield 7, 3) := by decide +kernel
theorem dX8_init_186 : decode cX8_init 186 = .ok (.iconst 5, 1) := by decide +kernel
theorem dX8_init_187 : decode cX8_init 187 = .ok (.bipush 39, 2) := by decide +kernel
theorem dX8_init_189 : decode cX8_init 189 = .ok (.iastore, 1) := by decide +kernel
theorem dX8_init_190 : decode cX8_init 190 = .ok (.aload_n 0, 1) := by decide +kernel
theorem dX8_init_191 : decode cX8_init 191 = .ok (.getfield 7, 3) := by decide +kernel
theorem dX8_init_194 : decode cX8_init 194 = .ok (.bipush 6, 2) := by decide +kernel
theorem dX8_init_196 : decode cX8_init 196 = .ok (.bipush 33, 2) := by decide +kernel
theorem dX8_init_198 : decode cX8_init 198 = .ok (.iastore, 1) := by decide +kernel
theorem dX8_init_199 : decode cX8_init 199 = .ok (.aload_n 0, 1) := by decide +kernel
theorem dX8_init_200 : decode cX8_init 200 = .ok (.getfield 7, 3) := by decide +kernel
theorem dX8_init_203 : decode cX8_init 203 = .ok (.bipush 7, 2) := by decide +kernel
theorem dX8_init_205 : decode cX8_init 205 = .ok (.bipush 25, 2) := by decide +kernel
theorem dX8_init_207 : decode cX8_init 207 = .ok (.iastore, 1) := by decide +kernel
theorem dX8_init_208 : decode cX8_init 208 = .ok (.aload_n 0, 1) := by decide +kernel
theorem dX8_init_209 : decode cX8_init 209 = .ok (.getfield 7, 3) := by decide +kernel
theorem dX8_init_212 : decode cX8_init 212 = .ok (.bipush 8, 2) := by decide +kernel
theorem dX8_init_214 : decode cX8_init 214 = .ok (.bipush 16, 2) := by decide +kernel
theorem dX8_init_216 : decode cX8_init 216 = .ok (.iastore, 1) := by decide +kernel
theorem dX8_init_217 : decode cX8_init 217 = .ok (.aload_n 0, 1) := by decide +kernel
theorem dX8_init_218 : decode cX8_init 218 = .ok (.getfield 7, 3) := by decide +kernel
theorem dX8_init_221 : decode cX8_init 221 = .ok (.bipush 9, 2) := by decide +kernel
theorem dX8_init_223 : decode cX8_init 223 = .ok (.iconst 0, 1) := by decide +kernel
theorem dX8_init_224 : decode cX8_init 224 = .ok (.iastore, 1) := by decide +kernel
theorem dX8_init_225 : decode cX8_init 225 = .ok (.bipush 10, 2) := by decide +kernel
theorem dX8_init_227 : decode cX8_init 227 = .ok (.istore_n 1, 1) := by decide +kernel
theorem dX8_init_228 : decode cX8_init 228 = .ok (.iload_n 1, 1) := by decide +kernel
theorem dX8_init_229 : decode cX8_init 229 = .ok (.bipush 19, 2) := by decide +kernel
theorem dX8_init_231 : decode cX8_init 231 = .ok (.if_icmp .ge 25, 3) := by decide +kernel
theorem dX8_init_234 : decode cX8_init 234 = .ok (.aload_n 0, 1) := by decide +kernel
theorem dX8_init_235 : decode cX8_init 235 = .ok (.getfield 7, 3) := by decide +kernel
theorem dX8_init_238 : decode cX8_init 238 = .ok (.iload_n 1, 1) := by decide +kernel
theorem dX8_init_239 : decode cX8_init 239 = .ok (.aload_n 0, 1) := by decide +kernel
theorem dX8_init_240 : decode cX8_init 240 = .ok (.getfield 7, 3) := by decide +kernel
theorem dX8_init_243 : decode cX8_init 243 = .ok (.bipush 18, 2) := by decide +kernel
theorem dX8_init_245 : decode cX8_init 245 = .ok (.iload_n 1, 1) := by decide +kernel
theorem dX8_init_246 : decode cX8_init 246 = .ok (.isub, 1) := by decide +kernel
theorem dX8_init_247 : decode cX8_init 247 = .ok (.iaload, 1) := by decide +kernel
theorem dX8_init_248 : decode cX8_init 248 = .ok (.ineg, 1) := by decide +kernel
theorem dX8_init_249 : decode cX8_init 249 = .ok (.iastore, 1) := by decide +kernel
theorem dX8_init_250 : decode cX8_init 250 = .ok (.iinc 1 1, 3) := by decide +kernel
theorem dX8_init_253 : decode cX8_init 253 = .ok (.goto (-25), 3) := by decide +kernel
theorem dX8_init_256 : decode cX8_init 256 = .ok (.bipush 19, 2) := by decide +kernel
theorem dX8_init_258 : decode cX8_init 258 = .ok (.istore_n 1, 1) := by decide +kernel
theorem dX8_init_259 : decode cX8_init 259 = .ok (.iload_n 1, 1) := by decide +kernel
theorem dX8_init_260 : decode cX8_init 260 = .ok (.bipush 28, 2) := by decide +kernel
theorem dX8_init_262 : decode cX8_init 262 = .ok (.if_icmp .ge 25, 3) := by decide +kernel
theorem dX8_init_265 : decode cX8_init 265 = .ok (.aload_n 0, 1) := by decide +kernel
theorem dX8_init_266 : decode cX8_init 266 = .ok (.getfield 7, 3) := by decide +kernel
theorem dX8_init_269 : decode cX8_init 269 = .ok (.iload_n 1, 1) := by decide +kernel
theorem dX8_init_270 : decode cX8_init 270 = .ok (.aload_n 0, 1) := by decide +kernel
theorem dX8_init_271 : decode cX8_init 271 = .ok (.getfield 7, 3) := by decide +kernel
theorem dX8_init_274 : decode cX8_init 274 = .ok (.iload_n 1, 1) := by decide +kernel
theorem dX8_init_275 : decode cX8_init 275 = .ok (.bipush 18, 2) := by decide +kernel
theorem dX8_init_277 : decode cX8_init 277 = .ok (.isub, 1) := by decide +kernel
theorem dX8_init_278 : decode cX8_init 278 = .ok (.iaload, 1) := by decide +kernel
theorem dX8_init_279 : decode cX8_init 279 = .ok (.ineg, 1) := by decide +kernel
theorem dX8_init_280 : decode cX8_init 280 = .ok (.iastore, 1) := by decide +kernel
theorem dX8_init_281 : decode cX8_init 281 = .ok (.iinc 1 1, 3) := by decide +kernel
theorem dX8_init_284 : decode cX8_init 284 = .ok (.goto (-25), 3) := by decide +kernel
theorem dX8_init_287 : decode cX8_init 287 = .ok (.bipush 28, 2) := by decide +kernel
theorem dX8_init_289 : decode cX8_init 289 = .ok (.istore_n 1, 1) := by decide +kernel
theorem dX8_init_290 : decode cX8_init 290 = .ok (.iload_n 1, 1) := by decide +kernel
theorem dX8_init_291 : decode cX8_init 291 = .ok (.bipush 36, 2) := by decide +kernel
theorem dX8_init_293 : decode cX8_init 293 = .ok (.if_icmp .ge 24, 3) := by decide +kernel
theorem dX8_init_296 : decode cX8_init 296 = .ok (.aload_n 0, 1) := by decide +kernel
theorem dX8_init_297 : decode cX8_init 297 = .ok (.getfield 7, 3) := by decide +kernel
theorem dX8_init_300 : decode cX8_init 300 = .ok (.iload_n 1, 1) := by decide +kernel
theorem dX8_init_301 : decode cX8_init 301 = .ok (.aload_n 0, 1) := by decide +kernel
theorem dX8_init_302 : decode cX8_init 302 = .ok (.getfield 7, 3) := by decide +kernel
theorem dX8_init_305 : decode cX8_init 305 = .ok (.bipush 36, 2) := by decide +kernel
theorem dX8_init_307 : decode cX8_init 307 = .ok (.iload_n 1, 1) := by decide +kernel
theorem dX8_init_308 : decode cX8_init 308 = .ok (.isub, 1) := by decide +kernel
theorem dX8_init_309 : decode cX8_init 309 = .ok (.iaload, 1) := by decide +kernel
theorem dX8_init_310 : decode cX8_init 310 = .ok (.iastore, 1) := by decide +kernel
theorem dX8_init_311 : decode cX8_init 311 = .ok (.iinc 1 1, 3) := by decide +kernel
theorem dX8_init_314 : decode cX8_init 314 = .ok (.goto (-24), 3) := by decide +kernel
theorem dX8_init_317 : decode cX8_init 317 = .ok (.iconst 0, 1) := by decide +kernel
theorem dX8_init_318 : decode cX8_init 318 = .ok (.istore_n 1, 1) := by decide +kernel
theorem dX8_init_319 : decode cX8_init 319 = .ok (.iload_n 1, 1) := by decide +kernel
theorem dX8_init_320 : decode cX8_init 320 = .ok (.iconst 3, 1) := by decide +kernel
theorem dX8_init_321 : decode cX8_init 321 = .ok (.if_icmp .ge 25, 3) := by decide +kernel
theorem dX8_init_324 : decode cX8_init 324 = .ok (.aload_n 0, 1) := by decide +kernel
theorem dX8_init_325 : decode cX8_init 325 = .ok (.getfield 13, 3) := by decide +kernel
theorem dX8_init_328 : decode cX8_init 328 = .ok (.iload_n 1, 1) := by decide +kernel
theorem dX8_init_329 : decode cX8_init 329 = .ok (.bipush 100, 2) := by decide +kernel
theorem dX8_init_331 : decode cX8_init 331 = .ok (.iastore, 1) := by decide +kernel
theorem dX8_init_332 : decode cX8_init 332 = .ok (.aload_n 0, 1) := by decide +kernel
theorem dX8_init_333 : decode cX8_init 333 = .ok (.getfield 51, 3) := by decide +kernel
theorem dX8_init_336 : decode cX8_init 336 = .ok (.iload_n 1, 1) := by decide +kernel
theorem dX8_init_337 : decode cX8_init 337 = .ok (.bipush 35, 2) := by decide +kernel
theorem dX8_init_339 : decode cX8_init 339 = .ok (.iastore, 1) := by decide +kernel
theorem dX8_init_340 : decode cX8_init 340 = .ok (.iinc 1 1, 3) := by decide +kernel
theorem dX8_init_343 : decode cX8_init 343 = .ok (.goto (-24), 3) := by decide +kernel
theorem dX8_init_346 : decode cX8_init 346 = .ok (.iconst 0, 1) := by decide +kernel
theorem dX8_init_347 : decode cX8_init 347 = .ok (.istore_n 1, 1) := by decide +kernel
theorem dX8_init_348 : decode cX8_init 348 = .ok (.iload_n 1, 1) := by decide +kernel
theorem dX8_init_349 : decode cX8_init 349 = .ok (.iconst 4, 1) := by decide +kernel
theorem dX8_init_350 : decode cX8_init 350 = .ok (.if_icmp .ge 16, 3) := by decide +kernel
theorem dX8_init_353 : decode cX8_init 353 = .ok (.aload_n 0, 1) := by decide +kernel
theorem dX8_init_354 : decode cX8_init 354 = .ok (.getfield 54, 3) := by decide +kernel
theorem dX8_init_357 : decode cX8_init 357 = .ok (.iload_n 1, 1) := by decide +kernel
theorem dX8_init_358 : decode cX8_init 358 = .ok (.iconst (-1), 1) := by decide +kernel
theorem dX8_init_359 : decode cX8_init 359 = .ok (.iastore, 1) := by decide +kernel
theorem dX8_init_360 : decode cX8_init 360 = .ok (.iinc 1 1, 3) := by decide +kernel
theorem dX8_init_363 : decode cX8_init 363 = .ok (.goto (-15), 3) := by decide +kernel
theorem dX8_init_366 : decode cX8_init 366 = .ok (.return_, 1) := by decide +kernel
theorem dX8_in_0 : decode cX8_in 0 = .ok (.lload_n 0, 1) := by decide +kernel
theorem dX8_in_1 : decode cX8_in 1 = .ok (.lload_n 2, 1) := by decide +kernel
theorem dX8_in_2 : decode cX8_in 2 = .ok (.lcmp, 1) := by decide +kernel
theorem dX8_in_3 : decode cX8_in 3 = .ok (.ifCond .lt 14, 3) := by decide +kernel
theorem dX8_in_6 : decode cX8_in 6 = .ok (.lload_n 0, 1) := by decide +kernel
theorem dX8_in_7 : decode cX8_in 7 = .ok (.lload 4, 2) := by decide +kernel
theorem dX8_in_9 : decode cX8_in 9 = .ok (.lcmp, 1) := by decide +kernel
theorem dX8_in_10 : decode cX8_in 10 = .ok (.ifCond .gt 7, 3) := by decide +kernel
theorem dX8_in_13 : decode cX8_in 13 = .ok (.iconst 1, 1) := by decide +kernel
theorem dX8_in_14 : decode cX8_in 14 = .ok (.goto 4, 3) := by decide +kernel
theorem dX8_in_17 : decode cX8_in 17 = .ok (.iconst 0, 1) := by decide +kernel
theorem dX8_in_18 : decode cX8_in 18 = .ok (.ireturn, 1) := by decide +kernel
theorem dX8_no_0 : decode cX8_no 0 = .ok (.ldc2_w 66, 3) := by decide +kernel
theorem dX8_no_3 : decode cX8_no 3 = .ok (.iload_n 0, 1) := by decide +kernel
theorem dX8_no_4 : decode cX8_no 4 = .ok (.i2l, 1) := by decide +kernel
theorem dX8_no_5 : decode cX8_no 5 = .ok (.lsub, 1) := by decide +kernel
theorem dX8_no_6 : decode cX8_no 6 = .ok (.lreturn, 1) := by decide +kernel
theorem dX8_c_0 : decode cX8_c 0 = .ok (.aload_n 0, 1) := by decide +kernel
theorem dX8_c_1 : decode cX8_c 1 = .ok (.getfield 7, 3) := by decide +kernel
theorem dX8_c_4 : decode cX8_c 4 = .ok (.iload_n 1, 1) := by decide +kernel
theorem dX8_c_5 : decode cX8_c 5 = .ok (.bipush 36, 2) := by decide +kernel
theorem dX8_c_7 : decode cX8_c 7 = .ok (.irem, 1) := by decide +kernel
theorem dX8_c_8 : decode cX8_c 8 = .ok (.iaload, 1) := by decide +kernel
theorem dX8_c_9 : decode cX8_c 9 = .ok (.ireturn, 1) := by decide +kernel
theorem dX8_s_0 : decode cX8_s 0 = .ok (.aload_n 0, 1) := by decide +kernel
theorem dX8_s_1 : decode cX8_s 1 = .ok (.getfield 7, 3) := by decide +kernel
theorem dX8_s_4 : decode cX8_s 4 = .ok (.iload_n 1, 1) := by decide +kernel
theorem dX8_s_5 : decode cX8_s 5 = .ok (.bipush 27, 2) := by decide +kernel
theorem dX8_s_7 : decode cX8_s 7 = .ok (.iadd, 1) := by decide +kernel
theorem dX8_s_8 : decode cX8_s 8 = .ok (.bipush 36, 2) := by decide +kernel
theorem dX8_s_10 : decode cX8_s 10 = .ok (.irem, 1) := by decide +kernel
theorem dX8_s_11 : decode cX8_s 11 = .ok (.iaload, 1) := by decide +kernel
theorem dX8_s_12 : decode cX8_s 12 = .ok (.ireturn, 1) := by decide +kernel
theorem dX8_turn_0 : decode cX8_turn 0 = .ok (.iload_n 1, 1) := by decide +kernel
theorem dX8_turn_1 : decode cX8_turn 1 = .ok (.i2l, 1) := by decide +kernel
theorem dX8_turn_2 : decode cX8_turn 2 = .ok (.lconst 0, 1) := by decide +kernel
theorem dX8_turn_3 : decode cX8_turn 3 = .ok (.ldc2_w 68, 3) := by decide +kernel
theorem dX8_turn_6 : decode cX8_turn 6 = .ok (.invokestatic 70, 3) := by decide +kernel
theorem dX8_turn_9 : decode cX8_turn 9 = .ok (.ifCond .eq 13, 3) := by decide +kernel
theorem dX8_turn_12 : decode cX8_turn 12 = .ok (.iload_n 2, 1) := by decide +kernel
theorem dX8_turn_13 : decode cX8_turn 13 = .ok (.i2l, 1) := by decide +kernel
theorem dX8_turn_14 : decode cX8_turn 14 = .ok (.lconst 0, 1) := by decide +kernel
theorem dX8_turn_15 : decode cX8_turn 15 = .ok (.lconst 1, 1) := by decide +kernel
theorem dX8_turn_16 : decode cX8_turn 16 = .ok (.invokestatic 70, 3) := by decide +kernel
theorem dX8_turn_19 : decode cX8_turn 19 = .ok (.ifCond .ne 7, 3) := by decide +kernel
theorem dX8_turn_22 : decode cX8_turn 22 = .ok (.sipush (-1000), 3) := by decide +kernel
theorem dX8_turn_25 : decode cX8_turn 25 = .ok (.ireturn, 1) := by decide +kernel
theorem dX8_turn_26 : decode cX8_turn 26 = .ok (.iload_n 2, 1) := by decide +kernel
theorem dX8_turn_27 : decode cX8_turn 27 = .ok (.ifCond .ne 11, 3) := by decide +kernel
theorem dX8_turn_30 : decode cX8_turn 30 = .ok (.aload_n 0, 1) := by decide +kernel
theorem dX8_turn_31 : decode cX8_turn 31 = .ok (.iload_n 1, 1) := by decide +kernel
theorem dX8_turn_32 : decode cX8_turn 32 = .ok (.invokevirtual 74, 3) := by decide +kernel
theorem dX8_turn_35 : decode cX8_turn 35 = .ok (.goto 8, 3) := by decide +kernel
theorem dX8_turn_38 : decode cX8_turn 38 = .ok (.aload_n 0, 1) := by decide +kernel
theorem dX8_turn_39 : decode cX8_turn 39 = .ok (.iload_n 1, 1) := by decide +kernel
theorem dX8_turn_40 : decode cX8_turn 40 = .ok (.invokevirtual 78, 3) := by decide +kernel
theorem dX8_turn_43 : decode cX8_turn 43 = .ok (.ireturn, 1) := by decide +kernel
theorem dX8_length_0 : decode cX8_length 0 = .ok (.iload_n 1, 1) := by decide +kernel
theorem dX8_length_1 : decode cX8_length 1 = .ok (.i2l, 1) := by decide +kernel
theorem dX8_length_2 : decode cX8_length 2 = .ok (.lconst 0, 1) := by decide +kernel
theorem dX8_length_3 : decode cX8_length 3 = .ok (.ldc2_w 81, 3) := by decide +kernel
theorem dX8_length_6 : decode cX8_length 6 = .ok (.invokestatic 70, 3) := by decide +kernel
theorem dX8_length_9 : decode cX8_length 9 = .ok (.ifCond .eq 15, 3) := by decide +kernel
theorem dX8_length_12 : decode cX8_length 12 = .ok (.iload_n 2, 1) := by decide +kernel
theorem dX8_length_13 : decode cX8_length 13 = .ok (.i2l, 1) := by decide +kernel
theorem dX8_length_14 : decode cX8_length 14 = .ok (.lconst 1, 1) := by decide +kernel
theorem dX8_length_15 : decode cX8_length 15 = .ok (.ldc2_w 83, 3) := by decide +kernel
theorem dX8_length_18 : decode cX8_length 18 = .ok (.invokestatic 70, 3) := by decide +kernel
theorem dX8_length_21 : decode cX8_length 21 = .ok (.ifCond .ne 6, 3) := by decide +kernel
theorem dX8_length_24 : decode cX8_length 24 = .ok (.bipush (-2), 2) := by decide +kernel
theorem dX8_length_26 : decode cX8_length 26 = .ok (.ireturn, 1) := by decide +kernel
theorem dX8_length_27 : decode cX8_length 27 = .ok (.aload_n 0, 1) := by decide +kernel
theorem dX8_length_28 : decode cX8_length 28 = .ok (.getfield 13, 3) := by decide +kernel
theorem dX8_length_31 : decode cX8_length 31 = .ok (.iload_n 1, 1) := by decide +kernel
theorem dX8_length_32 : decode cX8_length 32 = .ok (.iaload, 1) := by decide +kernel
theorem dX8_length_33 : decode cX8_length 33 = .ok (.istore_n 3, 1) := by decide +kernel
theorem dX8_length_34 : decode cX8_length 34 = .ok (.aload_n 0, 1) := by decide +kernel
theorem dX8_length_35 : decode cX8_length 35 = .ok (.getfield 13, 3) := by decide +kernel
theorem dX8_length_38 : decode cX8_length 38 = .ok (.iload_n 1, 1) := by decide +kernel
theorem dX8_length_39 : decode cX8_length 39 = .ok (.iload_n 2, 1) := by decide +kernel
theorem dX8_length_40 : decode cX8_length 40 = .ok (.iastore, 1) := by decide +kernel
theorem dX8_length_41 : decode cX8_length 41 = .ok (.iload_n 3, 1) := by decide +kernel
theorem dX8_length_42 : decode cX8_length 42 = .ok (.ireturn, 1) := by decide +kernel
theorem dX8_posture_0 : decode cX8_posture 0 = .ok (.iload_n 1, 1) := by decide +kernel
theorem dX8_posture_1 : decode cX8_posture 1 = .ok (.i2l, 1) := by decide +kernel
theorem dX8_posture_2 : decode cX8_posture 2 = .ok (.lconst 0, 1) := by decide +kernel
theorem dX8_posture_3 : decode cX8_posture 3 = .ok (.ldc2_w 68, 3) := by decide +kernel
theorem dX8_posture_6 : decode cX8_posture 6 = .ok (.invokestatic 70, 3) := by decide +kernel
theorem dX8_posture_9 : decode cX8_posture 9 = .ok (.ifCond .eq 27, 3) := by decide +kernel
theorem dX8_posture_12 : decode cX8_posture 12 = .ok (.iload_n 2, 1) := by decide +kernel
theorem dX8_posture_13 : decode cX8_posture 13 = .ok (.i2l, 1) := by decide +kernel
theorem dX8_posture_14 : decode cX8_posture 14 = .ok (.lconst 0, 1) := by decide +kernel
theorem dX8_posture_15 : decode cX8_posture 15 = .ok (.ldc2_w 68, 3) := by decide +kernel
theorem dX8_posture_18 : decode cX8_posture 18 = .ok (.invokestatic 70, 3) := by decide +kernel
theorem dX8_posture_21 : decode cX8_posture 21 = .ok (.ifCond .eq 15, 3) := by decide +kernel
theorem dX8_posture_24 : decode cX8_posture 24 = .ok (.iload_n 3, 1) := by decide +kernel
theorem dX8_posture_25 : decode cX8_posture 25 = .ok (.i2l, 1) := by decide +kernel
theorem dX8_posture_26 : decode cX8_posture 26 = .ok (.lconst 0, 1) := by decide +kernel
theorem dX8_posture_27 : decode cX8_posture 27 = .ok (.ldc2_w 68, 3) := by decide +kernel
theorem dX8_posture_30 : decode cX8_posture 30 = .ok (.invokestatic 70, 3) := by decide +kernel
theorem dX8_posture_33 : decode cX8_posture 33 = .ok (.ifCond .ne 6, 3) := by decide +kernel
theorem dX8_posture_36 : decode cX8_posture 36 = .ok (.bipush (-2), 2) := by decide +kernel
theorem dX8_posture_38 : decode cX8_posture 38 = .ok (.ireturn, 1) := by decide +kernel
theorem dX8_posture_39 : decode cX8_posture 39 = .ok (.aload_n 0, 1) := by decide +kernel
theorem dX8_posture_40 : decode cX8_posture 40 = .ok (.getfield 85, 3) := by decide +kernel
theorem dX8_posture_43 : decode cX8_posture 43 = .ok (.bipush 20, 2) := by decide +kernel
theorem dX8_posture_45 : decode cX8_posture 45 = .ok (.if_icmp .ne 6, 3) := by decide +kernel
theorem dX8_posture_48 : decode cX8_posture 48 = .ok (.bipush (-4), 2) := by decide +kernel
theorem dX8_posture_50 : decode cX8_posture 50 = .ok (.ireturn, 1) := by decide +kernel
theorem dX8_posture_51 : decode cX8_posture 51 = .ok (.aload_n 0, 1) := by decide +kernel
theorem dX8_posture_52 : decode cX8_posture 52 = .ok (.getfield 16, 3) := by decide +kernel
theorem dX8_posture_55 : decode cX8_posture 55 = .ok (.iconst 3, 1) := by decide +kernel
theorem dX8_posture_56 : decode cX8_posture 56 = .ok (.aload_n 0, 1) := by decide +kernel
theorem dX8_posture_57 : decode cX8_posture 57 = .ok (.getfield 85, 3) := by decide +kernel
theorem dX8_posture_60 : decode cX8_posture 60 = .ok (.imul, 1) := by decide +kernel
theorem dX8_posture_61 : decode cX8_posture 61 = .ok (.iload_n 1, 1) := by decide +kernel
theorem dX8_posture_62 : decode cX8_posture 62 = .ok (.iastore, 1) := by decide +kernel
theorem dX8_posture_63 : decode cX8_posture 63 = .ok (.aload_n 0, 1) := by decide +kernel
theorem dX8_posture_64 : decode cX8_posture 64 = .ok (.getfield 16, 3) := by decide +kernel
theorem dX8_posture_67 : decode cX8_posture 67 = .ok (.iconst 3, 1) := by decide +kernel
theorem dX8_posture_68 : decode cX8_posture 68 = .ok (.aload_n 0, 1) := by decide +kernel
theorem dX8_posture_69 : decode cX8_posture 69 = .ok (.getfield 85, 3) := by decide +kernel
theorem dX8_posture_72 : decode cX8_posture 72 = .ok (.imul, 1) := by decide +kernel
theorem dX8_posture_73 : decode cX8_posture 73 = .ok (.iconst 1, 1) := by decide +kernel
theorem dX8_posture_74 : decode cX8_posture 74 = .ok (.iadd, 1) := by decide +kernel
theorem dX8_posture_75 : decode cX8_posture 75 = .ok (.iload_n 1, 1) := by decide +kernel
theorem dX8_posture_76 : decode cX8_posture 76 = .ok (.iload_n 2, 1) := by decide +kernel
theorem dX8_posture_77 : decode cX8_posture 77 = .ok (.iadd, 1) := by decide +kernel
theorem dX8_posture_78 : decode cX8_posture 78 = .ok (.bipush 36, 2) := by decide +kernel
theorem dX8_posture_80 : decode cX8_posture 80 = .ok (.irem, 1) := by decide +kernel
theorem dX8_posture_81 : decode cX8_posture 81 = .ok (.iastore, 1) := by decide +kernel
theorem dX8_posture_82 : decode cX8_posture 82 = .ok (.aload_n 0, 1) := by decide +kernel
theorem dX8_posture_83 : decode cX8_posture 83 = .ok (.getfield 16, 3) := by decide +kernel
theorem dX8_posture_86 : decode cX8_posture 86 = .ok (.iconst 3, 1) := by decide +kernel
theorem dX8_posture_87 : decode cX8_posture 87 = .ok (.aload_n 0, 1) := by decide +kernel
theorem dX8_posture_88 : decode cX8_posture 88 = .ok (.getfield 85, 3) := by decide +kernel
theorem dX8_posture_91 : decode cX8_posture 91 = .ok (.imul, 1) := by decide +kernel
theorem dX8_posture_92 : decode cX8_posture 92 = .ok (.iconst 2, 1) := by decide +kernel
theorem dX8_posture_93 : decode cX8_posture 93 = .ok (.iadd, 1) := by decide +kernel
theorem dX8_posture_94 : decode cX8_posture 94 = .ok (.iload_n 1, 1) := by decide +kernel
theorem dX8_posture_95 : decode cX8_posture 95 = .ok (.iload_n 2, 1) := by decide +kernel
theorem dX8_posture_96 : decode cX8_posture 96 = .ok (.iadd, 1) := by decide +kernel
theorem dX8_posture_97 : decode cX8_posture 97 = .ok (.iload_n 3, 1) := by decide +kernel
theorem dX8_posture_98 : decode cX8_posture 98 = .ok (.iadd, 1) := by decide +kernel
theorem dX8_posture_99 : decode cX8_posture 99 = .ok (.bipush 36, 2) := by decide +kernel
theorem dX8_posture_101 : decode cX8_posture 101 = .ok (.irem, 1) := by decide +kernel
theorem dX8_posture_102 : decode cX8_posture 102 = .ok (.iastore, 1) := by decide +kernel
theorem dX8_posture_103 : decode cX8_posture 103 = .ok (.aload_n 0, 1) := by decide +kernel
theorem dX8_posture_104 : decode cX8_posture 104 = .ok (.getfield 19, 3) := by decide +kernel
theorem dX8_posture_107 : decode cX8_posture 107 = .ok (.aload_n 0, 1) := by decide +kernel
theorem dX8_posture_108 : decode cX8_posture 108 = .ok (.getfield 85, 3) := by decide +kernel
theorem dX8_posture_111 : decode cX8_posture 111 = .ok (.iconst 0, 1) := by decide +kernel
theorem dX8_posture_112 : decode cX8_posture 112 = .ok (.bastore, 1) := by decide +kernel
theorem dX8_posture_113 : decode cX8_posture 113 = .ok (.aload_n 0, 1) := by decide +kernel
theorem dX8_posture_114 : decode cX8_posture 114 = .ok (.dup, 1) := by decide +kernel
theorem dX8_posture_115 : decode cX8_posture 115 = .ok (.getfield 85, 3) := by decide +kernel
theorem dX8_posture_118 : decode cX8_posture 118 = .ok (.iconst 1, 1) := by decide +kernel
theorem dX8_posture_119 : decode cX8_posture 119 = .ok (.iadd, 1) := by decide +kernel
theorem dX8_posture_120 : decode cX8_posture 120 = .ok (.putfield 85, 3) := by decide +kernel
theorem dX8_posture_123 : decode cX8_posture 123 = .ok (.aload_n 0, 1) := by decide +kernel
theorem dX8_posture_124 : decode cX8_posture 124 = .ok (.getfield 85, 3) := by decide +kernel
theorem dX8_posture_127 : decode cX8_posture 127 = .ok (.iconst 1, 1) := by decide +kernel
theorem dX8_posture_128 : decode cX8_posture 128 = .ok (.isub, 1) := by decide +kernel
theorem dX8_posture_129 : decode cX8_posture 129 = .ok (.ireturn, 1) := by decide +kernel
theorem dX8_clear_0 : decode cX8_clear 0 = .ok (.aload_n 0, 1) := by decide +kernel
theorem dX8_clear_1 : decode cX8_clear 1 = .ok (.getfield 85, 3) := by decide +kernel
theorem dX8_clear_4 : decode cX8_clear 4 = .ok (.istore_n 1, 1) := by decide +kernel
theorem dX8_clear_5 : decode cX8_clear 5 = .ok (.aload_n 0, 1) := by decide +kernel
theorem dX8_clear_6 : decode cX8_clear 6 = .ok (.iconst 0, 1) := by decide +kernel
theorem dX8_clear_7 : decode cX8_clear 7 = .ok (.putfield 85, 3) := by decide +kernel
theorem dX8_clear_10 : decode cX8_clear 10 = .ok (.iload_n 1, 1) := by decide +kernel
theorem dX8_clear_11 : decode cX8_clear 11 = .ok (.ireturn, 1) := by decide +kernel
theorem dX8_isPosture_0 : decode cX8_isPosture 0 = .ok (.iload_n 1, 1) := by decide +kernel
theorem dX8_isPosture_1 : decode cX8_isPosture 1 = .ok (.i2l, 1) := by decide +kernel
theorem dX8_isPosture_2 : decode cX8_isPosture 2 = .ok (.lconst 0, 1) := by decide +kernel
theorem dX8_isPosture_3 : decode cX8_isPosture 3 = .ok (.aload_n 0, 1) := by decide +kernel
theorem dX8_isPosture_4 : decode cX8_isPosture 4 = .ok (.getfield 85, 3) := by decide +kernel
theorem dX8_isPosture_7 : decode cX8_isPosture 7 = .ok (.iconst 1, 1) := by decide +kernel
theorem dX8_isPosture_8 : decode cX8_isPosture 8 = .ok (.isub, 1) := by decide +kernel
theorem dX8_isPosture_9 : decode cX8_isPosture 9 = .ok (.i2l, 1) := by decide +kernel
theorem dX8_isPosture_10 : decode cX8_isPosture 10 = .ok (.invokestatic 70, 3) := by decide +kernel
theorem dX8_isPosture_13 : decode cX8_isPosture 13 = .ok (.ireturn, 1) := by decide +kernel
theorem dX8_part_0 : decode cX8_part 0 = .ok (.aload_n 0, 1) := by decide +kernel
theorem dX8_part_1 : decode cX8_part 1 = .ok (.getfield 16, 3) := by decide +kernel
theorem dX8_part_4 : decode cX8_part 4 = .ok (.iconst 3, 1) := by decide +kernel
theorem dX8_part_5 : decode cX8_part 5 = .ok (.iload_n 1, 1) := by decide +kernel
theorem dX8_part_6 : decode cX8_part 6 = .ok (.imul, 1) := by decide +kernel
theorem dX8_part_7 : decode cX8_part 7 = .ok (.iload_n 2, 1) := by decide +kernel
theorem dX8_part_8 : decode cX8_part 8 = .ok (.iadd, 1) := by decide +kernel
theorem dX8_part_9 : decode cX8_part 9 = .ok (.iaload, 1) := by decide +kernel
theorem dX8_part_10 : decode cX8_part 10 = .ok (.istore 4, 2) := by decide +kernel
theorem dX8_part_12 : decode cX8_part 12 = .ok (.iload_n 3, 1) := by decide +kernel
theorem dX8_part_13 : decode cX8_part 13 = .ok (.ifCond .ne 12, 3) := by decide +kernel
theorem dX8_part_16 : decode cX8_part 16 = .ok (.aload_n 0, 1) := by decide +kernel
theorem dX8_part_17 : decode cX8_part 17 = .ok (.iload 4, 2) := by decide +kernel
theorem dX8_part_19 : decode cX8_part 19 = .ok (.invokevirtual 74, 3) := by decide +kernel
theorem dX8_part_22 : decode cX8_part 22 = .ok (.goto 9, 3) := by decide +kernel
theorem dX8_part_25 : decode cX8_part 25 = .ok (.aload_n 0, 1) := by decide +kernel
theorem dX8_part_26 : decode cX8_part 26 = .ok (.iload 4, 2) := by decide +kernel
theorem dX8_part_28 : decode cX8_part 28 = .ok (.invokevirtual 78, 3) := by decide +kernel
theorem dX8_part_31 : decode cX8_part 31 = .ok (.ireturn, 1) := by decide +kernel
theorem dX8_handOf_0 : decode cX8_handOf 0 = .ok (.aload_n 0, 1) := by decide +kernel
theorem dX8_handOf_1 : decode cX8_handOf 1 = .ok (.getfield 13, 3) := by decide +kernel
theorem dX8_handOf_4 : decode cX8_handOf 4 = .ok (.iconst 0, 1) := by decide +kernel
theorem dX8_handOf_5 : decode cX8_handOf 5 = .ok (.iaload, 1) := by decide +kernel
theorem dX8_handOf_6 : decode cX8_handOf 6 = .ok (.aload_n 0, 1) := by decide +kernel
theorem dX8_handOf_7 : decode cX8_handOf 7 = .ok (.iload_n 1, 1) := by decide +kernel
theorem dX8_handOf_8 : decode cX8_handOf 8 = .ok (.iconst 0, 1) := by decide +kernel
theorem dX8_handOf_9 : decode cX8_handOf 9 = .ok (.iload_n 2, 1) := by decide +kernel
theorem dX8_handOf_10 : decode cX8_handOf 10 = .ok (.invokevirtual 89, 3) := by decide +kernel
theorem dX8_handOf_13 : decode cX8_handOf 13 = .ok (.imul, 1) := by decide +kernel
theorem dX8_handOf_14 : decode cX8_handOf 14 = .ok (.aload_n 0, 1) := by decide +kernel
theorem dX8_handOf_15 : decode cX8_handOf 15 = .ok (.getfield 13, 3) := by decide +kernel
theorem dX8_handOf_18 : decode cX8_handOf 18 = .ok (.iconst 1, 1) := by decide +kernel
theorem dX8_handOf_19 : decode cX8_handOf 19 = .ok (.iaload, 1) := by decide +kernel
theorem dX8_handOf_20 : decode cX8_handOf 20 = .ok (.aload_n 0, 1) := by decide +kernel
theorem dX8_handOf_21 : decode cX8_handOf 21 = .ok (.iload_n 1, 1) := by decide +kernel
theorem dX8_handOf_22 : decode cX8_handOf 22 = .ok (.iconst 1, 1) := by decide +kernel
theorem dX8_handOf_23 : decode cX8_handOf 23 = .ok (.iload_n 2, 1) := by decide +kernel
theorem dX8_handOf_24 : decode cX8_handOf 24 = .ok (.invokevirtual 89, 3) := by decide +kernel
theorem dX8_handOf_27 : decode cX8_handOf 27 = .ok (.imul, 1) := by decide +kernel
theorem dX8_handOf_28 : decode cX8_handOf 28 = .ok (.iadd, 1) := by decide +kernel
theorem dX8_handOf_29 : decode cX8_handOf 29 = .ok (.aload_n 0, 1) := by decide +kernel
theorem dX8_handOf_30 : decode cX8_handOf 30 = .ok (.getfield 13, 3) := by decide +kernel
theorem dX8_handOf_33 : decode cX8_handOf 33 = .ok (.iconst 2, 1) := by decide +kernel
theorem dX8_handOf_34 : decode cX8_handOf 34 = .ok (.iaload, 1) := by decide +kernel
theorem dX8_handOf_35 : decode cX8_handOf 35 = .ok (.aload_n 0, 1) := by decide +kernel
theorem dX8_handOf_36 : decode cX8_handOf 36 = .ok (.iload_n 1, 1) := by decide +kernel
theorem dX8_handOf_37 : decode cX8_handOf 37 = .ok (.iconst 2, 1) := by decide +kernel
theorem dX8_handOf_38 : decode cX8_handOf 38 = .ok (.iload_n 2, 1) := by decide +kernel
theorem dX8_handOf_39 : decode cX8_handOf 39 = .ok (.invokevirtual 89, 3) := by decide +kernel
theorem dX8_handOf_42 : decode cX8_handOf 42 = .ok (.imul, 1) := by decide +kernel
theorem dX8_handOf_43 : decode cX8_handOf 43 = .ok (.iadd, 1) := by decide +kernel
theorem dX8_handOf_44 : decode cX8_handOf 44 = .ok (.ireturn, 1) := by decide +kernel
theorem dX8_hand_0 : decode cX8_hand 0 = .ok (.aload_n 0, 1) := by decide +kernel
theorem dX8_hand_1 : decode cX8_hand 1 = .ok (.iload_n 1, 1) := by decide +kernel
theorem dX8_hand_2 : decode cX8_hand 2 = .ok (.invokevirtual 93, 3) := by decide +kernel
theorem dX8_hand_5 : decode cX8_hand 5 = .ok (.ifCond .eq 22, 3) := by decide +kernel
theorem dX8_hand_8 : decode cX8_hand 8 = .ok (.iload_n 2, 1) := by decide +kernel
theorem dX8_hand_9 : decode cX8_hand 9 = .ok (.i2l, 1) := by decide +kernel
theorem dX8_hand_10 : decode cX8_hand 10 = .ok (.lconst 0, 1) := by decide +kernel
theorem dX8_hand_11 : decode cX8_hand 11 = .ok (.lconst 1, 1) := by decide +kernel
theorem dX8_hand_12 : decode cX8_hand 12 = .ok (.invokestatic 70, 3) := by decide +kernel
theorem dX8_hand_15 : decode cX8_hand 15 = .ok (.ifCond .eq 12, 3) := by decide +kernel
theorem dX8_hand_18 : decode cX8_hand 18 = .ok (.aload_n 0, 1) := by decide +kernel
theorem dX8_hand_19 : decode cX8_hand 19 = .ok (.iload_n 1, 1) := by decide +kernel
theorem dX8_hand_20 : decode cX8_hand 20 = .ok (.iload_n 2, 1) := by decide +kernel
theorem dX8_hand_21 : decode cX8_hand 21 = .ok (.invokevirtual 97, 3) := by decide +kernel
theorem dX8_hand_24 : decode cX8_hand 24 = .ok (.goto 5, 3) := by decide +kernel
theorem dX8_hand_27 : decode cX8_hand 27 = .ok (.ldc 101, 2) := by decide +kernel
theorem dX8_hand_29 : decode cX8_hand 29 = .ok (.ireturn, 1) := by decide +kernel
theorem dX8_item_0 : decode cX8_item 0 = .ok (.aload_n 0, 1) := by decide +kernel
theorem dX8_item_1 : decode cX8_item 1 = .ok (.getfield 54, 3) := by decide +kernel
theorem dX8_item_4 : decode cX8_item 4 = .ok (.iconst 0, 1) := by decide +kernel
theorem dX8_item_5 : decode cX8_item 5 = .ok (.iaload, 1) := by decide +kernel
theorem dX8_item_6 : decode cX8_item 6 = .ok (.ifCond .lt 13, 3) := by decide +kernel
theorem dX8_item_9 : decode cX8_item 9 = .ok (.iload_n 1, 1) := by decide +kernel
theorem dX8_item_10 : decode cX8_item 10 = .ok (.aload_n 0, 1) := by decide +kernel
theorem dX8_item_11 : decode cX8_item 11 = .ok (.getfield 57, 3) := by decide +kernel
theorem dX8_item_14 : decode cX8_item 14 = .ok (.iconst 0, 1) := by decide +kernel
theorem dX8_item_15 : decode cX8_item 15 = .ok (.iaload, 1) := by decide +kernel
theorem dX8_item_16 : decode cX8_item 16 = .ok (.if_icmp .lt 9, 3) := by decide +kernel
theorem dX8_item_19 : decode cX8_item 19 = .ok (.sipush (-10000), 3) := by decide +kernel
theorem dX8_item_22 : decode cX8_item 22 = .ok (.goto 9, 3) := by decide +kernel
theorem dX8_item_25 : decode cX8_item 25 = .ok (.aload_n 0, 1) := by decide +kernel
theorem dX8_item_26 : decode cX8_item 26 = .ok (.getfield 60, 3) := by decide +kernel
theorem dX8_item_29 : decode cX8_item 29 = .ok (.iload_n 1, 1) := by decide +kernel
theorem dX8_item_30 : decode cX8_item 30 = .ok (.iaload, 1) := by decide +kernel
theorem dX8_item_31 : decode cX8_item 31 = .ok (.ireturn, 1) := by decide +kernel
theorem dX8_hasMeasure_0 : decode cX8_hasMeasure 0 = .ok (.aload_n 0, 1) := by decide +kernel
theorem dX8_hasMeasure_1 : decode cX8_hasMeasure 1 = .ok (.iconst 2, 1) := by decide +kernel
theorem dX8_hasMeasure_2 : decode cX8_hasMeasure 2 = .ok (.iload_n 1, 1) := by decide +kernel
theorem dX8_hasMeasure_3 : decode cX8_hasMeasure 3 = .ok (.imul, 1) := by decide +kernel
theorem dX8_hasMeasure_4 : decode cX8_hasMeasure 4 = .ok (.invokevirtual 102, 3) := by decide +kernel
theorem dX8_hasMeasure_7 : decode cX8_hasMeasure 7 = .ok (.i2l, 1) := by decide +kernel
theorem dX8_hasMeasure_8 : decode cX8_hasMeasure 8 = .ok (.ldc2_w 105, 3) := by decide +kernel
theorem dX8_hasMeasure_11 : decode cX8_hasMeasure 11 = .ok (.ldc2_w 107, 3) := by decide +kernel
theorem dX8_hasMeasure_14 : decode cX8_hasMeasure 14 = .ok (.invokestatic 70, 3) := by decide +kernel
theorem dX8_hasMeasure_17 : decode cX8_hasMeasure 17 = .ok (.ifCond .eq 29, 3) := by decide +kernel
theorem dX8_hasMeasure_20 : decode cX8_hasMeasure 20 = .ok (.aload_n 0, 1) := by decide +kernel
theorem dX8_hasMeasure_21 : decode cX8_hasMeasure 21 = .ok (.iconst 2, 1) := by decide +kernel
theorem dX8_hasMeasure_22 : decode cX8_hasMeasure 22 = .ok (.iload_n 1, 1) := by decide +kernel
theorem dX8_hasMeasure_23 : decode cX8_hasMeasure 23 = .ok (.imul, 1) := by decide +kernel
theorem dX8_hasMeasure_24 : decode cX8_hasMeasure 24 = .ok (.iconst 1, 1) := by decide +kernel
theorem dX8_hasMeasure_25 : decode cX8_hasMeasure 25 = .ok (.iadd, 1) := by decide +kernel
theorem dX8_hasMeasure_26 : decode cX8_hasMeasure 26 = .ok (.invokevirtual 102, 3) := by decide +kernel
theorem dX8_hasMeasure_29 : decode cX8_hasMeasure 29 = .ok (.i2l, 1) := by decide +kernel
theorem dX8_hasMeasure_30 : decode cX8_hasMeasure 30 = .ok (.ldc2_w 105, 3) := by decide +kernel
theorem dX8_hasMeasure_33 : decode cX8_hasMeasure 33 = .ok (.ldc2_w 107, 3) := by decide +kernel
theorem dX8_hasMeasure_36 : decode cX8_hasMeasure 36 = .ok (.invokestatic 70, 3) := by decide +kernel
theorem dX8_hasMeasure_39 : decode cX8_hasMeasure 39 = .ok (.ifCond .eq 7, 3) := by decide +kernel
theorem dX8_hasMeasure_42 : decode cX8_hasMeasure 42 = .ok (.iconst 1, 1) := by decide +kernel
theorem dX8_hasMeasure_43 : decode cX8_hasMeasure 43 = .ok (.goto 4, 3) := by decide +kernel
theorem dX8_hasMeasure_46 : decode cX8_hasMeasure 46 = .ok (.iconst 0, 1) := by decide +kernel
theorem dX8_hasMeasure_47 : decode cX8_hasMeasure 47 = .ok (.ireturn, 1) := by decide +kernel
theorem dX8_measure_0 : decode cX8_measure 0 = .ok (.aload_n 0, 1) := by decide +kernel
theorem dX8_measure_1 : decode cX8_measure 1 = .ok (.iload_n 1, 1) := by decide +kernel
theorem dX8_measure_2 : decode cX8_measure 2 = .ok (.invokevirtual 93, 3) := by decide +kernel
theorem dX8_measure_5 : decode cX8_measure 5 = .ok (.ifCond .eq 13, 3) := by decide +kernel
theorem dX8_measure_8 : decode cX8_measure 8 = .ok (.iload_n 2, 1) := by decide +kernel
theorem dX8_measure_9 : decode cX8_measure 9 = .ok (.i2l, 1) := by decide +kernel
theorem dX8_measure_10 : decode cX8_measure 10 = .ok (.lconst 0, 1) := by decide +kernel
theorem dX8_measure_11 : decode cX8_measure 11 = .ok (.lconst 1, 1) := by decide +kernel
theorem dX8_measure_12 : decode cX8_measure 12 = .ok (.invokestatic 70, 3) := by decide +kernel
theorem dX8_measure_15 : decode cX8_measure 15 = .ok (.ifCond .ne 7, 3) := by decide +kernel
theorem dX8_measure_18 : decode cX8_measure 18 = .ok (.sipush (-10000), 3) := by decide +kernel
theorem dX8_measure_21 : decode cX8_measure 21 = .ok (.ireturn, 1) := by decide +kernel
theorem dX8_measure_22 : decode cX8_measure 22 = .ok (.aload_n 0, 1) := by decide +kernel
theorem dX8_measure_23 : decode cX8_measure 23 = .ok (.iload_n 1, 1) := by decide +kernel
theorem dX8_measure_24 : decode cX8_measure 24 = .ok (.invokevirtual 109, 3) := by decide +kernel
theorem dX8_measure_27 : decode cX8_measure 27 = .ok (.ifCond .eq 15, 3) := by decide +kernel
theorem dX8_measure_30 : decode cX8_measure 30 = .ok (.aload_n 0, 1) := by decide +kernel
theorem dX8_measure_31 : decode cX8_measure 31 = .ok (.iconst 2, 1) := by decide +kernel
theorem dX8_measure_32 : decode cX8_measure 32 = .ok (.iload_n 1, 1) := by decide +kernel
theorem dX8_measure_33 : decode cX8_measure 33 = .ok (.imul, 1) := by decide +kernel
theorem dX8_measure_34 : decode cX8_measure 34 = .ok (.iload_n 2, 1) := by decide +kernel
theorem dX8_measure_35 : decode cX8_measure 35 = .ok (.iadd, 1) := by decide +kernel
theorem dX8_measure_36 : decode cX8_measure 36 = .ok (.invokevirtual 102, 3) := by decide +kernel
theorem dX8_measure_39 : decode cX8_measure 39 = .ok (.goto 6, 3) := by decide +kernel
theorem dX8_measure_42 : decode cX8_measure 42 = .ok (.sipush (-10001), 3) := by decide +kernel
theorem dX8_measure_45 : decode cX8_measure 45 = .ok (.ireturn, 1) := by decide +kernel
theorem dX8_leave_0 : decode cX8_leave 0 = .ok (.aload_n 0, 1) := by decide +kernel
theorem dX8_leave_1 : decode cX8_leave 1 = .ok (.iload_n 1, 1) := by decide +kernel
theorem dX8_leave_2 : decode cX8_leave 2 = .ok (.invokevirtual 93, 3) := by decide +kernel
theorem dX8_leave_5 : decode cX8_leave 5 = .ok (.ifCond .ne 6, 3) := by decide +kernel
theorem dX8_leave_8 : decode cX8_leave 8 = .ok (.bipush (-2), 2) := by decide +kernel
theorem dX8_leave_10 : decode cX8_leave 10 = .ok (.ireturn, 1) := by decide +kernel
theorem dX8_leave_11 : decode cX8_leave 11 = .ok (.aload_n 0, 1) := by decide +kernel
theorem dX8_leave_12 : decode cX8_leave 12 = .ok (.getfield 19, 3) := by decide +kernel
theorem dX8_leave_15 : decode cX8_leave 15 = .ok (.iload_n 1, 1) := by decide +kernel
theorem dX8_leave_16 : decode cX8_leave 16 = .ok (.iload_n 2, 1) := by decide +kernel
theorem dX8_leave_17 : decode cX8_leave 17 = .ok (.bastore, 1) := by decide +kernel
theorem dX8_leave_18 : decode cX8_leave 18 = .ok (.iconst 1, 1) := by decide +kernel
theorem dX8_leave_19 : decode cX8_leave 19 = .ok (.ireturn, 1) := by decide +kernel
theorem dX8_findUsed_0 : decode cX8_findUsed 0 = .ok (.aload_n 0, 1) := by decide +kernel
theorem dX8_findUsed_1 : decode cX8_findUsed 1 = .ok (.iconst 0, 1) := by decide +kernel
theorem dX8_findUsed_2 : decode cX8_findUsed 2 = .ok (.putfield 112, 3) := by decide +kernel
theorem dX8_findUsed_5 : decode cX8_findUsed 5 = .ok (.iconst 0, 1) := by decide +kernel
theorem dX8_findUsed_6 : decode cX8_findUsed 6 = .ok (.istore_n 1, 1) := by decide +kernel
theorem dX8_findUsed_7 : decode cX8_findUsed 7 = .ok (.iload_n 1, 1) := by decide +kernel
theorem dX8_findUsed_8 : decode cX8_findUsed 8 = .ok (.aload_n 0, 1) := by decide +kernel
theorem dX8_findUsed_9 : decode cX8_findUsed 9 = .ok (.getfield 85, 3) := by decide +kernel
theorem dX8_findUsed_12 : decode cX8_findUsed 12 = .ok (.if_icmp .ge 55, 3) := by decide +kernel
theorem dX8_findUsed_15 : decode cX8_findUsed 15 = .ok (.aload_n 0, 1) := by decide +kernel
theorem dX8_findUsed_16 : decode cX8_findUsed 16 = .ok (.getfield 112, 3) := by decide +kernel
theorem dX8_findUsed_19 : decode cX8_findUsed 19 = .ok (.bipush 12, 2) := by decide +kernel
theorem dX8_findUsed_21 : decode cX8_findUsed 21 = .ok (.if_icmp .ge 46, 3) := by decide +kernel
theorem dX8_findUsed_24 : decode cX8_findUsed 24 = .ok (.aload_n 0, 1) := by decide +kernel
theorem dX8_findUsed_25 : decode cX8_findUsed 25 = .ok (.iload_n 1, 1) := by decide +kernel
theorem dX8_findUsed_26 : decode cX8_findUsed 26 = .ok (.invokevirtual 109, 3) := by decide +kernel
theorem dX8_findUsed_29 : decode cX8_findUsed 29 = .ok (.ifCond .eq 32, 3) := by decide +kernel
theorem dX8_findUsed_32 : decode cX8_findUsed 32 = .ok (.aload_n 0, 1) := by decide +kernel
theorem dX8_findUsed_33 : decode cX8_findUsed 33 = .ok (.getfield 19, 3) := by decide +kernel
theorem dX8_findUsed_36 : decode cX8_findUsed 36 = .ok (.iload_n 1, 1) := by decide +kernel
theorem dX8_findUsed_37 : decode cX8_findUsed 37 = .ok (.baload, 1) := by decide +kernel
theorem dX8_findUsed_38 : decode cX8_findUsed 38 = .ok (.ifCond .ne 23, 3) := by decide +kernel
theorem dX8_findUsed_41 : decode cX8_findUsed 41 = .ok (.aload_n 0, 1) := by decide +kernel
theorem dX8_findUsed_42 : decode cX8_findUsed 42 = .ok (.getfield 23, 3) := by decide +kernel
theorem dX8_findUsed_45 : decode cX8_findUsed 45 = .ok (.aload_n 0, 1) := by decide +kernel
theorem dX8_findUsed_46 : decode cX8_findUsed 46 = .ok (.getfield 112, 3) := by decide +kernel
theorem dX8_findUsed_49 : decode cX8_findUsed 49 = .ok (.iload_n 1, 1) := by decide +kernel
theorem dX8_findUsed_50 : decode cX8_findUsed 50 = .ok (.iastore, 1) := by decide +kernel
theorem dX8_findUsed_51 : decode cX8_findUsed 51 = .ok (.aload_n 0, 1) := by decide +kernel
theorem dX8_findUsed_52 : decode cX8_findUsed 52 = .ok (.dup, 1) := by decide +kernel
theorem dX8_findUsed_53 : decode cX8_findUsed 53 = .ok (.getfield 112, 3) := by decide +kernel
theorem dX8_findUsed_56 : decode cX8_findUsed 56 = .ok (.iconst 1, 1) := by decide +kernel
theorem dX8_findUsed_57 : decode cX8_findUsed 57 = .ok (.iadd, 1) := by decide +kernel
theorem dX8_findUsed_58 : decode cX8_findUsed 58 = .ok (.putfield 112, 3) := by decide +kernel
theorem dX8_findUsed_61 : decode cX8_findUsed 61 = .ok (.iinc 1 1, 3) := by decide +kernel
theorem dX8_findUsed_64 : decode cX8_findUsed 64 = .ok (.goto (-57), 3) := by decide +kernel
theorem dX8_findUsed_67 : decode cX8_findUsed 67 = .ok (.return_, 1) := by decide +kernel
theorem dX8_used_0 : decode cX8_used 0 = .ok (.aload_n 0, 1) := by decide +kernel
theorem dX8_used_1 : decode cX8_used 1 = .ok (.invokevirtual 115, 3) := by decide +kernel
theorem dX8_used_4 : decode cX8_used 4 = .ok (.aload_n 0, 1) := by decide +kernel
theorem dX8_used_5 : decode cX8_used 5 = .ok (.getfield 112, 3) := by decide +kernel
theorem dX8_used_8 : decode cX8_used 8 = .ok (.ireturn, 1) := by decide +kernel
theorem dX8_nothing_0 : decode cX8_nothing 0 = .ok (.iconst 0, 1) := by decide +kernel
theorem dX8_nothing_1 : decode cX8_nothing 1 = .ok (.istore_n 1, 1) := by decide +kernel
theorem dX8_nothing_2 : decode cX8_nothing 2 = .ok (.iload_n 1, 1) := by decide +kernel
theorem dX8_nothing_3 : decode cX8_nothing 3 = .ok (.bipush 9, 2) := by decide +kernel
theorem dX8_nothing_5 : decode cX8_nothing 5 = .ok (.if_icmp .ge 16, 3) := by decide +kernel
theorem dX8_nothing_8 : decode cX8_nothing 8 = .ok (.aload_n 0, 1) := by decide +kernel
theorem dX8_nothing_9 : decode cX8_nothing 9 = .ok (.getfield 26, 3) := by decide +kernel
theorem dX8_nothing_12 : decode cX8_nothing 12 = .ok (.iload_n 1, 1) := by decide +kernel
theorem dX8_nothing_13 : decode cX8_nothing 13 = .ok (.lconst 0, 1) := by decide +kernel
theorem dX8_nothing_14 : decode cX8_nothing 14 = .ok (.lastore, 1) := by decide +kernel
theorem dX8_nothing_15 : decode cX8_nothing 15 = .ok (.iinc 1 1, 3) := by decide +kernel
theorem dX8_nothing_18 : decode cX8_nothing 18 = .ok (.goto (-16), 3) := by decide +kernel
theorem dX8_nothing_21 : decode cX8_nothing 21 = .ok (.iconst 0, 1) := by decide +kernel
theorem dX8_nothing_22 : decode cX8_nothing 22 = .ok (.istore_n 1, 1) := by decide +kernel
theorem dX8_nothing_23 : decode cX8_nothing 23 = .ok (.iload_n 1, 1) := by decide +kernel
theorem dX8_nothing_24 : decode cX8_nothing 24 = .ok (.iconst 3, 1) := by decide +kernel
theorem dX8_nothing_25 : decode cX8_nothing 25 = .ok (.if_icmp .ge 16, 3) := by decide +kernel
theorem dX8_nothing_28 : decode cX8_nothing 28 = .ok (.aload_n 0, 1) := by decide +kernel
theorem dX8_nothing_29 : decode cX8_nothing 29 = .ok (.getfield 30, 3) := by decide +kernel
theorem dX8_nothing_32 : decode cX8_nothing 32 = .ok (.iload_n 1, 1) := by decide +kernel
theorem dX8_nothing_33 : decode cX8_nothing 33 = .ok (.lconst 0, 1) := by decide +kernel
theorem dX8_nothing_34 : decode cX8_nothing 34 = .ok (.lastore, 1) := by decide +kernel
theorem dX8_nothing_35 : decode cX8_nothing 35 = .ok (.iinc 1 1, 3) := by decide +kernel
theorem dX8_nothing_38 : decode cX8_nothing 38 = .ok (.goto (-15), 3) := by decide +kernel
theorem dX8_nothing_41 : decode cX8_nothing 41 = .ok (.return_, 1) := by decide +kernel
theorem dX8_adds_0 : decode cX8_adds 0 = .ok (.iconst 0, 1) := by decide +kernel
theorem dX8_adds_1 : decode cX8_adds 1 = .ok (.istore_n 2, 1) := by decide +kernel
theorem dX8_adds_2 : decode cX8_adds 2 = .ok (.iload_n 2, 1) := by decide +kernel
theorem dX8_adds_3 : decode cX8_adds 3 = .ok (.iconst 2, 1) := by decide +kernel
theorem dX8_adds_4 : decode cX8_adds 4 = .ok (.if_icmp .ge 69, 3) := by decide +kernel
theorem dX8_adds_7 : decode cX8_adds 7 = .ok (.iconst 0, 1) := by decide +kernel
theorem dX8_adds_8 : decode cX8_adds 8 = .ok (.istore_n 3, 1) := by decide +kernel
theorem dX8_adds_9 : decode cX8_adds 9 = .ok (.iload_n 3, 1) := by decide +kernel
theorem dX8_adds_10 : decode cX8_adds 10 = .ok (.iconst 3, 1) := by decide +kernel
theorem dX8_adds_11 : decode cX8_adds 11 = .ok (.if_icmp .ge 56, 3) := by decide +kernel
theorem dX8_adds_14 : decode cX8_adds 14 = .ok (.iconst 0, 1) := by decide +kernel
theorem dX8_adds_15 : decode cX8_adds 15 = .ok (.istore 4, 2) := by decide +kernel
theorem dX8_adds_17 : decode cX8_adds 17 = .ok (.iload 4, 2) := by decide +kernel
theorem dX8_adds_19 : decode cX8_adds 19 = .ok (.iconst 3, 1) := by decide +kernel
theorem dX8_adds_20 : decode cX8_adds 20 = .ok (.if_icmp .ge 41, 3) := by decide +kernel
theorem dX8_adds_23 : decode cX8_adds 23 = .ok (.aload_n 0, 1) := by decide +kernel
theorem dX8_adds_24 : decode cX8_adds 24 = .ok (.getfield 26, 3) := by decide +kernel
end
section
theorem dX8_adds_27 : decode cX8_adds 27 = .ok (.iconst 3, 1) := by decide +kernel
theorem dX8_adds_28 : decode cX8_adds 28 = .ok (.iload_n 3, 1) := by decide +kernel
theorem dX8_adds_29 : decode cX8_adds 29 = .ok (.imul, 1) := by decide +kernel
theorem dX8_adds_30 : decode cX8_adds 30 = .ok (.iload 4, 2) := by decide +kernel
theorem dX8_adds_32 : decode cX8_adds 32 = .ok (.iadd, 1) := by decide +kernel
theorem dX8_adds_33 : decode cX8_adds 33 = .ok (.dup2, 1) := by decide +kernel
theorem dX8_adds_34 : decode cX8_adds 34 = .ok (.laload, 1) := by decide +kernel
theorem dX8_adds_35 : decode cX8_adds 35 = .ok (.aload_n 0, 1) := by decide +kernel
theorem dX8_adds_36 : decode cX8_adds 36 = .ok (.iload_n 1, 1) := by decide +kernel
theorem dX8_adds_37 : decode cX8_adds 37 = .ok (.iload_n 3, 1) := by decide +kernel
theorem dX8_adds_38 : decode cX8_adds 38 = .ok (.iload_n 2, 1) := by decide +kernel
theorem dX8_adds_39 : decode cX8_adds 39 = .ok (.invokevirtual 89, 3) := by decide +kernel
theorem dX8_adds_42 : decode cX8_adds 42 = .ok (.i2l, 1) := by decide +kernel
theorem dX8_adds_43 : decode cX8_adds 43 = .ok (.aload_n 0, 1) := by decide +kernel
theorem dX8_adds_44 : decode cX8_adds 44 = .ok (.iload_n 1, 1) := by decide +kernel
theorem dX8_adds_45 : decode cX8_adds 45 = .ok (.iload 4, 2) := by decide +kernel
theorem dX8_adds_47 : decode cX8_adds 47 = .ok (.iload_n 2, 1) := by decide +kernel
theorem dX8_adds_48 : decode cX8_adds 48 = .ok (.invokevirtual 89, 3) := by decide +kernel
theorem dX8_adds_51 : decode cX8_adds 51 = .ok (.i2l, 1) := by decide +kernel
theorem dX8_adds_52 : decode cX8_adds 52 = .ok (.lmul, 1) := by decide +kernel
theorem dX8_adds_53 : decode cX8_adds 53 = .ok (.ladd, 1) := by decide +kernel
theorem dX8_adds_54 : decode cX8_adds 54 = .ok (.lastore, 1) := by decide +kernel
theorem dX8_adds_55 : decode cX8_adds 55 = .ok (.iinc 4 1, 3) := by decide +kernel
theorem dX8_adds_58 : decode cX8_adds 58 = .ok (.goto (-41), 3) := by decide +kernel
theorem dX8_adds_61 : decode cX8_adds 61 = .ok (.iinc 3 1, 3) := by decide +kernel
theorem dX8_adds_64 : decode cX8_adds 64 = .ok (.goto (-55), 3) := by decide +kernel
theorem dX8_adds_67 : decode cX8_adds 67 = .ok (.iinc 2 1, 3) := by decide +kernel
theorem dX8_adds_70 : decode cX8_adds 70 = .ok (.goto (-68), 3) := by decide +kernel
theorem dX8_adds_73 : decode cX8_adds 73 = .ok (.return_, 1) := by decide +kernel
theorem dX8_findTable_0 : decode cX8_findTable 0 = .ok (.aload_n 0, 1) := by decide +kernel
theorem dX8_findTable_1 : decode cX8_findTable 1 = .ok (.invokevirtual 115, 3) := by decide +kernel
theorem dX8_findTable_4 : decode cX8_findTable 4 = .ok (.aload_n 0, 1) := by decide +kernel
theorem dX8_findTable_5 : decode cX8_findTable 5 = .ok (.invokevirtual 118, 3) := by decide +kernel
theorem dX8_findTable_8 : decode cX8_findTable 8 = .ok (.iconst 0, 1) := by decide +kernel
theorem dX8_findTable_9 : decode cX8_findTable 9 = .ok (.istore_n 1, 1) := by decide +kernel
theorem dX8_findTable_10 : decode cX8_findTable 10 = .ok (.iload_n 1, 1) := by decide +kernel
theorem dX8_findTable_11 : decode cX8_findTable 11 = .ok (.aload_n 0, 1) := by decide +kernel
theorem dX8_findTable_12 : decode cX8_findTable 12 = .ok (.getfield 112, 3) := by decide +kernel
theorem dX8_findTable_15 : decode cX8_findTable 15 = .ok (.if_icmp .ge 79, 3) := by decide +kernel
theorem dX8_findTable_18 : decode cX8_findTable 18 = .ok (.aload_n 0, 1) := by decide +kernel
theorem dX8_findTable_19 : decode cX8_findTable 19 = .ok (.getfield 23, 3) := by decide +kernel
theorem dX8_findTable_22 : decode cX8_findTable 22 = .ok (.iload_n 1, 1) := by decide +kernel
theorem dX8_findTable_23 : decode cX8_findTable 23 = .ok (.iaload, 1) := by decide +kernel
theorem dX8_findTable_24 : decode cX8_findTable 24 = .ok (.istore_n 2, 1) := by decide +kernel
theorem dX8_findTable_25 : decode cX8_findTable 25 = .ok (.aload_n 0, 1) := by decide +kernel
theorem dX8_findTable_26 : decode cX8_findTable 26 = .ok (.iload_n 2, 1) := by decide +kernel
theorem dX8_findTable_27 : decode cX8_findTable 27 = .ok (.invokevirtual 121, 3) := by decide +kernel
theorem dX8_findTable_30 : decode cX8_findTable 30 = .ok (.iconst 0, 1) := by decide +kernel
theorem dX8_findTable_31 : decode cX8_findTable 31 = .ok (.istore_n 3, 1) := by decide +kernel
theorem dX8_findTable_32 : decode cX8_findTable 32 = .ok (.iload_n 3, 1) := by decide +kernel
theorem dX8_findTable_33 : decode cX8_findTable 33 = .ok (.iconst 2, 1) := by decide +kernel
theorem dX8_findTable_34 : decode cX8_findTable 34 = .ok (.if_icmp .ge 54, 3) := by decide +kernel
theorem dX8_findTable_37 : decode cX8_findTable 37 = .ok (.iconst 0, 1) := by decide +kernel
theorem dX8_findTable_38 : decode cX8_findTable 38 = .ok (.istore 4, 2) := by decide +kernel
theorem dX8_findTable_40 : decode cX8_findTable 40 = .ok (.iload 4, 2) := by decide +kernel
theorem dX8_findTable_42 : decode cX8_findTable 42 = .ok (.iconst 3, 1) := by decide +kernel
theorem dX8_findTable_43 : decode cX8_findTable 43 = .ok (.if_icmp .ge 39, 3) := by decide +kernel
theorem dX8_findTable_46 : decode cX8_findTable 46 = .ok (.aload_n 0, 1) := by decide +kernel
theorem dX8_findTable_47 : decode cX8_findTable 47 = .ok (.getfield 30, 3) := by decide +kernel
theorem dX8_findTable_50 : decode cX8_findTable 50 = .ok (.iload 4, 2) := by decide +kernel
theorem dX8_findTable_52 : decode cX8_findTable 52 = .ok (.dup2, 1) := by decide +kernel
theorem dX8_findTable_53 : decode cX8_findTable 53 = .ok (.laload, 1) := by decide +kernel
theorem dX8_findTable_54 : decode cX8_findTable 54 = .ok (.aload_n 0, 1) := by decide +kernel
theorem dX8_findTable_55 : decode cX8_findTable 55 = .ok (.iload_n 2, 1) := by decide +kernel
theorem dX8_findTable_56 : decode cX8_findTable 56 = .ok (.iload 4, 2) := by decide +kernel
theorem dX8_findTable_58 : decode cX8_findTable 58 = .ok (.iload_n 3, 1) := by decide +kernel
theorem dX8_findTable_59 : decode cX8_findTable 59 = .ok (.invokevirtual 89, 3) := by decide +kernel
theorem dX8_findTable_62 : decode cX8_findTable 62 = .ok (.i2l, 1) := by decide +kernel
theorem dX8_findTable_63 : decode cX8_findTable 63 = .ok (.aload_n 0, 1) := by decide +kernel
theorem dX8_findTable_64 : decode cX8_findTable 64 = .ok (.iconst 2, 1) := by decide +kernel
theorem dX8_findTable_65 : decode cX8_findTable 65 = .ok (.iload_n 2, 1) := by decide +kernel
theorem dX8_findTable_66 : decode cX8_findTable 66 = .ok (.imul, 1) := by decide +kernel
theorem dX8_findTable_67 : decode cX8_findTable 67 = .ok (.iload_n 3, 1) := by decide +kernel
theorem dX8_findTable_68 : decode cX8_findTable 68 = .ok (.iadd, 1) := by decide +kernel
theorem dX8_findTable_69 : decode cX8_findTable 69 = .ok (.invokevirtual 102, 3) := by decide +kernel
theorem dX8_findTable_72 : decode cX8_findTable 72 = .ok (.i2l, 1) := by decide +kernel
theorem dX8_findTable_73 : decode cX8_findTable 73 = .ok (.lmul, 1) := by decide +kernel
theorem dX8_findTable_74 : decode cX8_findTable 74 = .ok (.ladd, 1) := by decide +kernel
theorem dX8_findTable_75 : decode cX8_findTable 75 = .ok (.lastore, 1) := by decide +kernel
theorem dX8_findTable_76 : decode cX8_findTable 76 = .ok (.iinc 4 1, 3) := by decide +kernel
theorem dX8_findTable_79 : decode cX8_findTable 79 = .ok (.goto (-39), 3) := by decide +kernel
theorem dX8_findTable_82 : decode cX8_findTable 82 = .ok (.iinc 3 1, 3) := by decide +kernel
theorem dX8_findTable_85 : decode cX8_findTable 85 = .ok (.goto (-53), 3) := by decide +kernel
theorem dX8_findTable_88 : decode cX8_findTable 88 = .ok (.iinc 1 1, 3) := by decide +kernel
theorem dX8_findTable_91 : decode cX8_findTable 91 = .ok (.goto (-81), 3) := by decide +kernel
theorem dX8_findTable_94 : decode cX8_findTable 94 = .ok (.return_, 1) := by decide +kernel
theorem dX8_table_0 : decode cX8_table 0 = .ok (.iload_n 1, 1) := by decide +kernel
theorem dX8_table_1 : decode cX8_table 1 = .ok (.i2l, 1) := by decide +kernel
theorem dX8_table_2 : decode cX8_table 2 = .ok (.lconst 0, 1) := by decide +kernel
theorem dX8_table_3 : decode cX8_table 3 = .ok (.ldc2_w 81, 3) := by decide +kernel
theorem dX8_table_6 : decode cX8_table 6 = .ok (.invokestatic 70, 3) := by decide +kernel
theorem dX8_table_9 : decode cX8_table 9 = .ok (.ifCond .eq 15, 3) := by decide +kernel
theorem dX8_table_12 : decode cX8_table 12 = .ok (.iload_n 2, 1) := by decide +kernel
theorem dX8_table_13 : decode cX8_table 13 = .ok (.i2l, 1) := by decide +kernel
theorem dX8_table_14 : decode cX8_table 14 = .ok (.lconst 0, 1) := by decide +kernel
theorem dX8_table_15 : decode cX8_table 15 = .ok (.ldc2_w 81, 3) := by decide +kernel
theorem dX8_table_18 : decode cX8_table 18 = .ok (.invokestatic 70, 3) := by decide +kernel
theorem dX8_table_21 : decode cX8_table 21 = .ok (.ifCond .ne 9, 3) := by decide +kernel
theorem dX8_table_24 : decode cX8_table 24 = .ok (.bipush (-2), 2) := by decide +kernel
theorem dX8_table_26 : decode cX8_table 26 = .ok (.invokestatic 125, 3) := by decide +kernel
theorem dX8_table_29 : decode cX8_table 29 = .ok (.lreturn, 1) := by decide +kernel
theorem dX8_table_30 : decode cX8_table 30 = .ok (.aload_n 0, 1) := by decide +kernel
theorem dX8_table_31 : decode cX8_table 31 = .ok (.invokevirtual 129, 3) := by decide +kernel
theorem dX8_table_34 : decode cX8_table 34 = .ok (.aload_n 0, 1) := by decide +kernel
theorem dX8_table_35 : decode cX8_table 35 = .ok (.getfield 26, 3) := by decide +kernel
theorem dX8_table_38 : decode cX8_table 38 = .ok (.iconst 3, 1) := by decide +kernel
theorem dX8_table_39 : decode cX8_table 39 = .ok (.iload_n 1, 1) := by decide +kernel
theorem dX8_table_40 : decode cX8_table 40 = .ok (.imul, 1) := by decide +kernel
theorem dX8_table_41 : decode cX8_table 41 = .ok (.iload_n 2, 1) := by decide +kernel
theorem dX8_table_42 : decode cX8_table 42 = .ok (.iadd, 1) := by decide +kernel
theorem dX8_table_43 : decode cX8_table 43 = .ok (.laload, 1) := by decide +kernel
theorem dX8_table_44 : decode cX8_table 44 = .ok (.lreturn, 1) := by decide +kernel
theorem dX8_det_0 : decode cX8_det 0 = .ok (.lload_n 0, 1) := by decide +kernel
theorem dX8_det_1 : decode cX8_det 1 = .ok (.lload 8, 2) := by decide +kernel
theorem dX8_det_3 : decode cX8_det 3 = .ok (.lload 16, 2) := by decide +kernel
theorem dX8_det_5 : decode cX8_det 5 = .ok (.lmul, 1) := by decide +kernel
theorem dX8_det_6 : decode cX8_det 6 = .ok (.lload 10, 2) := by decide +kernel
theorem dX8_det_8 : decode cX8_det 8 = .ok (.lload 14, 2) := by decide +kernel
theorem dX8_det_10 : decode cX8_det 10 = .ok (.lmul, 1) := by decide +kernel
theorem dX8_det_11 : decode cX8_det 11 = .ok (.lsub, 1) := by decide +kernel
theorem dX8_det_12 : decode cX8_det 12 = .ok (.lmul, 1) := by decide +kernel
theorem dX8_det_13 : decode cX8_det 13 = .ok (.lload_n 2, 1) := by decide +kernel
theorem dX8_det_14 : decode cX8_det 14 = .ok (.lload 6, 2) := by decide +kernel
theorem dX8_det_16 : decode cX8_det 16 = .ok (.lload 16, 2) := by decide +kernel
theorem dX8_det_18 : decode cX8_det 18 = .ok (.lmul, 1) := by decide +kernel
theorem dX8_det_19 : decode cX8_det 19 = .ok (.lload 10, 2) := by decide +kernel
theorem dX8_det_21 : decode cX8_det 21 = .ok (.lload 12, 2) := by decide +kernel
theorem dX8_det_23 : decode cX8_det 23 = .ok (.lmul, 1) := by decide +kernel
theorem dX8_det_24 : decode cX8_det 24 = .ok (.lsub, 1) := by decide +kernel
theorem dX8_det_25 : decode cX8_det 25 = .ok (.lmul, 1) := by decide +kernel
theorem dX8_det_26 : decode cX8_det 26 = .ok (.lsub, 1) := by decide +kernel
theorem dX8_det_27 : decode cX8_det 27 = .ok (.lload 4, 2) := by decide +kernel
theorem dX8_det_29 : decode cX8_det 29 = .ok (.lload 6, 2) := by decide +kernel
theorem dX8_det_31 : decode cX8_det 31 = .ok (.lload 14, 2) := by decide +kernel
theorem dX8_det_33 : decode cX8_det 33 = .ok (.lmul, 1) := by decide +kernel
theorem dX8_det_34 : decode cX8_det 34 = .ok (.lload 8, 2) := by decide +kernel
theorem dX8_det_36 : decode cX8_det 36 = .ok (.lload 12, 2) := by decide +kernel
theorem dX8_det_38 : decode cX8_det 38 = .ok (.lmul, 1) := by decide +kernel
theorem dX8_det_39 : decode cX8_det 39 = .ok (.lsub, 1) := by decide +kernel
theorem dX8_det_40 : decode cX8_det 40 = .ok (.lmul, 1) := by decide +kernel
theorem dX8_det_41 : decode cX8_det 41 = .ok (.ladd, 1) := by decide +kernel
theorem dX8_det_42 : decode cX8_det 42 = .ok (.lreturn, 1) := by decide +kernel
theorem dX8_weightNow_0 : decode cX8_weightNow 0 = .ok (.aload_n 0, 1) := by decide +kernel
theorem dX8_weightNow_1 : decode cX8_weightNow 1 = .ok (.getfield 26, 3) := by decide +kernel
theorem dX8_weightNow_4 : decode cX8_weightNow 4 = .ok (.iconst 0, 1) := by decide +kernel
theorem dX8_weightNow_5 : decode cX8_weightNow 5 = .ok (.laload, 1) := by decide +kernel
theorem dX8_weightNow_6 : decode cX8_weightNow 6 = .ok (.aload_n 0, 1) := by decide +kernel
theorem dX8_weightNow_7 : decode cX8_weightNow 7 = .ok (.getfield 26, 3) := by decide +kernel
theorem dX8_weightNow_10 : decode cX8_weightNow 10 = .ok (.iconst 1, 1) := by decide +kernel
theorem dX8_weightNow_11 : decode cX8_weightNow 11 = .ok (.laload, 1) := by decide +kernel
theorem dX8_weightNow_12 : decode cX8_weightNow 12 = .ok (.aload_n 0, 1) := by decide +kernel
theorem dX8_weightNow_13 : decode cX8_weightNow 13 = .ok (.getfield 26, 3) := by decide +kernel
theorem dX8_weightNow_16 : decode cX8_weightNow 16 = .ok (.iconst 2, 1) := by decide +kernel
theorem dX8_weightNow_17 : decode cX8_weightNow 17 = .ok (.laload, 1) := by decide +kernel
theorem dX8_weightNow_18 : decode cX8_weightNow 18 = .ok (.aload_n 0, 1) := by decide +kernel
theorem dX8_weightNow_19 : decode cX8_weightNow 19 = .ok (.getfield 26, 3) := by decide +kernel
theorem dX8_weightNow_22 : decode cX8_weightNow 22 = .ok (.iconst 3, 1) := by decide +kernel
theorem dX8_weightNow_23 : decode cX8_weightNow 23 = .ok (.laload, 1) := by decide +kernel
theorem dX8_weightNow_24 : decode cX8_weightNow 24 = .ok (.aload_n 0, 1) := by decide +kernel
theorem dX8_weightNow_25 : decode cX8_weightNow 25 = .ok (.getfield 26, 3) := by decide +kernel
theorem dX8_weightNow_28 : decode cX8_weightNow 28 = .ok (.iconst 4, 1) := by decide +kernel
theorem dX8_weightNow_29 : decode cX8_weightNow 29 = .ok (.laload, 1) := by decide +kernel
theorem dX8_weightNow_30 : decode cX8_weightNow 30 = .ok (.aload_n 0, 1) := by decide +kernel
theorem dX8_weightNow_31 : decode cX8_weightNow 31 = .ok (.getfield 26, 3) := by decide +kernel
theorem dX8_weightNow_34 : decode cX8_weightNow 34 = .ok (.iconst 5, 1) := by decide +kernel
theorem dX8_weightNow_35 : decode cX8_weightNow 35 = .ok (.laload, 1) := by decide +kernel
theorem dX8_weightNow_36 : decode cX8_weightNow 36 = .ok (.aload_n 0, 1) := by decide +kernel
theorem dX8_weightNow_37 : decode cX8_weightNow 37 = .ok (.getfield 26, 3) := by decide +kernel
theorem dX8_weightNow_40 : decode cX8_weightNow 40 = .ok (.bipush 6, 2) := by decide +kernel
theorem dX8_weightNow_42 : decode cX8_weightNow 42 = .ok (.laload, 1) := by decide +kernel
theorem dX8_weightNow_43 : decode cX8_weightNow 43 = .ok (.aload_n 0, 1) := by decide +kernel
theorem dX8_weightNow_44 : decode cX8_weightNow 44 = .ok (.getfield 26, 3) := by decide +kernel
theorem dX8_weightNow_47 : decode cX8_weightNow 47 = .ok (.bipush 7, 2) := by decide +kernel
theorem dX8_weightNow_49 : decode cX8_weightNow 49 = .ok (.laload, 1) := by decide +kernel
theorem dX8_weightNow_50 : decode cX8_weightNow 50 = .ok (.aload_n 0, 1) := by decide +kernel
theorem dX8_weightNow_51 : decode cX8_weightNow 51 = .ok (.getfield 26, 3) := by decide +kernel
theorem dX8_weightNow_54 : decode cX8_weightNow 54 = .ok (.bipush 8, 2) := by decide +kernel
theorem dX8_weightNow_56 : decode cX8_weightNow 56 = .ok (.laload, 1) := by decide +kernel
theorem dX8_weightNow_57 : decode cX8_weightNow 57 = .ok (.invokestatic 132, 3) := by decide +kernel
theorem dX8_weightNow_60 : decode cX8_weightNow 60 = .ok (.lreturn, 1) := by decide +kernel
theorem dX8_stands_0 : decode cX8_stands 0 = .ok (.aload_n 0, 1) := by decide +kernel
theorem dX8_stands_1 : decode cX8_stands 1 = .ok (.getfield 26, 3) := by decide +kernel
theorem dX8_stands_4 : decode cX8_stands 4 = .ok (.iconst 3, 1) := by decide +kernel
theorem dX8_stands_5 : decode cX8_stands 5 = .ok (.iload_n 1, 1) := by decide +kernel
theorem dX8_stands_6 : decode cX8_stands 6 = .ok (.imul, 1) := by decide +kernel
theorem dX8_stands_7 : decode cX8_stands 7 = .ok (.laload, 1) := by decide +kernel
theorem dX8_stands_8 : decode cX8_stands 8 = .ok (.lstore_n 3, 1) := by decide +kernel
theorem dX8_stands_9 : decode cX8_stands 9 = .ok (.aload_n 0, 1) := by decide +kernel
theorem dX8_stands_10 : decode cX8_stands 10 = .ok (.getfield 26, 3) := by decide +kernel
theorem dX8_stands_13 : decode cX8_stands 13 = .ok (.iconst 3, 1) := by decide +kernel
theorem dX8_stands_14 : decode cX8_stands 14 = .ok (.iload_n 1, 1) := by decide +kernel
theorem dX8_stands_15 : decode cX8_stands 15 = .ok (.imul, 1) := by decide +kernel
theorem dX8_stands_16 : decode cX8_stands 16 = .ok (.iconst 1, 1) := by decide +kernel
theorem dX8_stands_17 : decode cX8_stands 17 = .ok (.iadd, 1) := by decide +kernel
theorem dX8_stands_18 : decode cX8_stands 18 = .ok (.laload, 1) := by decide +kernel
theorem dX8_stands_19 : decode cX8_stands 19 = .ok (.lstore 5, 2) := by decide +kernel
theorem dX8_stands_21 : decode cX8_stands 21 = .ok (.aload_n 0, 1) := by decide +kernel
theorem dX8_stands_22 : decode cX8_stands 22 = .ok (.getfield 26, 3) := by decide +kernel
theorem dX8_stands_25 : decode cX8_stands 25 = .ok (.iconst 3, 1) := by decide +kernel
theorem dX8_stands_26 : decode cX8_stands 26 = .ok (.iload_n 1, 1) := by decide +kernel
theorem dX8_stands_27 : decode cX8_stands 27 = .ok (.imul, 1) := by decide +kernel
theorem dX8_stands_28 : decode cX8_stands 28 = .ok (.iconst 2, 1) := by decide +kernel
theorem dX8_stands_29 : decode cX8_stands 29 = .ok (.iadd, 1) := by decide +kernel
theorem dX8_stands_30 : decode cX8_stands 30 = .ok (.laload, 1) := by decide +kernel
theorem dX8_stands_31 : decode cX8_stands 31 = .ok (.lstore 7, 2) := by decide +kernel
theorem dX8_stands_33 : decode cX8_stands 33 = .ok (.aload_n 0, 1) := by decide +kernel
theorem dX8_stands_34 : decode cX8_stands 34 = .ok (.getfield 26, 3) := by decide +kernel
theorem dX8_stands_37 : decode cX8_stands 37 = .ok (.iconst 3, 1) := by decide +kernel
theorem dX8_stands_38 : decode cX8_stands 38 = .ok (.iload_n 2, 1) := by decide +kernel
theorem dX8_stands_39 : decode cX8_stands 39 = .ok (.imul, 1) := by decide +kernel
theorem dX8_stands_40 : decode cX8_stands 40 = .ok (.laload, 1) := by decide +kernel
theorem dX8_stands_41 : decode cX8_stands 41 = .ok (.lstore 9, 2) := by decide +kernel
theorem dX8_stands_43 : decode cX8_stands 43 = .ok (.aload_n 0, 1) := by decide +kernel
theorem dX8_stands_44 : decode cX8_stands 44 = .ok (.getfield 26, 3) := by decide +kernel
theorem dX8_stands_47 : decode cX8_stands 47 = .ok (.iconst 3, 1) := by decide +kernel
theorem dX8_stands_48 : decode cX8_stands 48 = .ok (.iload_n 2, 1) := by decide +kernel
theorem dX8_stands_49 : decode cX8_stands 49 = .ok (.imul, 1) := by decide +kernel
theorem dX8_stands_50 : decode cX8_stands 50 = .ok (.iconst 1, 1) := by decide +kernel
theorem dX8_stands_51 : decode cX8_stands 51 = .ok (.iadd, 1) := by decide +kernel
theorem dX8_stands_52 : decode cX8_stands 52 = .ok (.laload, 1) := by decide +kernel
theorem dX8_stands_53 : decode cX8_stands 53 = .ok (.lstore 11, 2) := by decide +kernel
theorem dX8_stands_55 : decode cX8_stands 55 = .ok (.aload_n 0, 1) := by decide +kernel
theorem dX8_stands_56 : decode cX8_stands 56 = .ok (.getfield 26, 3) := by decide +kernel
theorem dX8_stands_59 : decode cX8_stands 59 = .ok (.iconst 3, 1) := by decide +kernel
theorem dX8_stands_60 : decode cX8_stands 60 = .ok (.iload_n 2, 1) := by decide +kernel
theorem dX8_stands_61 : decode cX8_stands 61 = .ok (.imul, 1) := by decide +kernel
theorem dX8_stands_62 : decode cX8_stands 62 = .ok (.iconst 2, 1) := by decide +kernel
theorem dX8_stands_63 : decode cX8_stands 63 = .ok (.iadd, 1) := by decide +kernel
theorem dX8_stands_64 : decode cX8_stands 64 = .ok (.laload, 1) := by decide +kernel
theorem dX8_stands_65 : decode cX8_stands 65 = .ok (.lstore 13, 2) := by decide +kernel
theorem dX8_stands_67 : decode cX8_stands 67 = .ok (.aload_n 0, 1) := by decide +kernel
theorem dX8_stands_68 : decode cX8_stands 68 = .ok (.getfield 33, 3) := by decide +kernel
theorem dX8_stands_71 : decode cX8_stands 71 = .ok (.iconst 0, 1) := by decide +kernel
theorem dX8_stands_72 : decode cX8_stands 72 = .ok (.lload 5, 2) := by decide +kernel
theorem dX8_stands_74 : decode cX8_stands 74 = .ok (.lload 13, 2) := by decide +kernel
theorem dX8_stands_76 : decode cX8_stands 76 = .ok (.lmul, 1) := by decide +kernel
theorem dX8_stands_77 : decode cX8_stands 77 = .ok (.lload 7, 2) := by decide +kernel
theorem dX8_stands_79 : decode cX8_stands 79 = .ok (.lload 11, 2) := by decide +kernel
theorem dX8_stands_81 : decode cX8_stands 81 = .ok (.lmul, 1) := by decide +kernel
theorem dX8_stands_82 : decode cX8_stands 82 = .ok (.lsub, 1) := by decide +kernel
theorem dX8_stands_83 : decode cX8_stands 83 = .ok (.lastore, 1) := by decide +kernel
theorem dX8_stands_84 : decode cX8_stands 84 = .ok (.aload_n 0, 1) := by decide +kernel
theorem dX8_stands_85 : decode cX8_stands 85 = .ok (.getfield 33, 3) := by decide +kernel
theorem dX8_stands_88 : decode cX8_stands 88 = .ok (.iconst 1, 1) := by decide +kernel
theorem dX8_stands_89 : decode cX8_stands 89 = .ok (.lload 7, 2) := by decide +kernel
theorem dX8_stands_91 : decode cX8_stands 91 = .ok (.lload 9, 2) := by decide +kernel
theorem dX8_stands_93 : decode cX8_stands 93 = .ok (.lmul, 1) := by decide +kernel
theorem dX8_stands_94 : decode cX8_stands 94 = .ok (.lload_n 3, 1) := by decide +kernel
theorem dX8_stands_95 : decode cX8_stands 95 = .ok (.lload 13, 2) := by decide +kernel
theorem dX8_stands_97 : decode cX8_stands 97 = .ok (.lmul, 1) := by decide +kernel
theorem dX8_stands_98 : decode cX8_stands 98 = .ok (.lsub, 1) := by decide +kernel
theorem dX8_stands_99 : decode cX8_stands 99 = .ok (.lastore, 1) := by decide +kernel
theorem dX8_stands_100 : decode cX8_stands 100 = .ok (.aload_n 0, 1) := by decide +kernel
theorem dX8_stands_101 : decode cX8_stands 101 = .ok (.getfield 33, 3) := by decide +kernel
theorem dX8_stands_104 : decode cX8_stands 104 = .ok (.iconst 2, 1) := by decide +kernel
theorem dX8_stands_105 : decode cX8_stands 105 = .ok (.lload_n 3, 1) := by decide +kernel
theorem dX8_stands_106 : decode cX8_stands 106 = .ok (.lload 11, 2) := by decide +kernel
theorem dX8_stands_108 : decode cX8_stands 108 = .ok (.lmul, 1) := by decide +kernel
theorem dX8_stands_109 : decode cX8_stands 109 = .ok (.lload 5, 2) := by decide +kernel
theorem dX8_stands_111 : decode cX8_stands 111 = .ok (.lload 9, 2) := by decide +kernel
theorem dX8_stands_113 : decode cX8_stands 113 = .ok (.lmul, 1) := by decide +kernel
theorem dX8_stands_114 : decode cX8_stands 114 = .ok (.lsub, 1) := by decide +kernel
theorem dX8_stands_115 : decode cX8_stands 115 = .ok (.lastore, 1) := by decide +kernel
theorem dX8_stands_116 : decode cX8_stands 116 = .ok (.aload_n 0, 1) := by decide +kernel
theorem dX8_stands_117 : decode cX8_stands 117 = .ok (.getfield 33, 3) := by decide +kernel
theorem dX8_stands_120 : decode cX8_stands 120 = .ok (.iconst 0, 1) := by decide +kernel
theorem dX8_stands_121 : decode cX8_stands 121 = .ok (.laload, 1) := by decide +kernel
theorem dX8_stands_122 : decode cX8_stands 122 = .ok (.lconst 0, 1) := by decide +kernel
theorem dX8_stands_123 : decode cX8_stands 123 = .ok (.lcmp, 1) := by decide +kernel
theorem dX8_stands_124 : decode cX8_stands 124 = .ok (.ifCond .ne 25, 3) := by decide +kernel
theorem dX8_stands_127 : decode cX8_stands 127 = .ok (.aload_n 0, 1) := by decide +kernel
theorem dX8_stands_128 : decode cX8_stands 128 = .ok (.getfield 33, 3) := by decide +kernel
theorem dX8_stands_131 : decode cX8_stands 131 = .ok (.iconst 1, 1) := by decide +kernel
theorem dX8_stands_132 : decode cX8_stands 132 = .ok (.laload, 1) := by decide +kernel
theorem dX8_stands_133 : decode cX8_stands 133 = .ok (.lconst 0, 1) := by decide +kernel
theorem dX8_stands_134 : decode cX8_stands 134 = .ok (.lcmp, 1) := by decide +kernel
theorem dX8_stands_135 : decode cX8_stands 135 = .ok (.ifCond .ne 14, 3) := by decide +kernel
theorem dX8_stands_138 : decode cX8_stands 138 = .ok (.aload_n 0, 1) := by decide +kernel
theorem dX8_stands_139 : decode cX8_stands 139 = .ok (.getfield 33, 3) := by decide +kernel
theorem dX8_stands_142 : decode cX8_stands 142 = .ok (.iconst 2, 1) := by decide +kernel
theorem dX8_stands_143 : decode cX8_stands 143 = .ok (.laload, 1) := by decide +kernel
theorem dX8_stands_144 : decode cX8_stands 144 = .ok (.lconst 0, 1) := by decide +kernel
theorem dX8_stands_145 : decode cX8_stands 145 = .ok (.lcmp, 1) := by decide +kernel
theorem dX8_stands_146 : decode cX8_stands 146 = .ok (.ifCond .eq 7, 3) := by decide +kernel
theorem dX8_stands_149 : decode cX8_stands 149 = .ok (.iconst 1, 1) := by decide +kernel
theorem dX8_stands_150 : decode cX8_stands 150 = .ok (.goto 4, 3) := by decide +kernel
theorem dX8_stands_153 : decode cX8_stands 153 = .ok (.iconst 0, 1) := by decide +kernel
theorem dX8_stands_154 : decode cX8_stands 154 = .ok (.ireturn, 1) := by decide +kernel
theorem dX8_rankNow_0 : decode cX8_rankNow 0 = .ok (.aload_n 0, 1) := by decide +kernel
theorem dX8_rankNow_1 : decode cX8_rankNow 1 = .ok (.invokevirtual 136, 3) := by decide +kernel
theorem dX8_rankNow_4 : decode cX8_rankNow 4 = .ok (.lconst 0, 1) := by decide +kernel
theorem dX8_rankNow_5 : decode cX8_rankNow 5 = .ok (.lcmp, 1) := by decide +kernel
theorem dX8_rankNow_6 : decode cX8_rankNow 6 = .ok (.ifCond .eq 5, 3) := by decide +kernel
theorem dX8_rankNow_9 : decode cX8_rankNow 9 = .ok (.iconst 3, 1) := by decide +kernel
theorem dX8_rankNow_10 : decode cX8_rankNow 10 = .ok (.ireturn, 1) := by decide +kernel
theorem dX8_rankNow_11 : decode cX8_rankNow 11 = .ok (.aload_n 0, 1) := by decide +kernel
theorem dX8_rankNow_12 : decode cX8_rankNow 12 = .ok (.iconst 0, 1) := by decide +kernel
theorem dX8_rankNow_13 : decode cX8_rankNow 13 = .ok (.iconst 1, 1) := by decide +kernel
theorem dX8_rankNow_14 : decode cX8_rankNow 14 = .ok (.invokevirtual 140, 3) := by decide +kernel
theorem dX8_rankNow_17 : decode cX8_rankNow 17 = .ok (.ifCond .ne 21, 3) := by decide +kernel
theorem dX8_rankNow_20 : decode cX8_rankNow 20 = .ok (.aload_n 0, 1) := by decide +kernel
theorem dX8_rankNow_21 : decode cX8_rankNow 21 = .ok (.iconst 0, 1) := by decide +kernel
theorem dX8_rankNow_22 : decode cX8_rankNow 22 = .ok (.iconst 2, 1) := by decide +kernel
theorem dX8_rankNow_23 : decode cX8_rankNow 23 = .ok (.invokevirtual 140, 3) := by decide +kernel
theorem dX8_rankNow_26 : decode cX8_rankNow 26 = .ok (.ifCond .ne 12, 3) := by decide +kernel
theorem dX8_rankNow_29 : decode cX8_rankNow 29 = .ok (.aload_n 0, 1) := by decide +kernel
theorem dX8_rankNow_30 : decode cX8_rankNow 30 = .ok (.iconst 1, 1) := by decide +kernel
theorem dX8_rankNow_31 : decode cX8_rankNow 31 = .ok (.iconst 2, 1) := by decide +kernel
theorem dX8_rankNow_32 : decode cX8_rankNow 32 = .ok (.invokevirtual 140, 3) := by decide +kernel
theorem dX8_rankNow_35 : decode cX8_rankNow 35 = .ok (.ifCond .eq 5, 3) := by decide +kernel
theorem dX8_rankNow_38 : decode cX8_rankNow 38 = .ok (.iconst 2, 1) := by decide +kernel
theorem dX8_rankNow_39 : decode cX8_rankNow 39 = .ok (.ireturn, 1) := by decide +kernel
theorem dX8_rankNow_40 : decode cX8_rankNow 40 = .ok (.iconst 0, 1) := by decide +kernel
theorem dX8_rankNow_41 : decode cX8_rankNow 41 = .ok (.istore_n 1, 1) := by decide +kernel
theorem dX8_rankNow_42 : decode cX8_rankNow 42 = .ok (.iload_n 1, 1) := by decide +kernel
theorem dX8_rankNow_43 : decode cX8_rankNow 43 = .ok (.bipush 9, 2) := by decide +kernel
theorem dX8_rankNow_45 : decode cX8_rankNow 45 = .ok (.if_icmp .ge 22, 3) := by decide +kernel
theorem dX8_rankNow_48 : decode cX8_rankNow 48 = .ok (.aload_n 0, 1) := by decide +kernel
theorem dX8_rankNow_49 : decode cX8_rankNow 49 = .ok (.getfield 26, 3) := by decide +kernel
theorem dX8_rankNow_52 : decode cX8_rankNow 52 = .ok (.iload_n 1, 1) := by decide +kernel
theorem dX8_rankNow_53 : decode cX8_rankNow 53 = .ok (.laload, 1) := by decide +kernel
theorem dX8_rankNow_54 : decode cX8_rankNow 54 = .ok (.lconst 0, 1) := by decide +kernel
theorem dX8_rankNow_55 : decode cX8_rankNow 55 = .ok (.lcmp, 1) := by decide +kernel
theorem dX8_rankNow_56 : decode cX8_rankNow 56 = .ok (.ifCond .eq 5, 3) := by decide +kernel
theorem dX8_rankNow_59 : decode cX8_rankNow 59 = .ok (.iconst 1, 1) := by decide +kernel
theorem dX8_rankNow_60 : decode cX8_rankNow 60 = .ok (.ireturn, 1) := by decide +kernel
theorem dX8_rankNow_61 : decode cX8_rankNow 61 = .ok (.iinc 1 1, 3) := by decide +kernel
theorem dX8_rankNow_64 : decode cX8_rankNow 64 = .ok (.goto (-22), 3) := by decide +kernel
theorem dX8_rankNow_67 : decode cX8_rankNow 67 = .ok (.iconst 0, 1) := by decide +kernel
theorem dX8_rankNow_68 : decode cX8_rankNow 68 = .ok (.ireturn, 1) := by decide +kernel
theorem dX8_rank_0 : decode cX8_rank 0 = .ok (.aload_n 0, 1) := by decide +kernel
theorem dX8_rank_1 : decode cX8_rank 1 = .ok (.invokevirtual 129, 3) := by decide +kernel
theorem dX8_rank_4 : decode cX8_rank 4 = .ok (.aload_n 0, 1) := by decide +kernel
theorem dX8_rank_5 : decode cX8_rank 5 = .ok (.invokevirtual 144, 3) := by decide +kernel
theorem dX8_rank_8 : decode cX8_rank 8 = .ok (.ireturn, 1) := by decide +kernel
theorem dX8_told_0 : decode cX8_told 0 = .ok (.iload_n 1, 1) := by decide +kernel
theorem dX8_told_1 : decode cX8_told 1 = .ok (.i2l, 1) := by decide +kernel
theorem dX8_told_2 : decode cX8_told 2 = .ok (.lconst 0, 1) := by decide +kernel
theorem dX8_told_3 : decode cX8_told 3 = .ok (.ldc2_w 81, 3) := by decide +kernel
theorem dX8_told_6 : decode cX8_told 6 = .ok (.invokestatic 70, 3) := by decide +kernel
theorem dX8_told_9 : decode cX8_told 9 = .ok (.ifCond .ne 6, 3) := by decide +kernel
theorem dX8_told_12 : decode cX8_told 12 = .ok (.bipush (-2), 2) := by decide +kernel
theorem dX8_told_14 : decode cX8_told 14 = .ok (.ireturn, 1) := by decide +kernel
theorem dX8_told_15 : decode cX8_told 15 = .ok (.aload_n 0, 1) := by decide +kernel
theorem dX8_told_16 : decode cX8_told 16 = .ok (.invokevirtual 129, 3) := by decide +kernel
theorem dX8_told_19 : decode cX8_told 19 = .ok (.aload_n 0, 1) := by decide +kernel
theorem dX8_told_20 : decode cX8_told 20 = .ok (.invokevirtual 144, 3) := by decide +kernel
theorem dX8_told_23 : decode cX8_told 23 = .ok (.istore_n 2, 1) := by decide +kernel
theorem dX8_told_24 : decode cX8_told 24 = .ok (.iload_n 2, 1) := by decide +kernel
theorem dX8_told_25 : decode cX8_told 25 = .ok (.iconst 3, 1) := by decide +kernel
theorem dX8_told_26 : decode cX8_told 26 = .ok (.if_icmp .ne 5, 3) := by decide +kernel
theorem dX8_told_29 : decode cX8_told 29 = .ok (.iconst 1, 1) := by decide +kernel
theorem dX8_told_30 : decode cX8_told 30 = .ok (.ireturn, 1) := by decide +kernel
theorem dX8_told_31 : decode cX8_told 31 = .ok (.iload_n 2, 1) := by decide +kernel
theorem dX8_told_32 : decode cX8_told 32 = .ok (.iconst 2, 1) := by decide +kernel
theorem dX8_told_33 : decode cX8_told 33 = .ok (.if_icmp .ne 53, 3) := by decide +kernel
theorem dX8_told_36 : decode cX8_told 36 = .ok (.aload_n 0, 1) := by decide +kernel
theorem dX8_told_37 : decode cX8_told 37 = .ok (.iconst 0, 1) := by decide +kernel
theorem dX8_told_38 : decode cX8_told 38 = .ok (.iconst 1, 1) := by decide +kernel
theorem dX8_told_39 : decode cX8_told 39 = .ok (.invokevirtual 140, 3) := by decide +kernel
theorem dX8_told_42 : decode cX8_told 42 = .ok (.ifCond .ne 21, 3) := by decide +kernel
theorem dX8_told_45 : decode cX8_told 45 = .ok (.aload_n 0, 1) := by decide +kernel
theorem dX8_told_46 : decode cX8_told 46 = .ok (.iconst 0, 1) := by decide +kernel
theorem dX8_told_47 : decode cX8_told 47 = .ok (.iconst 2, 1) := by decide +kernel
theorem dX8_told_48 : decode cX8_told 48 = .ok (.invokevirtual 140, 3) := by decide +kernel
theorem dX8_told_51 : decode cX8_told 51 = .ok (.ifCond .ne 12, 3) := by decide +kernel
theorem dX8_told_54 : decode cX8_told 54 = .ok (.aload_n 0, 1) := by decide +kernel
theorem dX8_told_55 : decode cX8_told 55 = .ok (.iconst 1, 1) := by decide +kernel
theorem dX8_told_56 : decode cX8_told 56 = .ok (.iconst 2, 1) := by decide +kernel
theorem dX8_told_57 : decode cX8_told 57 = .ok (.invokevirtual 140, 3) := by decide +kernel
theorem dX8_told_60 : decode cX8_told 60 = .ok (.ifCond .eq 7, 3) := by decide +kernel
theorem dX8_told_63 : decode cX8_told 63 = .ok (.iconst 1, 1) := by decide +kernel
theorem dX8_told_64 : decode cX8_told 64 = .ok (.goto 4, 3) := by decide +kernel
theorem dX8_told_67 : decode cX8_told 67 = .ok (.iconst 0, 1) := by decide +kernel
theorem dX8_told_68 : decode cX8_told 68 = .ok (.istore_n 3, 1) := by decide +kernel
theorem dX8_told_69 : decode cX8_told 69 = .ok (.aload_n 0, 1) := by decide +kernel
theorem dX8_told_70 : decode cX8_told 70 = .ok (.getfield 33, 3) := by decide +kernel
theorem dX8_told_73 : decode cX8_told 73 = .ok (.iload_n 1, 1) := by decide +kernel
theorem dX8_told_74 : decode cX8_told 74 = .ok (.laload, 1) := by decide +kernel
theorem dX8_told_75 : decode cX8_told 75 = .ok (.lconst 0, 1) := by decide +kernel
theorem dX8_told_76 : decode cX8_told 76 = .ok (.lcmp, 1) := by decide +kernel
theorem dX8_told_77 : decode cX8_told 77 = .ok (.ifCond .ne 7, 3) := by decide +kernel
theorem dX8_told_80 : decode cX8_told 80 = .ok (.iconst 1, 1) := by decide +kernel
theorem dX8_told_81 : decode cX8_told 81 = .ok (.goto 4, 3) := by decide +kernel
theorem dX8_told_84 : decode cX8_told 84 = .ok (.iconst 0, 1) := by decide +kernel
theorem dX8_told_85 : decode cX8_told 85 = .ok (.ireturn, 1) := by decide +kernel
theorem dX8_told_86 : decode cX8_told 86 = .ok (.iconst 0, 1) := by decide +kernel
theorem dX8_told_87 : decode cX8_told 87 = .ok (.istore_n 3, 1) := by decide +kernel
theorem dX8_told_88 : decode cX8_told 88 = .ok (.iload_n 3, 1) := by decide +kernel
theorem dX8_told_89 : decode cX8_told 89 = .ok (.iconst 3, 1) := by decide +kernel
theorem dX8_told_90 : decode cX8_told 90 = .ok (.if_icmp .ge 87, 3) := by decide +kernel
theorem dX8_told_93 : decode cX8_told 93 = .ok (.aload_n 0, 1) := by decide +kernel
theorem dX8_told_94 : decode cX8_told 94 = .ok (.getfield 26, 3) := by decide +kernel
theorem dX8_told_97 : decode cX8_told 97 = .ok (.iconst 3, 1) := by decide +kernel
theorem dX8_told_98 : decode cX8_told 98 = .ok (.iload_n 3, 1) := by decide +kernel
theorem dX8_told_99 : decode cX8_told 99 = .ok (.imul, 1) := by decide +kernel
theorem dX8_told_100 : decode cX8_told 100 = .ok (.iload_n 1, 1) := by decide +kernel
theorem dX8_told_101 : decode cX8_told 101 = .ok (.iadd, 1) := by decide +kernel
theorem dX8_told_102 : decode cX8_told 102 = .ok (.laload, 1) := by decide +kernel
theorem dX8_told_103 : decode cX8_told 103 = .ok (.lconst 0, 1) := by decide +kernel
theorem dX8_told_104 : decode cX8_told 104 = .ok (.lcmp, 1) := by decide +kernel
theorem dX8_told_105 : decode cX8_told 105 = .ok (.ifCond .eq 7, 3) := by decide +kernel
theorem dX8_told_108 : decode cX8_told 108 = .ok (.iconst 1, 1) := by decide +kernel
theorem dX8_told_109 : decode cX8_told 109 = .ok (.goto 4, 3) := by decide +kernel
theorem dX8_told_112 : decode cX8_told 112 = .ok (.iconst 0, 1) := by decide +kernel
theorem dX8_told_113 : decode cX8_told 113 = .ok (.istore 4, 2) := by decide +kernel
theorem dX8_told_115 : decode cX8_told 115 = .ok (.iconst 0, 1) := by decide +kernel
theorem dX8_told_116 : decode cX8_told 116 = .ok (.istore 5, 2) := by decide +kernel
theorem dX8_told_118 : decode cX8_told 118 = .ok (.iload 5, 2) := by decide +kernel
theorem dX8_told_120 : decode cX8_told 120 = .ok (.iconst 3, 1) := by decide +kernel
theorem dX8_told_121 : decode cX8_told 121 = .ok (.if_icmp .ge 43, 3) := by decide +kernel
theorem dX8_told_124 : decode cX8_told 124 = .ok (.iload 4, 2) := by decide +kernel
theorem dX8_told_126 : decode cX8_told 126 = .ok (.ifCond .eq 29, 3) := by decide +kernel
theorem dX8_told_129 : decode cX8_told 129 = .ok (.iload 5, 2) := by decide +kernel
theorem dX8_told_131 : decode cX8_told 131 = .ok (.iload_n 1, 1) := by decide +kernel
theorem dX8_told_132 : decode cX8_told 132 = .ok (.if_icmp .eq 19, 3) := by decide +kernel
theorem dX8_told_135 : decode cX8_told 135 = .ok (.aload_n 0, 1) := by decide +kernel
theorem dX8_told_136 : decode cX8_told 136 = .ok (.getfield 26, 3) := by decide +kernel
theorem dX8_told_139 : decode cX8_told 139 = .ok (.iconst 3, 1) := by decide +kernel
theorem dX8_told_140 : decode cX8_told 140 = .ok (.iload_n 3, 1) := by decide +kernel
theorem dX8_told_141 : decode cX8_told 141 = .ok (.imul, 1) := by decide +kernel
theorem dX8_told_142 : decode cX8_told 142 = .ok (.iload 5, 2) := by decide +kernel
theorem dX8_told_144 : decode cX8_told 144 = .ok (.iadd, 1) := by decide +kernel
theorem dX8_told_145 : decode cX8_told 145 = .ok (.laload, 1) := by decide +kernel
theorem dX8_told_146 : decode cX8_told 146 = .ok (.lconst 0, 1) := by decide +kernel
theorem dX8_told_147 : decode cX8_told 147 = .ok (.lcmp, 1) := by decide +kernel
theorem dX8_told_148 : decode cX8_told 148 = .ok (.ifCond .ne 7, 3) := by decide +kernel
theorem dX8_told_151 : decode cX8_told 151 = .ok (.iconst 1, 1) := by decide +kernel
theorem dX8_told_152 : decode cX8_told 152 = .ok (.goto 4, 3) := by decide +kernel
theorem dX8_told_155 : decode cX8_told 155 = .ok (.iconst 0, 1) := by decide +kernel
theorem dX8_told_156 : decode cX8_told 156 = .ok (.istore 4, 2) := by decide +kernel
theorem dX8_told_158 : decode cX8_told 158 = .ok (.iinc 5 1, 3) := by decide +kernel
theorem dX8_told_161 : decode cX8_told 161 = .ok (.goto (-43), 3) := by decide +kernel
theorem dX8_told_164 : decode cX8_told 164 = .ok (.iload 4, 2) := by decide +kernel
theorem dX8_told_166 : decode cX8_told 166 = .ok (.ifCond .eq 5, 3) := by decide +kernel
theorem dX8_told_169 : decode cX8_told 169 = .ok (.iconst 1, 1) := by decide +kernel
theorem dX8_told_170 : decode cX8_told 170 = .ok (.ireturn, 1) := by decide +kernel
theorem dX8_told_171 : decode cX8_told 171 = .ok (.iinc 3 1, 3) := by decide +kernel
theorem dX8_told_174 : decode cX8_told 174 = .ok (.goto (-86), 3) := by decide +kernel
theorem dX8_told_177 : decode cX8_told 177 = .ok (.iconst 0, 1) := by decide +kernel
theorem dX8_told_178 : decode cX8_told 178 = .ok (.ireturn, 1) := by decide +kernel
theorem dX8_fitOf_0 : decode cX8_fitOf 0 = .ok (.aload_n 0, 1) := by decide +kernel
theorem dX8_fitOf_1 : decode cX8_fitOf 1 = .ok (.invokevirtual 136, 3) := by decide +kernel
theorem dX8_fitOf_4 : decode cX8_fitOf 4 = .ok (.lstore_n 2, 1) := by decide +kernel
theorem dX8_fitOf_5 : decode cX8_fitOf 5 = .ok (.iload_n 1, 1) := by decide +kernel
theorem dX8_fitOf_6 : decode cX8_fitOf 6 = .ok (.ifCond .ne 65, 3) := by decide +kernel
theorem dX8_fitOf_9 : decode cX8_fitOf 9 = .ok (.aload_n 0, 1) := by decide +kernel
theorem dX8_fitOf_10 : decode cX8_fitOf 10 = .ok (.getfield 30, 3) := by decide +kernel
theorem dX8_fitOf_13 : decode cX8_fitOf 13 = .ok (.iconst 0, 1) := by decide +kernel
theorem dX8_fitOf_14 : decode cX8_fitOf 14 = .ok (.laload, 1) := by decide +kernel
theorem dX8_fitOf_15 : decode cX8_fitOf 15 = .ok (.aload_n 0, 1) := by decide +kernel
theorem dX8_fitOf_16 : decode cX8_fitOf 16 = .ok (.getfield 26, 3) := by decide +kernel
theorem dX8_fitOf_19 : decode cX8_fitOf 19 = .ok (.iconst 1, 1) := by decide +kernel
theorem dX8_fitOf_20 : decode cX8_fitOf 20 = .ok (.laload, 1) := by decide +kernel
theorem dX8_fitOf_21 : decode cX8_fitOf 21 = .ok (.aload_n 0, 1) := by decide +kernel
theorem dX8_fitOf_22 : decode cX8_fitOf 22 = .ok (.getfield 26, 3) := by decide +kernel
theorem dX8_fitOf_25 : decode cX8_fitOf 25 = .ok (.iconst 2, 1) := by decide +kernel
theorem dX8_fitOf_26 : decode cX8_fitOf 26 = .ok (.laload, 1) := by decide +kernel
theorem dX8_fitOf_27 : decode cX8_fitOf 27 = .ok (.aload_n 0, 1) := by decide +kernel
theorem dX8_fitOf_28 : decode cX8_fitOf 28 = .ok (.getfield 30, 3) := by decide +kernel
theorem dX8_fitOf_31 : decode cX8_fitOf 31 = .ok (.iconst 1, 1) := by decide +kernel
theorem dX8_fitOf_32 : decode cX8_fitOf 32 = .ok (.laload, 1) := by decide +kernel
theorem dX8_fitOf_33 : decode cX8_fitOf 33 = .ok (.aload_n 0, 1) := by decide +kernel
theorem dX8_fitOf_34 : decode cX8_fitOf 34 = .ok (.getfield 26, 3) := by decide +kernel
theorem dX8_fitOf_37 : decode cX8_fitOf 37 = .ok (.iconst 4, 1) := by decide +kernel
theorem dX8_fitOf_38 : decode cX8_fitOf 38 = .ok (.laload, 1) := by decide +kernel
theorem dX8_fitOf_39 : decode cX8_fitOf 39 = .ok (.aload_n 0, 1) := by decide +kernel
theorem dX8_fitOf_40 : decode cX8_fitOf 40 = .ok (.getfield 26, 3) := by decide +kernel
theorem dX8_fitOf_43 : decode cX8_fitOf 43 = .ok (.iconst 5, 1) := by decide +kernel
theorem dX8_fitOf_44 : decode cX8_fitOf 44 = .ok (.laload, 1) := by decide +kernel
theorem dX8_fitOf_45 : decode cX8_fitOf 45 = .ok (.aload_n 0, 1) := by decide +kernel
theorem dX8_fitOf_46 : decode cX8_fitOf 46 = .ok (.getfield 30, 3) := by decide +kernel
theorem dX8_fitOf_49 : decode cX8_fitOf 49 = .ok (.iconst 2, 1) := by decide +kernel
theorem dX8_fitOf_50 : decode cX8_fitOf 50 = .ok (.laload, 1) := by decide +kernel
theorem dX8_fitOf_51 : decode cX8_fitOf 51 = .ok (.aload_n 0, 1) := by decide +kernel
theorem dX8_fitOf_52 : decode cX8_fitOf 52 = .ok (.getfield 26, 3) := by decide +kernel
theorem dX8_fitOf_55 : decode cX8_fitOf 55 = .ok (.bipush 7, 2) := by decide +kernel
theorem dX8_fitOf_57 : decode cX8_fitOf 57 = .ok (.laload, 1) := by decide +kernel
theorem dX8_fitOf_58 : decode cX8_fitOf 58 = .ok (.aload_n 0, 1) := by decide +kernel
theorem dX8_fitOf_59 : decode cX8_fitOf 59 = .ok (.getfield 26, 3) := by decide +kernel
theorem dX8_fitOf_62 : decode cX8_fitOf 62 = .ok (.bipush 8, 2) := by decide +kernel
theorem dX8_fitOf_64 : decode cX8_fitOf 64 = .ok (.laload, 1) := by decide +kernel
theorem dX8_fitOf_65 : decode cX8_fitOf 65 = .ok (.invokestatic 132, 3) := by decide +kernel
theorem dX8_fitOf_68 : decode cX8_fitOf 68 = .ok (.goto 129, 3) := by decide +kernel
theorem dX8_fitOf_71 : decode cX8_fitOf 71 = .ok (.iload_n 1, 1) := by decide +kernel
theorem dX8_fitOf_72 : decode cX8_fitOf 72 = .ok (.iconst 1, 1) := by decide +kernel
theorem dX8_fitOf_73 : decode cX8_fitOf 73 = .ok (.if_icmp .ne 65, 3) := by decide +kernel
theorem dX8_fitOf_76 : decode cX8_fitOf 76 = .ok (.aload_n 0, 1) := by decide +kernel
theorem dX8_fitOf_77 : decode cX8_fitOf 77 = .ok (.getfield 26, 3) := by decide +kernel
theorem dX8_fitOf_80 : decode cX8_fitOf 80 = .ok (.iconst 0, 1) := by decide +kernel
theorem dX8_fitOf_81 : decode cX8_fitOf 81 = .ok (.laload, 1) := by decide +kernel
theorem dX8_fitOf_82 : decode cX8_fitOf 82 = .ok (.aload_n 0, 1) := by decide +kernel
theorem dX8_fitOf_83 : decode cX8_fitOf 83 = .ok (.getfield 30, 3) := by decide +kernel
theorem dX8_fitOf_86 : decode cX8_fitOf 86 = .ok (.iconst 0, 1) := by decide +kernel
theorem dX8_fitOf_87 : decode cX8_fitOf 87 = .ok (.laload, 1) := by decide +kernel
theorem dX8_fitOf_88 : decode cX8_fitOf 88 = .ok (.aload_n 0, 1) := by decide +kernel
theorem dX8_fitOf_89 : decode cX8_fitOf 89 = .ok (.getfield 26, 3) := by decide +kernel
theorem dX8_fitOf_92 : decode cX8_fitOf 92 = .ok (.iconst 2, 1) := by decide +kernel
theorem dX8_fitOf_93 : decode cX8_fitOf 93 = .ok (.laload, 1) := by decide +kernel
theorem dX8_fitOf_94 : decode cX8_fitOf 94 = .ok (.aload_n 0, 1) := by decide +kernel
theorem dX8_fitOf_95 : decode cX8_fitOf 95 = .ok (.getfield 26, 3) := by decide +kernel
theorem dX8_fitOf_98 : decode cX8_fitOf 98 = .ok (.iconst 3, 1) := by decide +kernel
theorem dX8_fitOf_99 : decode cX8_fitOf 99 = .ok (.laload, 1) := by decide +kernel
theorem dX8_fitOf_100 : decode cX8_fitOf 100 = .ok (.aload_n 0, 1) := by decide +kernel
theorem dX8_fitOf_101 : decode cX8_fitOf 101 = .ok (.getfield 30, 3) := by decide +kernel
theorem dX8_fitOf_104 : decode cX8_fitOf 104 = .ok (.iconst 1, 1) := by decide +kernel
theorem dX8_fitOf_105 : decode cX8_fitOf 105 = .ok (.laload, 1) := by decide +kernel
theorem dX8_fitOf_106 : decode cX8_fitOf 106 = .ok (.aload_n 0, 1) := by decide +kernel
theorem dX8_fitOf_107 : decode cX8_fitOf 107 = .ok (.getfield 26, 3) := by decide +kernel
theorem dX8_fitOf_110 : decode cX8_fitOf 110 = .ok (.iconst 5, 1) := by decide +kernel
theorem dX8_fitOf_111 : decode cX8_fitOf 111 = .ok (.laload, 1) := by decide +kernel
theorem dX8_fitOf_112 : decode cX8_fitOf 112 = .ok (.aload_n 0, 1) := by decide +kernel
theorem dX8_fitOf_113 : decode cX8_fitOf 113 = .ok (.getfield 26, 3) := by decide +kernel
theorem dX8_fitOf_116 : decode cX8_fitOf 116 = .ok (.bipush 6, 2) := by decide +kernel
theorem dX8_fitOf_118 : decode cX8_fitOf 118 = .ok (.laload, 1) := by decide +kernel
theorem dX8_fitOf_119 : decode cX8_fitOf 119 = .ok (.aload_n 0, 1) := by decide +kernel
theorem dX8_fitOf_120 : decode cX8_fitOf 120 = .ok (.getfield 30, 3) := by decide +kernel
theorem dX8_fitOf_123 : decode cX8_fitOf 123 = .ok (.iconst 2, 1) := by decide +kernel
theorem dX8_fitOf_124 : decode cX8_fitOf 124 = .ok (.laload, 1) := by decide +kernel
theorem dX8_fitOf_125 : decode cX8_fitOf 125 = .ok (.aload_n 0, 1) := by decide +kernel
theorem dX8_fitOf_126 : decode cX8_fitOf 126 = .ok (.getfield 26, 3) := by decide +kernel
theorem dX8_fitOf_129 : decode cX8_fitOf 129 = .ok (.bipush 8, 2) := by decide +kernel
theorem dX8_fitOf_131 : decode cX8_fitOf 131 = .ok (.laload, 1) := by decide +kernel
theorem dX8_fitOf_132 : decode cX8_fitOf 132 = .ok (.invokestatic 132, 3) := by decide +kernel
theorem dX8_fitOf_135 : decode cX8_fitOf 135 = .ok (.goto 62, 3) := by decide +kernel
theorem dX8_fitOf_138 : decode cX8_fitOf 138 = .ok (.aload_n 0, 1) := by decide +kernel
theorem dX8_fitOf_139 : decode cX8_fitOf 139 = .ok (.getfield 26, 3) := by decide +kernel
theorem dX8_fitOf_142 : decode cX8_fitOf 142 = .ok (.iconst 0, 1) := by decide +kernel
theorem dX8_fitOf_143 : decode cX8_fitOf 143 = .ok (.laload, 1) := by decide +kernel
theorem dX8_fitOf_144 : decode cX8_fitOf 144 = .ok (.aload_n 0, 1) := by decide +kernel
theorem dX8_fitOf_145 : decode cX8_fitOf 145 = .ok (.getfield 26, 3) := by decide +kernel
theorem dX8_fitOf_148 : decode cX8_fitOf 148 = .ok (.iconst 1, 1) := by decide +kernel
theorem dX8_fitOf_149 : decode cX8_fitOf 149 = .ok (.laload, 1) := by decide +kernel
theorem dX8_fitOf_150 : decode cX8_fitOf 150 = .ok (.aload_n 0, 1) := by decide +kernel
theorem dX8_fitOf_151 : decode cX8_fitOf 151 = .ok (.getfield 30, 3) := by decide +kernel
theorem dX8_fitOf_154 : decode cX8_fitOf 154 = .ok (.iconst 0, 1) := by decide +kernel
theorem dX8_fitOf_155 : decode cX8_fitOf 155 = .ok (.laload, 1) := by decide +kernel
theorem dX8_fitOf_156 : decode cX8_fitOf 156 = .ok (.aload_n 0, 1) := by decide +kernel
theorem dX8_fitOf_157 : decode cX8_fitOf 157 = .ok (.getfield 26, 3) := by decide +kernel
theorem dX8_fitOf_160 : decode cX8_fitOf 160 = .ok (.iconst 3, 1) := by decide +kernel
theorem dX8_fitOf_161 : decode cX8_fitOf 161 = .ok (.laload, 1) := by decide +kernel
theorem dX8_fitOf_162 : decode cX8_fitOf 162 = .ok (.aload_n 0, 1) := by decide +kernel
theorem dX8_fitOf_163 : decode cX8_fitOf 163 = .ok (.getfield 26, 3) := by decide +kernel
theorem dX8_fitOf_166 : decode cX8_fitOf 166 = .ok (.iconst 4, 1) := by decide +kernel
theorem dX8_fitOf_167 : decode cX8_fitOf 167 = .ok (.laload, 1) := by decide +kernel
theorem dX8_fitOf_168 : decode cX8_fitOf 168 = .ok (.aload_n 0, 1) := by decide +kernel
theorem dX8_fitOf_169 : decode cX8_fitOf 169 = .ok (.getfield 30, 3) := by decide +kernel
theorem dX8_fitOf_172 : decode cX8_fitOf 172 = .ok (.iconst 1, 1) := by decide +kernel
theorem dX8_fitOf_173 : decode cX8_fitOf 173 = .ok (.laload, 1) := by decide +kernel
theorem dX8_fitOf_174 : decode cX8_fitOf 174 = .ok (.aload_n 0, 1) := by decide +kernel
theorem dX8_fitOf_175 : decode cX8_fitOf 175 = .ok (.getfield 26, 3) := by decide +kernel
theorem dX8_fitOf_178 : decode cX8_fitOf 178 = .ok (.bipush 6, 2) := by decide +kernel
theorem dX8_fitOf_180 : decode cX8_fitOf 180 = .ok (.laload, 1) := by decide +kernel
theorem dX8_fitOf_181 : decode cX8_fitOf 181 = .ok (.aload_n 0, 1) := by decide +kernel
theorem dX8_fitOf_182 : decode cX8_fitOf 182 = .ok (.getfield 26, 3) := by decide +kernel
theorem dX8_fitOf_185 : decode cX8_fitOf 185 = .ok (.bipush 7, 2) := by decide +kernel
theorem dX8_fitOf_187 : decode cX8_fitOf 187 = .ok (.laload, 1) := by decide +kernel
theorem dX8_fitOf_188 : decode cX8_fitOf 188 = .ok (.aload_n 0, 1) := by decide +kernel
theorem dX8_fitOf_189 : decode cX8_fitOf 189 = .ok (.getfield 30, 3) := by decide +kernel
theorem dX8_fitOf_192 : decode cX8_fitOf 192 = .ok (.iconst 2, 1) := by decide +kernel
theorem dX8_fitOf_193 : decode cX8_fitOf 193 = .ok (.laload, 1) := by decide +kernel
theorem dX8_fitOf_194 : decode cX8_fitOf 194 = .ok (.invokestatic 132, 3) := by decide +kernel
theorem dX8_fitOf_197 : decode cX8_fitOf 197 = .ok (.lstore 4, 2) := by decide +kernel
theorem dX8_fitOf_199 : decode cX8_fitOf 199 = .ok (.lload 4, 2) := by decide +kernel
theorem dX8_fitOf_201 : decode cX8_fitOf 201 = .ok (.lload_n 2, 1) := by decide +kernel
theorem dX8_fitOf_202 : decode cX8_fitOf 202 = .ok (.ldiv, 1) := by decide +kernel
theorem dX8_fitOf_203 : decode cX8_fitOf 203 = .ok (.lstore 6, 2) := by decide +kernel
theorem dX8_fitOf_205 : decode cX8_fitOf 205 = .ok (.lload 6, 2) := by decide +kernel
theorem dX8_fitOf_207 : decode cX8_fitOf 207 = .ok (.lload_n 2, 1) := by decide +kernel
theorem dX8_fitOf_208 : decode cX8_fitOf 208 = .ok (.lmul, 1) := by decide +kernel
theorem dX8_fitOf_209 : decode cX8_fitOf 209 = .ok (.lload 4, 2) := by decide +kernel
theorem dX8_fitOf_211 : decode cX8_fitOf 211 = .ok (.lcmp, 1) := by decide +kernel
theorem dX8_fitOf_212 : decode cX8_fitOf 212 = .ok (.ifCond .le 9, 3) := by decide +kernel
theorem dX8_fitOf_215 : decode cX8_fitOf 215 = .ok (.lload 6, 2) := by decide +kernel
theorem dX8_fitOf_217 : decode cX8_fitOf 217 = .ok (.lconst 1, 1) := by decide +kernel
theorem dX8_fitOf_218 : decode cX8_fitOf 218 = .ok (.lsub, 1) := by decide +kernel
theorem dX8_fitOf_219 : decode cX8_fitOf 219 = .ok (.lstore 6, 2) := by decide +kernel
theorem dX8_fitOf_221 : decode cX8_fitOf 221 = .ok (.ldc2_w 148, 3) := by decide +kernel
theorem dX8_fitOf_224 : decode cX8_fitOf 224 = .ok (.lload 6, 2) := by decide +kernel
theorem dX8_fitOf_226 : decode cX8_fitOf 226 = .ok (.lmul, 1) := by decide +kernel
theorem dX8_fitOf_227 : decode cX8_fitOf 227 = .ok (.ldc2_w 148, 3) := by decide +kernel
theorem dX8_fitOf_230 : decode cX8_fitOf 230 = .ok (.lload 4, 2) := by decide +kernel
theorem dX8_fitOf_232 : decode cX8_fitOf 232 = .ok (.lload 6, 2) := by decide +kernel
theorem dX8_fitOf_234 : decode cX8_fitOf 234 = .ok (.lload_n 2, 1) := by decide +kernel
theorem dX8_fitOf_235 : decode cX8_fitOf 235 = .ok (.lmul, 1) := by decide +kernel
theorem dX8_fitOf_236 : decode cX8_fitOf 236 = .ok (.lsub, 1) := by decide +kernel
theorem dX8_fitOf_237 : decode cX8_fitOf 237 = .ok (.lmul, 1) := by decide +kernel
theorem dX8_fitOf_238 : decode cX8_fitOf 238 = .ok (.lload_n 2, 1) := by decide +kernel
theorem dX8_fitOf_239 : decode cX8_fitOf 239 = .ok (.ldiv, 1) := by decide +kernel
theorem dX8_fitOf_240 : decode cX8_fitOf 240 = .ok (.ladd, 1) := by decide +kernel
theorem dX8_fitOf_241 : decode cX8_fitOf 241 = .ok (.lreturn, 1) := by decide +kernel
theorem dX8_fit_0 : decode cX8_fit 0 = .ok (.iload_n 1, 1) := by decide +kernel
theorem dX8_fit_1 : decode cX8_fit 1 = .ok (.i2l, 1) := by decide +kernel
theorem dX8_fit_2 : decode cX8_fit 2 = .ok (.lconst 0, 1) := by decide +kernel
theorem dX8_fit_3 : decode cX8_fit 3 = .ok (.ldc2_w 81, 3) := by decide +kernel
theorem dX8_fit_6 : decode cX8_fit 6 = .ok (.invokestatic 70, 3) := by decide +kernel
theorem dX8_fit_9 : decode cX8_fit 9 = .ok (.ifCond .ne 9, 3) := by decide +kernel
theorem dX8_fit_12 : decode cX8_fit 12 = .ok (.bipush (-2), 2) := by decide +kernel
theorem dX8_fit_14 : decode cX8_fit 14 = .ok (.invokestatic 125, 3) := by decide +kernel
theorem dX8_fit_17 : decode cX8_fit 17 = .ok (.lreturn, 1) := by decide +kernel
theorem dX8_fit_18 : decode cX8_fit 18 = .ok (.aload_n 0, 1) := by decide +kernel
theorem dX8_fit_19 : decode cX8_fit 19 = .ok (.invokevirtual 129, 3) := by decide +kernel
theorem dX8_fit_22 : decode cX8_fit 22 = .ok (.aload_n 0, 1) := by decide +kernel
theorem dX8_fit_23 : decode cX8_fit 23 = .ok (.invokevirtual 144, 3) := by decide +kernel
theorem dX8_fit_26 : decode cX8_fit 26 = .ok (.iconst 3, 1) := by decide +kernel
theorem dX8_fit_27 : decode cX8_fit 27 = .ok (.if_icmp .ge 11, 3) := by decide +kernel
theorem dX8_fit_30 : decode cX8_fit 30 = .ok (.bipush (-3), 2) := by decide +kernel
theorem dX8_fit_32 : decode cX8_fit 32 = .ok (.invokestatic 125, 3) := by decide +kernel
theorem dX8_fit_35 : decode cX8_fit 35 = .ok (.goto 8, 3) := by decide +kernel
theorem dX8_fit_38 : decode cX8_fit 38 = .ok (.aload_n 0, 1) := by decide +kernel
theorem dX8_fit_39 : decode cX8_fit 39 = .ok (.iload_n 1, 1) := by decide +kernel
theorem dX8_fit_40 : decode cX8_fit 40 = .ok (.invokevirtual 150, 3) := by decide +kernel
theorem dX8_fit_43 : decode cX8_fit 43 = .ok (.lreturn, 1) := by decide +kernel
theorem dX8_mend_0 : decode cX8_mend 0 = .ok (.aload_n 0, 1) := by decide +kernel
theorem dX8_mend_1 : decode cX8_mend 1 = .ok (.invokevirtual 129, 3) := by decide +kernel
theorem dX8_mend_4 : decode cX8_mend 4 = .ok (.aload_n 0, 1) := by decide +kernel
theorem dX8_mend_5 : decode cX8_mend 5 = .ok (.invokevirtual 144, 3) := by decide +kernel
theorem dX8_mend_8 : decode cX8_mend 8 = .ok (.iconst 3, 1) := by decide +kernel
theorem dX8_mend_9 : decode cX8_mend 9 = .ok (.if_icmp .ge 6, 3) := by decide +kernel
theorem dX8_mend_12 : decode cX8_mend 12 = .ok (.bipush (-3), 2) := by decide +kernel
theorem dX8_mend_14 : decode cX8_mend 14 = .ok (.ireturn, 1) := by decide +kernel
theorem dX8_mend_15 : decode cX8_mend 15 = .ok (.iconst 0, 1) := by decide +kernel
theorem dX8_mend_16 : decode cX8_mend 16 = .ok (.istore_n 1, 1) := by decide +kernel
theorem dX8_mend_17 : decode cX8_mend 17 = .ok (.iload_n 1, 1) := by decide +kernel
theorem dX8_mend_18 : decode cX8_mend 18 = .ok (.iconst 3, 1) := by decide +kernel
theorem dX8_mend_19 : decode cX8_mend 19 = .ok (.if_icmp .ge 57, 3) := by decide +kernel
theorem dX8_mend_22 : decode cX8_mend 22 = .ok (.aload_n 0, 1) := by decide +kernel
theorem dX8_mend_23 : decode cX8_mend 23 = .ok (.iload_n 1, 1) := by decide +kernel
theorem dX8_mend_24 : decode cX8_mend 24 = .ok (.invokevirtual 150, 3) := by decide +kernel
theorem dX8_mend_27 : decode cX8_mend 27 = .ok (.ldc2_w 153, 3) := by decide +kernel
theorem dX8_mend_30 : decode cX8_mend 30 = .ok (.ladd, 1) := by decide +kernel
theorem dX8_mend_31 : decode cX8_mend 31 = .ok (.lstore_n 2, 1) := by decide +kernel
theorem dX8_mend_32 : decode cX8_mend 32 = .ok (.aload_n 0, 1) := by decide +kernel
theorem dX8_mend_33 : decode cX8_mend 33 = .ok (.getfield 13, 3) := by decide +kernel
theorem dX8_mend_36 : decode cX8_mend 36 = .ok (.iload_n 1, 1) := by decide +kernel
theorem dX8_mend_37 : decode cX8_mend 37 = .ok (.lload_n 2, 1) := by decide +kernel
theorem dX8_mend_38 : decode cX8_mend 38 = .ok (.ldc2_w 155, 3) := by decide +kernel
theorem dX8_mend_41 : decode cX8_mend 41 = .ok (.lcmp, 1) := by decide +kernel
theorem dX8_mend_42 : decode cX8_mend 42 = .ok (.ifCond .ge 7, 3) := by decide +kernel
theorem dX8_mend_45 : decode cX8_mend 45 = .ok (.iconst 1, 1) := by decide +kernel
theorem dX8_mend_46 : decode cX8_mend 46 = .ok (.goto 23, 3) := by decide +kernel
theorem dX8_mend_49 : decode cX8_mend 49 = .ok (.lload_n 2, 1) := by decide +kernel
theorem dX8_mend_50 : decode cX8_mend 50 = .ok (.ldc2_w 157, 3) := by decide +kernel
theorem dX8_mend_53 : decode cX8_mend 53 = .ok (.lcmp, 1) := by decide +kernel
theorem dX8_mend_54 : decode cX8_mend 54 = .ok (.ifCond .lt 9, 3) := by decide +kernel
theorem dX8_mend_57 : decode cX8_mend 57 = .ok (.sipush 999, 3) := by decide +kernel
theorem dX8_mend_60 : decode cX8_mend 60 = .ok (.goto 9, 3) := by decide +kernel
theorem dX8_mend_63 : decode cX8_mend 63 = .ok (.lload_n 2, 1) := by decide +kernel
theorem dX8_mend_64 : decode cX8_mend 64 = .ok (.ldc2_w 159, 3) := by decide +kernel
theorem dX8_mend_67 : decode cX8_mend 67 = .ok (.ldiv, 1) := by decide +kernel
theorem dX8_mend_68 : decode cX8_mend 68 = .ok (.l2i, 1) := by decide +kernel
theorem dX8_mend_69 : decode cX8_mend 69 = .ok (.iastore, 1) := by decide +kernel
theorem dX8_mend_70 : decode cX8_mend 70 = .ok (.iinc 1 1, 3) := by decide +kernel
theorem dX8_mend_73 : decode cX8_mend 73 = .ok (.goto (-56), 3) := by decide +kernel
theorem dX8_mend_76 : decode cX8_mend 76 = .ok (.iconst 1, 1) := by decide +kernel
theorem dX8_mend_77 : decode cX8_mend 77 = .ok (.ireturn, 1) := by decide +kernel
theorem dX8_missOf_0 : decode cX8_missOf 0 = .ok (.aload_n 0, 1) := by decide +kernel
theorem dX8_missOf_1 : decode cX8_missOf 1 = .ok (.iload_n 1, 1) := by decide +kernel
theorem dX8_missOf_2 : decode cX8_missOf 2 = .ok (.iconst 0, 1) := by decide +kernel
theorem dX8_missOf_3 : decode cX8_missOf 3 = .ok (.invokevirtual 97, 3) := by decide +kernel
theorem dX8_missOf_6 : decode cX8_missOf 6 = .ok (.bipush 65, 2) := by decide +kernel
theorem dX8_missOf_8 : decode cX8_missOf 8 = .ok (.aload_n 0, 1) := by decide +kernel
theorem dX8_missOf_9 : decode cX8_missOf 9 = .ok (.iconst 2, 1) := by decide +kernel
theorem dX8_missOf_10 : decode cX8_missOf 10 = .ok (.iload_n 1, 1) := by decide +kernel
theorem dX8_missOf_11 : decode cX8_missOf 11 = .ok (.imul, 1) := by decide +kernel
theorem dX8_missOf_12 : decode cX8_missOf 12 = .ok (.invokevirtual 102, 3) := by decide +kernel
theorem dX8_missOf_15 : decode cX8_missOf 15 = .ok (.imul, 1) := by decide +kernel
theorem dX8_missOf_16 : decode cX8_missOf 16 = .ok (.isub, 1) := by decide +kernel
theorem dX8_missOf_17 : decode cX8_missOf 17 = .ok (.istore_n 2, 1) := by decide +kernel
theorem dX8_missOf_18 : decode cX8_missOf 18 = .ok (.aload_n 0, 1) := by decide +kernel
theorem dX8_missOf_19 : decode cX8_missOf 19 = .ok (.iload_n 1, 1) := by decide +kernel
theorem dX8_missOf_20 : decode cX8_missOf 20 = .ok (.iconst 1, 1) := by decide +kernel
theorem dX8_missOf_21 : decode cX8_missOf 21 = .ok (.invokevirtual 97, 3) := by decide +kernel
theorem dX8_missOf_24 : decode cX8_missOf 24 = .ok (.bipush 65, 2) := by decide +kernel
theorem dX8_missOf_26 : decode cX8_missOf 26 = .ok (.aload_n 0, 1) := by decide +kernel
theorem dX8_missOf_27 : decode cX8_missOf 27 = .ok (.iconst 2, 1) := by decide +kernel
theorem dX8_missOf_28 : decode cX8_missOf 28 = .ok (.iload_n 1, 1) := by decide +kernel
theorem dX8_missOf_29 : decode cX8_missOf 29 = .ok (.imul, 1) := by decide +kernel
theorem dX8_missOf_30 : decode cX8_missOf 30 = .ok (.iconst 1, 1) := by decide +kernel
theorem dX8_missOf_31 : decode cX8_missOf 31 = .ok (.iadd, 1) := by decide +kernel
theorem dX8_missOf_32 : decode cX8_missOf 32 = .ok (.invokevirtual 102, 3) := by decide +kernel
theorem dX8_missOf_35 : decode cX8_missOf 35 = .ok (.imul, 1) := by decide +kernel
theorem dX8_missOf_36 : decode cX8_missOf 36 = .ok (.isub, 1) := by decide +kernel
theorem dX8_missOf_37 : decode cX8_missOf 37 = .ok (.istore_n 3, 1) := by decide +kernel
theorem dX8_missOf_38 : decode cX8_missOf 38 = .ok (.iload_n 2, 1) := by decide +kernel
theorem dX8_missOf_39 : decode cX8_missOf 39 = .ok (.ifCond .ge 8, 3) := by decide +kernel
theorem dX8_missOf_42 : decode cX8_missOf 42 = .ok (.iload_n 2, 1) := by decide +kernel
theorem dX8_missOf_43 : decode cX8_missOf 43 = .ok (.ineg, 1) := by decide +kernel
theorem dX8_missOf_44 : decode cX8_missOf 44 = .ok (.goto 4, 3) := by decide +kernel
theorem dX8_missOf_47 : decode cX8_missOf 47 = .ok (.iload_n 2, 1) := by decide +kernel
theorem dX8_missOf_48 : decode cX8_missOf 48 = .ok (.istore_n 2, 1) := by decide +kernel
theorem dX8_missOf_49 : decode cX8_missOf 49 = .ok (.iload_n 3, 1) := by decide +kernel
theorem dX8_missOf_50 : decode cX8_missOf 50 = .ok (.ifCond .ge 8, 3) := by decide +kernel
theorem dX8_missOf_53 : decode cX8_missOf 53 = .ok (.iload_n 3, 1) := by decide +kernel
theorem dX8_missOf_54 : decode cX8_missOf 54 = .ok (.ineg, 1) := by decide +kernel
theorem dX8_missOf_55 : decode cX8_missOf 55 = .ok (.goto 4, 3) := by decide +kernel
theorem dX8_missOf_58 : decode cX8_missOf 58 = .ok (.iload_n 3, 1) := by decide +kernel
theorem dX8_missOf_59 : decode cX8_missOf 59 = .ok (.istore_n 3, 1) := by decide +kernel
theorem dX8_missOf_60 : decode cX8_missOf 60 = .ok (.iload_n 2, 1) := by decide +kernel
theorem dX8_missOf_61 : decode cX8_missOf 61 = .ok (.iload_n 3, 1) := by decide +kernel
theorem dX8_missOf_62 : decode cX8_missOf 62 = .ok (.if_icmp .le 7, 3) := by decide +kernel
theorem dX8_missOf_65 : decode cX8_missOf 65 = .ok (.iload_n 2, 1) := by decide +kernel
theorem dX8_missOf_66 : decode cX8_missOf 66 = .ok (.goto 4, 3) := by decide +kernel
theorem dX8_missOf_69 : decode cX8_missOf 69 = .ok (.iload_n 3, 1) := by decide +kernel
theorem dX8_missOf_70 : decode cX8_missOf 70 = .ok (.ireturn, 1) := by decide +kernel
theorem dX8_miss_0 : decode cX8_miss 0 = .ok (.aload_n 0, 1) := by decide +kernel
theorem dX8_miss_1 : decode cX8_miss 1 = .ok (.iload_n 1, 1) := by decide +kernel
theorem dX8_miss_2 : decode cX8_miss 2 = .ok (.invokevirtual 93, 3) := by decide +kernel
theorem dX8_miss_5 : decode cX8_miss 5 = .ok (.ifCond .ne 6, 3) := by decide +kernel
theorem dX8_miss_8 : decode cX8_miss 8 = .ok (.bipush (-2), 2) := by decide +kernel
theorem dX8_miss_10 : decode cX8_miss 10 = .ok (.ireturn, 1) := by decide +kernel
theorem dX8_miss_11 : decode cX8_miss 11 = .ok (.aload_n 0, 1) := by decide +kernel
theorem dX8_miss_12 : decode cX8_miss 12 = .ok (.iload_n 1, 1) := by decide +kernel
theorem dX8_miss_13 : decode cX8_miss 13 = .ok (.invokevirtual 109, 3) := by decide +kernel
theorem dX8_miss_16 : decode cX8_miss 16 = .ok (.ifCond .eq 11, 3) := by decide +kernel
theorem dX8_miss_19 : decode cX8_miss 19 = .ok (.aload_n 0, 1) := by decide +kernel
theorem dX8_miss_20 : decode cX8_miss 20 = .ok (.iload_n 1, 1) := by decide +kernel
theorem dX8_miss_21 : decode cX8_miss 21 = .ok (.invokevirtual 161, 3) := by decide +kernel
theorem dX8_miss_24 : decode cX8_miss 24 = .ok (.goto 5, 3) := by decide +kernel
theorem dX8_miss_27 : decode cX8_miss 27 = .ok (.bipush (-3), 2) := by decide +kernel
theorem dX8_miss_29 : decode cX8_miss 29 = .ok (.ireturn, 1) := by decide +kernel
theorem dX8_worst_0 : decode cX8_worst 0 = .ok (.aload_n 0, 1) := by decide +kernel
theorem dX8_worst_1 : decode cX8_worst 1 = .ok (.invokevirtual 115, 3) := by decide +kernel
theorem dX8_worst_4 : decode cX8_worst 4 = .ok (.iconst (-1), 1) := by decide +kernel
theorem dX8_worst_5 : decode cX8_worst 5 = .ok (.istore_n 1, 1) := by decide +kernel
theorem dX8_worst_6 : decode cX8_worst 6 = .ok (.iconst 0, 1) := by decide +kernel
theorem dX8_worst_7 : decode cX8_worst 7 = .ok (.istore_n 2, 1) := by decide +kernel
theorem dX8_worst_8 : decode cX8_worst 8 = .ok (.iload_n 2, 1) := by decide +kernel
theorem dX8_worst_9 : decode cX8_worst 9 = .ok (.aload_n 0, 1) := by decide +kernel
theorem dX8_worst_10 : decode cX8_worst 10 = .ok (.getfield 112, 3) := by decide +kernel
theorem dX8_worst_13 : decode cX8_worst 13 = .ok (.if_icmp .ge 39, 3) := by decide +kernel
theorem dX8_worst_16 : decode cX8_worst 16 = .ok (.iload_n 1, 1) := by decide +kernel
theorem dX8_worst_17 : decode cX8_worst 17 = .ok (.iconst (-1), 1) := by decide +kernel
theorem dX8_worst_18 : decode cX8_worst 18 = .ok (.if_icmp .eq 21, 3) := by decide +kernel
theorem dX8_worst_21 : decode cX8_worst 21 = .ok (.aload_n 0, 1) := by decide +kernel
theorem dX8_worst_22 : decode cX8_worst 22 = .ok (.aload_n 0, 1) := by decide +kernel
theorem dX8_worst_23 : decode cX8_worst 23 = .ok (.getfield 23, 3) := by decide +kernel
theorem dX8_worst_26 : decode cX8_worst 26 = .ok (.iload_n 2, 1) := by decide +kernel
theorem dX8_worst_27 : decode cX8_worst 27 = .ok (.iaload, 1) := by decide +kernel
theorem dX8_worst_28 : decode cX8_worst 28 = .ok (.invokevirtual 161, 3) := by decide +kernel
theorem dX8_worst_31 : decode cX8_worst 31 = .ok (.aload_n 0, 1) := by decide +kernel
theorem dX8_worst_32 : decode cX8_worst 32 = .ok (.iload_n 1, 1) := by decide +kernel
theorem dX8_worst_33 : decode cX8_worst 33 = .ok (.invokevirtual 161, 3) := by decide +kernel
theorem dX8_worst_36 : decode cX8_worst 36 = .ok (.if_icmp .le 10, 3) := by decide +kernel
theorem dX8_worst_39 : decode cX8_worst 39 = .ok (.aload_n 0, 1) := by decide +kernel
theorem dX8_worst_40 : decode cX8_worst 40 = .ok (.getfield 23, 3) := by decide +kernel
theorem dX8_worst_43 : decode cX8_worst 43 = .ok (.iload_n 2, 1) := by decide +kernel
theorem dX8_worst_44 : decode cX8_worst 44 = .ok (.iaload, 1) := by decide +kernel
theorem dX8_worst_45 : decode cX8_worst 45 = .ok (.istore_n 1, 1) := by decide +kernel
theorem dX8_worst_46 : decode cX8_worst 46 = .ok (.iinc 2 1, 3) := by decide +kernel
theorem dX8_worst_49 : decode cX8_worst 49 = .ok (.goto (-41), 3) := by decide +kernel
theorem dX8_worst_52 : decode cX8_worst 52 = .ok (.iload_n 1, 1) := by decide +kernel
theorem dX8_worst_53 : decode cX8_worst 53 = .ok (.ireturn, 1) := by decide +kernel
theorem dX8_first10_0 : decode cX8_first10 0 = .ok (.aload_n 0, 1) := by decide +kernel
theorem dX8_first10_1 : decode cX8_first10 1 = .ok (.getfield 85, 3) := by decide +kernel
theorem dX8_first10_4 : decode cX8_first10 4 = .ok (.bipush 10, 2) := by decide +kernel
theorem dX8_first10_6 : decode cX8_first10 6 = .ok (.if_icmp .le 8, 3) := by decide +kernel
theorem dX8_first10_9 : decode cX8_first10 9 = .ok (.bipush 10, 2) := by decide +kernel
theorem dX8_first10_11 : decode cX8_first10 11 = .ok (.goto 7, 3) := by decide +kernel
theorem dX8_first10_14 : decode cX8_first10 14 = .ok (.aload_n 0, 1) := by decide +kernel
theorem dX8_first10_15 : decode cX8_first10 15 = .ok (.getfield 85, 3) := by decide +kernel
theorem dX8_first10_18 : decode cX8_first10 18 = .ok (.ireturn, 1) := by decide +kernel
theorem dX8_weightOf_0 : decode cX8_weightOf 0 = .ok (.aload_n 0, 1) := by decide +kernel
theorem dX8_weightOf_1 : decode cX8_weightOf 1 = .ok (.invokevirtual 118, 3) := by decide +kernel
theorem dX8_weightOf_4 : decode cX8_weightOf 4 = .ok (.iconst 0, 1) := by decide +kernel
theorem dX8_weightOf_5 : decode cX8_weightOf 5 = .ok (.istore_n 2, 1) := by decide +kernel
theorem dX8_weightOf_6 : decode cX8_weightOf 6 = .ok (.iload_n 2, 1) := by decide +kernel
theorem dX8_weightOf_7 : decode cX8_weightOf 7 = .ok (.aload_n 0, 1) := by decide +kernel
theorem dX8_weightOf_8 : decode cX8_weightOf 8 = .ok (.invokevirtual 164, 3) := by decide +kernel
theorem dX8_weightOf_11 : decode cX8_weightOf 11 = .ok (.if_icmp .ge 23, 3) := by decide +kernel
theorem dX8_weightOf_14 : decode cX8_weightOf 14 = .ok (.iload_n 1, 1) := by decide +kernel
theorem dX8_weightOf_15 : decode cX8_weightOf 15 = .ok (.iload_n 2, 1) := by decide +kernel
theorem dX8_weightOf_16 : decode cX8_weightOf 16 = .ok (.ishr, 1) := by decide +kernel
theorem dX8_weightOf_17 : decode cX8_weightOf 17 = .ok (.iconst 1, 1) := by decide +kernel
theorem dX8_weightOf_18 : decode cX8_weightOf 18 = .ok (.iand, 1) := by decide +kernel
theorem dX8_weightOf_19 : decode cX8_weightOf 19 = .ok (.iconst 1, 1) := by decide +kernel
theorem dX8_weightOf_20 : decode cX8_weightOf 20 = .ok (.if_icmp .ne 8, 3) := by decide +kernel
theorem dX8_weightOf_23 : decode cX8_weightOf 23 = .ok (.aload_n 0, 1) := by decide +kernel
theorem dX8_weightOf_24 : decode cX8_weightOf 24 = .ok (.iload_n 2, 1) := by decide +kernel
theorem dX8_weightOf_25 : decode cX8_weightOf 25 = .ok (.invokevirtual 121, 3) := by decide +kernel
theorem dX8_weightOf_28 : decode cX8_weightOf 28 = .ok (.iinc 2 1, 3) := by decide +kernel
theorem dX8_weightOf_31 : decode cX8_weightOf 31 = .ok (.goto (-25), 3) := by decide +kernel
theorem dX8_weightOf_34 : decode cX8_weightOf 34 = .ok (.aload_n 0, 1) := by decide +kernel
theorem dX8_weightOf_35 : decode cX8_weightOf 35 = .ok (.invokevirtual 136, 3) := by decide +kernel
theorem dX8_weightOf_38 : decode cX8_weightOf 38 = .ok (.lreturn, 1) := by decide +kernel
theorem dX8_weight_0 : decode cX8_weight 0 = .ok (.iload_n 1, 1) := by decide +kernel
theorem dX8_weight_1 : decode cX8_weight 1 = .ok (.i2l, 1) := by decide +kernel
theorem dX8_weight_2 : decode cX8_weight 2 = .ok (.lconst 0, 1) := by decide +kernel
theorem dX8_weight_3 : decode cX8_weight 3 = .ok (.iconst 1, 1) := by decide +kernel
theorem dX8_weight_4 : decode cX8_weight 4 = .ok (.aload_n 0, 1) := by decide +kernel
theorem dX8_weight_5 : decode cX8_weight 5 = .ok (.invokevirtual 164, 3) := by decide +kernel
theorem dX8_weight_8 : decode cX8_weight 8 = .ok (.ishl, 1) := by decide +kernel
theorem dX8_weight_9 : decode cX8_weight 9 = .ok (.iconst 1, 1) := by decide +kernel
theorem dX8_weight_10 : decode cX8_weight 10 = .ok (.isub, 1) := by decide +kernel
theorem dX8_weight_11 : decode cX8_weight 11 = .ok (.i2l, 1) := by decide +kernel
theorem dX8_weight_12 : decode cX8_weight 12 = .ok (.invokestatic 70, 3) := by decide +kernel
theorem dX8_weight_15 : decode cX8_weight 15 = .ok (.ifCond .eq 11, 3) := by decide +kernel
theorem dX8_weight_18 : decode cX8_weight 18 = .ok (.aload_n 0, 1) := by decide +kernel
theorem dX8_weight_19 : decode cX8_weight 19 = .ok (.iload_n 1, 1) := by decide +kernel
theorem dX8_weight_20 : decode cX8_weight 20 = .ok (.invokevirtual 167, 3) := by decide +kernel
theorem dX8_weight_23 : decode cX8_weight 23 = .ok (.goto 8, 3) := by decide +kernel
theorem dX8_weight_26 : decode cX8_weight 26 = .ok (.bipush (-2), 2) := by decide +kernel
theorem dX8_weight_28 : decode cX8_weight 28 = .ok (.invokestatic 125, 3) := by decide +kernel
theorem dX8_weight_31 : decode cX8_weight 31 = .ok (.lreturn, 1) := by decide +kernel
theorem dX8_best_0 : decode cX8_best 0 = .ok (.iload_n 1, 1) := by decide +kernel
theorem dX8_best_1 : decode cX8_best 1 = .ok (.i2l, 1) := by decide +kernel
theorem dX8_best_2 : decode cX8_best 2 = .ok (.lconst 1, 1) := by decide +kernel
theorem dX8_best_3 : decode cX8_best 3 = .ok (.ldc2_w 170, 3) := by decide +kernel
theorem dX8_best_6 : decode cX8_best 6 = .ok (.invokestatic 70, 3) := by decide +kernel
theorem dX8_best_9 : decode cX8_best 9 = .ok (.ifCond .ne 6, 3) := by decide +kernel
theorem dX8_best_12 : decode cX8_best 12 = .ok (.bipush (-2), 2) := by decide +kernel
theorem dX8_best_14 : decode cX8_best 14 = .ok (.ireturn, 1) := by decide +kernel
theorem dX8_best_15 : decode cX8_best 15 = .ok (.aload_n 0, 1) := by decide +kernel
theorem dX8_best_16 : decode cX8_best 16 = .ok (.getfield 85, 3) := by decide +kernel
theorem dX8_best_19 : decode cX8_best 19 = .ok (.iload_n 1, 1) := by decide +kernel
theorem dX8_best_20 : decode cX8_best 20 = .ok (.if_icmp .ge 6, 3) := by decide +kernel
theorem dX8_best_23 : decode cX8_best 23 = .ok (.bipush (-3), 2) := by decide +kernel
theorem dX8_best_25 : decode cX8_best 25 = .ok (.ireturn, 1) := by decide +kernel
theorem dX8_best_26 : decode cX8_best 26 = .ok (.iconst (-1), 1) := by decide +kernel
theorem dX8_best_27 : decode cX8_best 27 = .ok (.istore_n 2, 1) := by decide +kernel
theorem dX8_best_28 : decode cX8_best 28 = .ok (.lconst 0, 1) := by decide +kernel
theorem dX8_best_29 : decode cX8_best 29 = .ok (.lstore_n 3, 1) := by decide +kernel
theorem dX8_best_30 : decode cX8_best 30 = .ok (.iconst 0, 1) := by decide +kernel
theorem dX8_best_31 : decode cX8_best 31 = .ok (.istore 5, 2) := by decide +kernel
theorem dX8_best_33 : decode cX8_best 33 = .ok (.iload 5, 2) := by decide +kernel
theorem dX8_best_35 : decode cX8_best 35 = .ok (.iconst 1, 1) := by decide +kernel
theorem dX8_best_36 : decode cX8_best 36 = .ok (.aload_n 0, 1) := by decide +kernel
theorem dX8_best_37 : decode cX8_best 37 = .ok (.invokevirtual 164, 3) := by decide +kernel
theorem dX8_best_40 : decode cX8_best 40 = .ok (.ishl, 1) := by decide +kernel
theorem dX8_best_41 : decode cX8_best 41 = .ok (.if_icmp .ge 67, 3) := by decide +kernel
theorem dX8_best_44 : decode cX8_best 44 = .ok (.iconst 0, 1) := by decide +kernel
theorem dX8_best_45 : decode cX8_best 45 = .ok (.istore 6, 2) := by decide +kernel
theorem dX8_best_47 : decode cX8_best 47 = .ok (.iconst 0, 1) := by decide +kernel
theorem dX8_best_48 : decode cX8_best 48 = .ok (.istore 7, 2) := by decide +kernel
theorem dX8_best_50 : decode cX8_best 50 = .ok (.iload 7, 2) := by decide +kernel
theorem dX8_best_52 : decode cX8_best 52 = .ok (.bipush 10, 2) := by decide +kernel
theorem dX8_best_54 : decode cX8_best 54 = .ok (.if_icmp .ge 21, 3) := by decide +kernel
theorem dX8_best_57 : decode cX8_best 57 = .ok (.iload 6, 2) := by decide +kernel
theorem dX8_best_59 : decode cX8_best 59 = .ok (.iload 5, 2) := by decide +kernel
theorem dX8_best_61 : decode cX8_best 61 = .ok (.iload 7, 2) := by decide +kernel
theorem dX8_best_63 : decode cX8_best 63 = .ok (.ishr, 1) := by decide +kernel
theorem dX8_best_64 : decode cX8_best 64 = .ok (.iconst 1, 1) := by decide +kernel
theorem dX8_best_65 : decode cX8_best 65 = .ok (.iand, 1) := by decide +kernel
theorem dX8_best_66 : decode cX8_best 66 = .ok (.iadd, 1) := by decide +kernel
theorem dX8_best_67 : decode cX8_best 67 = .ok (.istore 6, 2) := by decide +kernel
theorem dX8_best_69 : decode cX8_best 69 = .ok (.iinc 7 1, 3) := by decide +kernel
theorem dX8_best_72 : decode cX8_best 72 = .ok (.goto (-22), 3) := by decide +kernel
theorem dX8_best_75 : decode cX8_best 75 = .ok (.iload 6, 2) := by decide +kernel
theorem dX8_best_77 : decode cX8_best 77 = .ok (.iload_n 1, 1) := by decide +kernel
theorem dX8_best_78 : decode cX8_best 78 = .ok (.if_icmp .ne 24, 3) := by decide +kernel
theorem dX8_best_81 : decode cX8_best 81 = .ok (.aload_n 0, 1) := by decide +kernel
theorem dX8_best_82 : decode cX8_best 82 = .ok (.iload 5, 2) := by decide +kernel
theorem dX8_best_84 : decode cX8_best 84 = .ok (.invokevirtual 167, 3) := by decide +kernel
theorem dX8_best_87 : decode cX8_best 87 = .ok (.lload_n 3, 1) := by decide +kernel
theorem dX8_best_88 : decode cX8_best 88 = .ok (.lcmp, 1) := by decide +kernel
theorem dX8_best_89 : decode cX8_best 89 = .ok (.ifCond .le 13, 3) := by decide +kernel
theorem dX8_best_92 : decode cX8_best 92 = .ok (.aload_n 0, 1) := by decide +kernel
theorem dX8_best_93 : decode cX8_best 93 = .ok (.iload 5, 2) := by decide +kernel
theorem dX8_best_95 : decode cX8_best 95 = .ok (.invokevirtual 167, 3) := by decide +kernel
theorem dX8_best_98 : decode cX8_best 98 = .ok (.lstore_n 3, 1) := by decide +kernel
theorem dX8_best_99 : decode cX8_best 99 = .ok (.iload 5, 2) := by decide +kernel
theorem dX8_best_101 : decode cX8_best 101 = .ok (.istore_n 2, 1) := by decide +kernel
theorem dX8_best_102 : decode cX8_best 102 = .ok (.iinc 5 1, 3) := by decide +kernel
theorem dX8_best_105 : decode cX8_best 105 = .ok (.goto (-72), 3) := by decide +kernel
theorem dX8_best_108 : decode cX8_best 108 = .ok (.iload_n 2, 1) := by decide +kernel
theorem dX8_best_109 : decode cX8_best 109 = .ok (.ireturn, 1) := by decide +kernel
theorem dX8_isPart_0 : decode cX8_isPart 0 = .ok (.iload_n 0, 1) := by decide +kernel
theorem dX8_isPart_1 : decode cX8_isPart 1 = .ok (.i2l, 1) := by decide +kernel
theorem dX8_isPart_2 : decode cX8_isPart 2 = .ok (.ldc2_w 172, 3) := by decide +kernel
theorem dX8_isPart_5 : decode cX8_isPart 5 = .ok (.ldc2_w 174, 3) := by decide +kernel
theorem dX8_isPart_8 : decode cX8_isPart 8 = .ok (.invokestatic 70, 3) := by decide +kernel
theorem dX8_isPart_11 : decode cX8_isPart 11 = .ok (.ireturn, 1) := by decide +kernel
theorem dX8_pair_0 : decode cX8_pair 0 = .ok (.iload_n 1, 1) := by decide +kernel
theorem dX8_pair_1 : decode cX8_pair 1 = .ok (.invokestatic 176, 3) := by decide +kernel
theorem dX8_pair_4 : decode cX8_pair 4 = .ok (.ifCond .eq 25, 3) := by decide +kernel
theorem dX8_pair_7 : decode cX8_pair 7 = .ok (.iload_n 2, 1) := by decide +kernel
theorem dX8_pair_8 : decode cX8_pair 8 = .ok (.invokestatic 176, 3) := by decide +kernel
theorem dX8_pair_11 : decode cX8_pair 11 = .ok (.ifCond .eq 18, 3) := by decide +kernel
theorem dX8_pair_14 : decode cX8_pair 14 = .ok (.iload_n 3, 1) := by decide +kernel
theorem dX8_pair_15 : decode cX8_pair 15 = .ok (.invokestatic 176, 3) := by decide +kernel
theorem dX8_pair_18 : decode cX8_pair 18 = .ok (.ifCond .eq 11, 3) := by decide +kernel
theorem dX8_pair_21 : decode cX8_pair 21 = .ok (.iload 4, 2) := by decide +kernel
theorem dX8_pair_23 : decode cX8_pair 23 = .ok (.invokestatic 176, 3) := by decide +kernel
theorem dX8_pair_26 : decode cX8_pair 26 = .ok (.ifCond .ne 6, 3) := by decide +kernel
theorem dX8_pair_29 : decode cX8_pair 29 = .ok (.bipush (-2), 2) := by decide +kernel
theorem dX8_pair_31 : decode cX8_pair 31 = .ok (.ireturn, 1) := by decide +kernel
theorem dX8_pair_32 : decode cX8_pair 32 = .ok (.aload_n 0, 1) := by decide +kernel
theorem dX8_pair_33 : decode cX8_pair 33 = .ok (.getfield 179, 3) := by decide +kernel
theorem dX8_pair_36 : decode cX8_pair 36 = .ok (.bipush 20, 2) := by decide +kernel
theorem dX8_pair_38 : decode cX8_pair 38 = .ok (.if_icmp .ne 6, 3) := by decide +kernel
theorem dX8_pair_41 : decode cX8_pair 41 = .ok (.bipush (-4), 2) := by decide +kernel
theorem dX8_pair_43 : decode cX8_pair 43 = .ok (.ireturn, 1) := by decide +kernel
theorem dX8_pair_44 : decode cX8_pair 44 = .ok (.aload_n 0, 1) := by decide +kernel
theorem dX8_pair_45 : decode cX8_pair 45 = .ok (.getfield 36, 3) := by decide +kernel
theorem dX8_pair_48 : decode cX8_pair 48 = .ok (.aload_n 0, 1) := by decide +kernel
theorem dX8_pair_49 : decode cX8_pair 49 = .ok (.getfield 179, 3) := by decide +kernel
theorem dX8_pair_52 : decode cX8_pair 52 = .ok (.iload_n 1, 1) := by decide +kernel
theorem dX8_pair_53 : decode cX8_pair 53 = .ok (.iastore, 1) := by decide +kernel
theorem dX8_pair_54 : decode cX8_pair 54 = .ok (.aload_n 0, 1) := by decide +kernel
theorem dX8_pair_55 : decode cX8_pair 55 = .ok (.getfield 39, 3) := by decide +kernel
theorem dX8_pair_58 : decode cX8_pair 58 = .ok (.aload_n 0, 1) := by decide +kernel
theorem dX8_pair_59 : decode cX8_pair 59 = .ok (.getfield 179, 3) := by decide +kernel
theorem dX8_pair_62 : decode cX8_pair 62 = .ok (.iload_n 2, 1) := by decide +kernel
theorem dX8_pair_63 : decode cX8_pair 63 = .ok (.iastore, 1) := by decide +kernel
theorem dX8_pair_64 : decode cX8_pair 64 = .ok (.aload_n 0, 1) := by decide +kernel
theorem dX8_pair_65 : decode cX8_pair 65 = .ok (.getfield 42, 3) := by decide +kernel
theorem dX8_pair_68 : decode cX8_pair 68 = .ok (.aload_n 0, 1) := by decide +kernel
theorem dX8_pair_69 : decode cX8_pair 69 = .ok (.getfield 179, 3) := by decide +kernel
theorem dX8_pair_72 : decode cX8_pair 72 = .ok (.iload_n 3, 1) := by decide +kernel
theorem dX8_pair_73 : decode cX8_pair 73 = .ok (.iastore, 1) := by decide +kernel
theorem dX8_pair_74 : decode cX8_pair 74 = .ok (.aload_n 0, 1) := by decide +kernel
theorem dX8_pair_75 : decode cX8_pair 75 = .ok (.getfield 45, 3) := by decide +kernel
theorem dX8_pair_78 : decode cX8_pair 78 = .ok (.aload_n 0, 1) := by decide +kernel
theorem dX8_pair_79 : decode cX8_pair 79 = .ok (.getfield 179, 3) := by decide +kernel
theorem dX8_pair_82 : decode cX8_pair 82 = .ok (.iload 4, 2) := by decide +kernel
theorem dX8_pair_84 : decode cX8_pair 84 = .ok (.iastore, 1) := by decide +kernel
theorem dX8_pair_85 : decode cX8_pair 85 = .ok (.aload_n 0, 1) := by decide +kernel
theorem dX8_pair_86 : decode cX8_pair 86 = .ok (.dup, 1) := by decide +kernel
theorem dX8_pair_87 : decode cX8_pair 87 = .ok (.getfield 179, 3) := by decide +kernel
theorem dX8_pair_90 : decode cX8_pair 90 = .ok (.iconst 1, 1) := by decide +kernel
theorem dX8_pair_91 : decode cX8_pair 91 = .ok (.iadd, 1) := by decide +kernel
theorem dX8_pair_92 : decode cX8_pair 92 = .ok (.putfield 179, 3) := by decide +kernel
theorem dX8_pair_95 : decode cX8_pair 95 = .ok (.aload_n 0, 1) := by decide +kernel
theorem dX8_pair_96 : decode cX8_pair 96 = .ok (.getfield 179, 3) := by decide +kernel
theorem dX8_pair_99 : decode cX8_pair 99 = .ok (.ireturn, 1) := by decide +kernel
theorem dX8_shut_0 : decode cX8_shut 0 = .ok (.aload_n 0, 1) := by decide +kernel
theorem dX8_shut_1 : decode cX8_shut 1 = .ok (.getfield 179, 3) := by decide +kernel
theorem dX8_shut_4 : decode cX8_shut 4 = .ok (.istore_n 1, 1) := by decide +kernel
theorem dX8_shut_5 : decode cX8_shut 5 = .ok (.aload_n 0, 1) := by decide +kernel
theorem dX8_shut_6 : decode cX8_shut 6 = .ok (.iconst 0, 1) := by decide +kernel
theorem dX8_shut_7 : decode cX8_shut 7 = .ok (.putfield 179, 3) := by decide +kernel
theorem dX8_shut_10 : decode cX8_shut 10 = .ok (.iload_n 1, 1) := by decide +kernel
theorem dX8_shut_11 : decode cX8_shut 11 = .ok (.ireturn, 1) := by decide +kernel
theorem dX8_shift_0 : decode cX8_shift 0 = .ok (.iload_n 3, 1) := by decide +kernel
theorem dX8_shift_1 : decode cX8_shift 1 = .ok (.iconst 1, 1) := by decide +kernel
theorem dX8_shift_2 : decode cX8_shift 2 = .ok (.if_icmp .ne 41, 3) := by decide +kernel
theorem dX8_shift_5 : decode cX8_shift 5 = .ok (.bipush 65, 2) := by decide +kernel
theorem dX8_shift_7 : decode cX8_shift 7 = .ok (.aload_n 0, 1) := by decide +kernel
theorem dX8_shift_8 : decode cX8_shift 8 = .ok (.getfield 42, 3) := by decide +kernel
theorem dX8_shift_11 : decode cX8_shift 11 = .ok (.iload_n 2, 1) := by decide +kernel
theorem dX8_shift_12 : decode cX8_shift 12 = .ok (.iaload, 1) := by decide +kernel
theorem dX8_shift_13 : decode cX8_shift 13 = .ok (.imul, 1) := by decide +kernel
theorem dX8_shift_14 : decode cX8_shift 14 = .ok (.aload_n 0, 1) := by decide +kernel
theorem dX8_shift_15 : decode cX8_shift 15 = .ok (.iload_n 1, 1) := by decide +kernel
theorem dX8_shift_16 : decode cX8_shift 16 = .ok (.invokevirtual 74, 3) := by decide +kernel
theorem dX8_shift_19 : decode cX8_shift 19 = .ok (.aload_n 0, 1) := by decide +kernel
theorem dX8_shift_20 : decode cX8_shift 20 = .ok (.getfield 36, 3) := by decide +kernel
theorem dX8_shift_23 : decode cX8_shift 23 = .ok (.iload_n 2, 1) := by decide +kernel
theorem dX8_shift_24 : decode cX8_shift 24 = .ok (.iaload, 1) := by decide +kernel
theorem dX8_shift_25 : decode cX8_shift 25 = .ok (.imul, 1) := by decide +kernel
theorem dX8_shift_26 : decode cX8_shift 26 = .ok (.aload_n 0, 1) := by decide +kernel
theorem dX8_shift_27 : decode cX8_shift 27 = .ok (.iload_n 1, 1) := by decide +kernel
theorem dX8_shift_28 : decode cX8_shift 28 = .ok (.invokevirtual 78, 3) := by decide +kernel
theorem dX8_shift_31 : decode cX8_shift 31 = .ok (.aload_n 0, 1) := by decide +kernel
theorem dX8_shift_32 : decode cX8_shift 32 = .ok (.getfield 39, 3) := by decide +kernel
theorem dX8_shift_35 : decode cX8_shift 35 = .ok (.iload_n 2, 1) := by decide +kernel
theorem dX8_shift_36 : decode cX8_shift 36 = .ok (.iaload, 1) := by decide +kernel
theorem dX8_shift_37 : decode cX8_shift 37 = .ok (.imul, 1) := by decide +kernel
theorem dX8_shift_38 : decode cX8_shift 38 = .ok (.isub, 1) := by decide +kernel
theorem dX8_shift_39 : decode cX8_shift 39 = .ok (.isub, 1) := by decide +kernel
theorem dX8_shift_40 : decode cX8_shift 40 = .ok (.goto 38, 3) := by decide +kernel
theorem dX8_shift_43 : decode cX8_shift 43 = .ok (.bipush 65, 2) := by decide +kernel
theorem dX8_shift_45 : decode cX8_shift 45 = .ok (.aload_n 0, 1) := by decide +kernel
theorem dX8_shift_46 : decode cX8_shift 46 = .ok (.getfield 45, 3) := by decide +kernel
theorem dX8_shift_49 : decode cX8_shift 49 = .ok (.iload_n 2, 1) := by decide +kernel
theorem dX8_shift_50 : decode cX8_shift 50 = .ok (.iaload, 1) := by decide +kernel
theorem dX8_shift_51 : decode cX8_shift 51 = .ok (.imul, 1) := by decide +kernel
theorem dX8_shift_52 : decode cX8_shift 52 = .ok (.aload_n 0, 1) := by decide +kernel
theorem dX8_shift_53 : decode cX8_shift 53 = .ok (.iload_n 1, 1) := by decide +kernel
theorem dX8_shift_54 : decode cX8_shift 54 = .ok (.invokevirtual 78, 3) := by decide +kernel
theorem dX8_shift_57 : decode cX8_shift 57 = .ok (.aload_n 0, 1) := by decide +kernel
theorem dX8_shift_58 : decode cX8_shift 58 = .ok (.getfield 36, 3) := by decide +kernel
theorem dX8_shift_61 : decode cX8_shift 61 = .ok (.iload_n 2, 1) := by decide +kernel
theorem dX8_shift_62 : decode cX8_shift 62 = .ok (.iaload, 1) := by decide +kernel
theorem dX8_shift_63 : decode cX8_shift 63 = .ok (.imul, 1) := by decide +kernel
theorem dX8_shift_64 : decode cX8_shift 64 = .ok (.aload_n 0, 1) := by decide +kernel
theorem dX8_shift_65 : decode cX8_shift 65 = .ok (.iload_n 1, 1) := by decide +kernel
theorem dX8_shift_66 : decode cX8_shift 66 = .ok (.invokevirtual 74, 3) := by decide +kernel
theorem dX8_shift_69 : decode cX8_shift 69 = .ok (.aload_n 0, 1) := by decide +kernel
theorem dX8_shift_70 : decode cX8_shift 70 = .ok (.getfield 39, 3) := by decide +kernel
theorem dX8_shift_73 : decode cX8_shift 73 = .ok (.iload_n 2, 1) := by decide +kernel
theorem dX8_shift_74 : decode cX8_shift 74 = .ok (.iaload, 1) := by decide +kernel
theorem dX8_shift_75 : decode cX8_shift 75 = .ok (.imul, 1) := by decide +kernel
theorem dX8_shift_76 : decode cX8_shift 76 = .ok (.iadd, 1) := by decide +kernel
theorem dX8_shift_77 : decode cX8_shift 77 = .ok (.isub, 1) := by decide +kernel
theorem dX8_shift_78 : decode cX8_shift 78 = .ok (.ireturn, 1) := by decide +kernel
theorem dX8_isAnswer_0 : decode cX8_isAnswer 0 = .ok (.iconst 1, 1) := by decide +kernel
theorem dX8_isAnswer_1 : decode cX8_isAnswer 1 = .ok (.istore_n 2, 1) := by decide +kernel
theorem dX8_isAnswer_2 : decode cX8_isAnswer 2 = .ok (.iconst 1, 1) := by decide +kernel
theorem dX8_isAnswer_3 : decode cX8_isAnswer 3 = .ok (.istore_n 3, 1) := by decide +kernel
theorem dX8_isAnswer_4 : decode cX8_isAnswer 4 = .ok (.iload_n 3, 1) := by decide +kernel
theorem dX8_isAnswer_5 : decode cX8_isAnswer 5 = .ok (.aload_n 0, 1) := by decide +kernel
theorem dX8_isAnswer_6 : decode cX8_isAnswer 6 = .ok (.getfield 179, 3) := by decide +kernel
theorem dX8_isAnswer_9 : decode cX8_isAnswer 9 = .ok (.if_icmp .ge 53, 3) := by decide +kernel
theorem dX8_isAnswer_12 : decode cX8_isAnswer 12 = .ok (.iload_n 2, 1) := by decide +kernel
theorem dX8_isAnswer_13 : decode cX8_isAnswer 13 = .ok (.ifCond .eq 41, 3) := by decide +kernel
theorem dX8_isAnswer_16 : decode cX8_isAnswer 16 = .ok (.aload_n 0, 1) := by decide +kernel
theorem dX8_isAnswer_17 : decode cX8_isAnswer 17 = .ok (.iload_n 1, 1) := by decide +kernel
theorem dX8_isAnswer_18 : decode cX8_isAnswer 18 = .ok (.iload_n 3, 1) := by decide +kernel
theorem dX8_isAnswer_19 : decode cX8_isAnswer 19 = .ok (.iconst 1, 1) := by decide +kernel
theorem dX8_isAnswer_20 : decode cX8_isAnswer 20 = .ok (.invokevirtual 182, 3) := by decide +kernel
theorem dX8_isAnswer_23 : decode cX8_isAnswer 23 = .ok (.aload_n 0, 1) := by decide +kernel
theorem dX8_isAnswer_24 : decode cX8_isAnswer 24 = .ok (.iload_n 1, 1) := by decide +kernel
theorem dX8_isAnswer_25 : decode cX8_isAnswer 25 = .ok (.iconst 0, 1) := by decide +kernel
theorem dX8_isAnswer_26 : decode cX8_isAnswer 26 = .ok (.iconst 1, 1) := by decide +kernel
theorem dX8_isAnswer_27 : decode cX8_isAnswer 27 = .ok (.invokevirtual 182, 3) := by decide +kernel
theorem dX8_isAnswer_30 : decode cX8_isAnswer 30 = .ok (.if_icmp .ne 24, 3) := by decide +kernel
theorem dX8_isAnswer_33 : decode cX8_isAnswer 33 = .ok (.aload_n 0, 1) := by decide +kernel
theorem dX8_isAnswer_34 : decode cX8_isAnswer 34 = .ok (.iload_n 1, 1) := by decide +kernel
theorem dX8_isAnswer_35 : decode cX8_isAnswer 35 = .ok (.iload_n 3, 1) := by decide +kernel
theorem dX8_isAnswer_36 : decode cX8_isAnswer 36 = .ok (.iconst 2, 1) := by decide +kernel
theorem dX8_isAnswer_37 : decode cX8_isAnswer 37 = .ok (.invokevirtual 182, 3) := by decide +kernel
theorem dX8_isAnswer_40 : decode cX8_isAnswer 40 = .ok (.aload_n 0, 1) := by decide +kernel
theorem dX8_isAnswer_41 : decode cX8_isAnswer 41 = .ok (.iload_n 1, 1) := by decide +kernel
theorem dX8_isAnswer_42 : decode cX8_isAnswer 42 = .ok (.iconst 0, 1) := by decide +kernel
theorem dX8_isAnswer_43 : decode cX8_isAnswer 43 = .ok (.iconst 2, 1) := by decide +kernel
theorem dX8_isAnswer_44 : decode cX8_isAnswer 44 = .ok (.invokevirtual 182, 3) := by decide +kernel
theorem dX8_isAnswer_47 : decode cX8_isAnswer 47 = .ok (.if_icmp .ne 7, 3) := by decide +kernel
theorem dX8_isAnswer_50 : decode cX8_isAnswer 50 = .ok (.iconst 1, 1) := by decide +kernel
theorem dX8_isAnswer_51 : decode cX8_isAnswer 51 = .ok (.goto 4, 3) := by decide +kernel
theorem dX8_isAnswer_54 : decode cX8_isAnswer 54 = .ok (.iconst 0, 1) := by decide +kernel
theorem dX8_isAnswer_55 : decode cX8_isAnswer 55 = .ok (.istore_n 2, 1) := by decide +kernel
theorem dX8_isAnswer_56 : decode cX8_isAnswer 56 = .ok (.iinc 3 1, 3) := by decide +kernel
theorem dX8_isAnswer_59 : decode cX8_isAnswer 59 = .ok (.goto (-55), 3) := by decide +kernel
theorem dX8_isAnswer_62 : decode cX8_isAnswer 62 = .ok (.iload_n 2, 1) := by decide +kernel
theorem dX8_isAnswer_63 : decode cX8_isAnswer 63 = .ok (.ireturn, 1) := by decide +kernel
theorem dX8_answers_0 : decode cX8_answers 0 = .ok (.iconst 0, 1) := by decide +kernel
theorem dX8_answers_1 : decode cX8_answers 1 = .ok (.istore_n 1, 1) := by decide +kernel
theorem dX8_answers_2 : decode cX8_answers 2 = .ok (.iconst 0, 1) := by decide +kernel
theorem dX8_answers_3 : decode cX8_answers 3 = .ok (.istore_n 2, 1) := by decide +kernel
theorem dX8_answers_4 : decode cX8_answers 4 = .ok (.iload_n 2, 1) := by decide +kernel
theorem dX8_answers_5 : decode cX8_answers 5 = .ok (.bipush 36, 2) := by decide +kernel
theorem dX8_answers_7 : decode cX8_answers 7 = .ok (.if_icmp .ge 25, 3) := by decide +kernel
theorem dX8_answers_10 : decode cX8_answers 10 = .ok (.iload_n 1, 1) := by decide +kernel
theorem dX8_answers_11 : decode cX8_answers 11 = .ok (.aload_n 0, 1) := by decide +kernel
theorem dX8_answers_12 : decode cX8_answers 12 = .ok (.iload_n 2, 1) := by decide +kernel
theorem dX8_answers_13 : decode cX8_answers 13 = .ok (.invokevirtual 185, 3) := by decide +kernel
theorem dX8_answers_16 : decode cX8_answers 16 = .ok (.ifCond .eq 7, 3) := by decide +kernel
theorem dX8_answers_19 : decode cX8_answers 19 = .ok (.iconst 1, 1) := by decide +kernel
theorem dX8_answers_20 : decode cX8_answers 20 = .ok (.goto 4, 3) := by decide +kernel
theorem dX8_answers_23 : decode cX8_answers 23 = .ok (.iconst 0, 1) := by decide +kernel
theorem dX8_answers_24 : decode cX8_answers 24 = .ok (.iadd, 1) := by decide +kernel
theorem dX8_answers_25 : decode cX8_answers 25 = .ok (.istore_n 1, 1) := by decide +kernel
theorem dX8_answers_26 : decode cX8_answers 26 = .ok (.iinc 2 1, 3) := by decide +kernel
theorem dX8_answers_29 : decode cX8_answers 29 = .ok (.goto (-25), 3) := by decide +kernel
theorem dX8_answers_32 : decode cX8_answers 32 = .ok (.iload_n 1, 1) := by decide +kernel
theorem dX8_answers_33 : decode cX8_answers 33 = .ok (.ireturn, 1) := by decide +kernel
theorem dX8_answer_0 : decode cX8_answer 0 = .ok (.iload_n 1, 1) := by decide +kernel
theorem dX8_answer_1 : decode cX8_answer 1 = .ok (.i2l, 1) := by decide +kernel
theorem dX8_answer_2 : decode cX8_answer 2 = .ok (.lconst 0, 1) := by decide +kernel
theorem dX8_answer_3 : decode cX8_answer 3 = .ok (.aload_n 0, 1) := by decide +kernel
theorem dX8_answer_4 : decode cX8_answer 4 = .ok (.invokevirtual 188, 3) := by decide +kernel
theorem dX8_answer_7 : decode cX8_answer 7 = .ok (.iconst 1, 1) := by decide +kernel
theorem dX8_answer_8 : decode cX8_answer 8 = .ok (.isub, 1) := by decide +kernel
theorem dX8_answer_9 : decode cX8_answer 9 = .ok (.i2l, 1) := by decide +kernel
theorem dX8_answer_10 : decode cX8_answer 10 = .ok (.invokestatic 70, 3) := by decide +kernel
theorem dX8_answer_13 : decode cX8_answer 13 = .ok (.ifCond .eq 15, 3) := by decide +kernel
theorem dX8_answer_16 : decode cX8_answer 16 = .ok (.iload_n 2, 1) := by decide +kernel
theorem dX8_answer_17 : decode cX8_answer 17 = .ok (.i2l, 1) := by decide +kernel
theorem dX8_answer_18 : decode cX8_answer 18 = .ok (.lconst 0, 1) := by decide +kernel
theorem dX8_answer_19 : decode cX8_answer 19 = .ok (.ldc2_w 81, 3) := by decide +kernel
theorem dX8_answer_22 : decode cX8_answer 22 = .ok (.invokestatic 70, 3) := by decide +kernel
theorem dX8_answer_25 : decode cX8_answer 25 = .ok (.ifCond .ne 6, 3) := by decide +kernel
theorem dX8_answer_28 : decode cX8_answer 28 = .ok (.ldc 101, 2) := by decide +kernel
theorem dX8_answer_30 : decode cX8_answer 30 = .ok (.ireturn, 1) := by decide +kernel
theorem dX8_answer_31 : decode cX8_answer 31 = .ok (.iload_n 2, 1) := by decide +kernel
theorem dX8_answer_32 : decode cX8_answer 32 = .ok (.ifCond .le 13, 3) := by decide +kernel
theorem dX8_answer_35 : decode cX8_answer 35 = .ok (.aload_n 0, 1) := by decide +kernel
theorem dX8_answer_36 : decode cX8_answer 36 = .ok (.getfield 179, 3) := by decide +kernel
theorem dX8_answer_39 : decode cX8_answer 39 = .ok (.ifCond .ne 6, 3) := by decide +kernel
theorem dX8_answer_42 : decode cX8_answer 42 = .ok (.ldc 191, 2) := by decide +kernel
theorem dX8_answer_44 : decode cX8_answer 44 = .ok (.ireturn, 1) := by decide +kernel
theorem dX8_answer_45 : decode cX8_answer 45 = .ok (.iconst (-1), 1) := by decide +kernel
theorem dX8_answer_46 : decode cX8_answer 46 = .ok (.istore_n 3, 1) := by decide +kernel
theorem dX8_answer_47 : decode cX8_answer 47 = .ok (.iload_n 1, 1) := by decide +kernel
theorem dX8_answer_48 : decode cX8_answer 48 = .ok (.istore 4, 2) := by decide +kernel
theorem dX8_answer_50 : decode cX8_answer 50 = .ok (.iload 4, 2) := by decide +kernel
theorem dX8_answer_52 : decode cX8_answer 52 = .ok (.ifCond .lt 26, 3) := by decide +kernel
theorem dX8_answer_55 : decode cX8_answer 55 = .ok (.iinc 3 1, 3) := by decide +kernel
theorem dX8_answer_58 : decode cX8_answer 58 = .ok (.aload_n 0, 1) := by decide +kernel
theorem dX8_answer_59 : decode cX8_answer 59 = .ok (.iload_n 3, 1) := by decide +kernel
theorem dX8_answer_60 : decode cX8_answer 60 = .ok (.invokevirtual 185, 3) := by decide +kernel
theorem dX8_answer_63 : decode cX8_answer 63 = .ok (.ifCond .ne 9, 3) := by decide +kernel
theorem dX8_answer_66 : decode cX8_answer 66 = .ok (.iinc 3 1, 3) := by decide +kernel
theorem dX8_answer_69 : decode cX8_answer 69 = .ok (.goto (-11), 3) := by decide +kernel
theorem dX8_answer_72 : decode cX8_answer 72 = .ok (.iinc 4 (-1), 3) := by decide +kernel
theorem dX8_answer_75 : decode cX8_answer 75 = .ok (.goto (-25), 3) := by decide +kernel
theorem dX8_answer_78 : decode cX8_answer 78 = .ok (.iload_n 2, 1) := by decide +kernel
theorem dX8_answer_79 : decode cX8_answer 79 = .ok (.ifCond .ne 7, 3) := by decide +kernel
theorem dX8_answer_82 : decode cX8_answer 82 = .ok (.iload_n 3, 1) := by decide +kernel
theorem dX8_answer_83 : decode cX8_answer 83 = .ok (.goto 10, 3) := by decide +kernel
theorem dX8_answer_86 : decode cX8_answer 86 = .ok (.aload_n 0, 1) := by decide +kernel
theorem dX8_answer_87 : decode cX8_answer 87 = .ok (.iload_n 3, 1) := by decide +kernel
theorem dX8_answer_88 : decode cX8_answer 88 = .ok (.iconst 0, 1) := by decide +kernel
theorem dX8_answer_89 : decode cX8_answer 89 = .ok (.iload_n 2, 1) := by decide +kernel
theorem dX8_answer_90 : decode cX8_answer 90 = .ok (.invokevirtual 182, 3) := by decide +kernel
theorem dX8_answer_93 : decode cX8_answer 93 = .ok (.ireturn, 1) := by decide +kernel
theorem dX8_limit_0 : decode cX8_limit 0 = .ok (.iload_n 1, 1) := by decide +kernel
theorem dX8_limit_1 : decode cX8_limit 1 = .ok (.i2l, 1) := by decide +kernel
theorem dX8_limit_2 : decode cX8_limit 2 = .ok (.lconst 0, 1) := by decide +kernel
theorem dX8_limit_3 : decode cX8_limit 3 = .ok (.ldc2_w 81, 3) := by decide +kernel
theorem dX8_limit_6 : decode cX8_limit 6 = .ok (.invokestatic 70, 3) := by decide +kernel
theorem dX8_limit_9 : decode cX8_limit 9 = .ok (.ifCond .eq 27, 3) := by decide +kernel
theorem dX8_limit_12 : decode cX8_limit 12 = .ok (.iload_n 2, 1) := by decide +kernel
theorem dX8_limit_13 : decode cX8_limit 13 = .ok (.i2l, 1) := by decide +kernel
theorem dX8_limit_14 : decode cX8_limit 14 = .ok (.lconst 0, 1) := by decide +kernel
theorem dX8_limit_15 : decode cX8_limit 15 = .ok (.ldc2_w 68, 3) := by decide +kernel
theorem dX8_limit_18 : decode cX8_limit 18 = .ok (.invokestatic 70, 3) := by decide +kernel
theorem dX8_limit_21 : decode cX8_limit 21 = .ok (.ifCond .eq 15, 3) := by decide +kernel
theorem dX8_limit_24 : decode cX8_limit 24 = .ok (.iload_n 3, 1) := by decide +kernel
theorem dX8_limit_25 : decode cX8_limit 25 = .ok (.i2l, 1) := by decide +kernel
theorem dX8_limit_26 : decode cX8_limit 26 = .ok (.lconst 0, 1) := by decide +kernel
theorem dX8_limit_27 : decode cX8_limit 27 = .ok (.ldc2_w 68, 3) := by decide +kernel
theorem dX8_limit_30 : decode cX8_limit 30 = .ok (.invokestatic 70, 3) := by decide +kernel
theorem dX8_limit_33 : decode cX8_limit 33 = .ok (.ifCond .ne 6, 3) := by decide +kernel
theorem dX8_limit_36 : decode cX8_limit 36 = .ok (.bipush (-2), 2) := by decide +kernel
theorem dX8_limit_38 : decode cX8_limit 38 = .ok (.ireturn, 1) := by decide +kernel
theorem dX8_limit_39 : decode cX8_limit 39 = .ok (.aload_n 0, 1) := by decide +kernel
theorem dX8_limit_40 : decode cX8_limit 40 = .ok (.getfield 48, 3) := by decide +kernel
theorem dX8_limit_43 : decode cX8_limit 43 = .ok (.iload_n 1, 1) := by decide +kernel
theorem dX8_limit_44 : decode cX8_limit 44 = .ok (.iload_n 2, 1) := by decide +kernel
theorem dX8_limit_45 : decode cX8_limit 45 = .ok (.iastore, 1) := by decide +kernel
theorem dX8_limit_46 : decode cX8_limit 46 = .ok (.aload_n 0, 1) := by decide +kernel
theorem dX8_limit_47 : decode cX8_limit 47 = .ok (.getfield 51, 3) := by decide +kernel
theorem dX8_limit_50 : decode cX8_limit 50 = .ok (.iload_n 1, 1) := by decide +kernel
theorem dX8_limit_51 : decode cX8_limit 51 = .ok (.iload_n 3, 1) := by decide +kernel
theorem dX8_limit_52 : decode cX8_limit 52 = .ok (.iastore, 1) := by decide +kernel
theorem dX8_limit_53 : decode cX8_limit 53 = .ok (.iconst 1, 1) := by decide +kernel
theorem dX8_limit_54 : decode cX8_limit 54 = .ok (.ireturn, 1) := by decide +kernel
theorem dX8_may_0 : decode cX8_may 0 = .ok (.iload_n 2, 1) := by decide +kernel
theorem dX8_may_1 : decode cX8_may 1 = .ok (.aload_n 0, 1) := by decide +kernel
theorem dX8_may_2 : decode cX8_may 2 = .ok (.getfield 48, 3) := by decide +kernel
theorem dX8_may_5 : decode cX8_may 5 = .ok (.iload_n 1, 1) := by decide +kernel
theorem dX8_may_6 : decode cX8_may 6 = .ok (.iaload, 1) := by decide +kernel
theorem dX8_may_7 : decode cX8_may 7 = .ok (.isub, 1) := by decide +kernel
theorem dX8_may_8 : decode cX8_may 8 = .ok (.bipush 36, 2) := by decide +kernel
theorem dX8_may_10 : decode cX8_may 10 = .ok (.iadd, 1) := by decide +kernel
theorem dX8_may_11 : decode cX8_may 11 = .ok (.bipush 36, 2) := by decide +kernel
theorem dX8_may_13 : decode cX8_may 13 = .ok (.irem, 1) := by decide +kernel
theorem dX8_may_14 : decode cX8_may 14 = .ok (.aload_n 0, 1) := by decide +kernel
theorem dX8_may_15 : decode cX8_may 15 = .ok (.getfield 51, 3) := by decide +kernel
theorem dX8_may_18 : decode cX8_may 18 = .ok (.iload_n 1, 1) := by decide +kernel
theorem dX8_may_19 : decode cX8_may 19 = .ok (.iaload, 1) := by decide +kernel
theorem dX8_may_20 : decode cX8_may 20 = .ok (.if_icmp .gt 7, 3) := by decide +kernel
theorem dX8_may_23 : decode cX8_may 23 = .ok (.iconst 1, 1) := by decide +kernel
theorem dX8_may_24 : decode cX8_may 24 = .ok (.goto 4, 3) := by decide +kernel
theorem dX8_may_27 : decode cX8_may 27 = .ok (.iconst 0, 1) := by decide +kernel
theorem dX8_may_28 : decode cX8_may 28 = .ok (.ireturn, 1) := by decide +kernel
theorem dX8_findNearest_0 : decode cX8_findNearest 0 = .ok (.aload_n 0, 1) := by decide +kernel
theorem dX8_findNearest_1 : decode cX8_findNearest 1 = .ok (.ldc2_w 192, 3) := by decide +kernel
theorem dX8_findNearest_4 : decode cX8_findNearest 4 = .ok (.putfield 194, 3) := by decide +kernel
theorem dX8_findNearest_7 : decode cX8_findNearest 7 = .ok (.iconst 0, 1) := by decide +kernel
theorem dX8_findNearest_8 : decode cX8_findNearest 8 = .ok (.istore_n 3, 1) := by decide +kernel
theorem dX8_findNearest_9 : decode cX8_findNearest 9 = .ok (.iload_n 3, 1) := by decide +kernel
theorem dX8_findNearest_10 : decode cX8_findNearest 10 = .ok (.bipush 36, 2) := by decide +kernel
theorem dX8_findNearest_12 : decode cX8_findNearest 12 = .ok (.if_icmp .ge 236, 3) := by decide +kernel
theorem dX8_findNearest_15 : decode cX8_findNearest 15 = .ok (.iconst 0, 1) := by decide +kernel
theorem dX8_findNearest_16 : decode cX8_findNearest 16 = .ok (.istore 4, 2) := by decide +kernel
theorem dX8_findNearest_18 : decode cX8_findNearest 18 = .ok (.iload 4, 2) := by decide +kernel
theorem dX8_findNearest_20 : decode cX8_findNearest 20 = .ok (.bipush 36, 2) := by decide +kernel
theorem dX8_findNearest_22 : decode cX8_findNearest 22 = .ok (.if_icmp .ge 220, 3) := by decide +kernel
theorem dX8_findNearest_25 : decode cX8_findNearest 25 = .ok (.aload_n 0, 1) := by decide +kernel
theorem dX8_findNearest_26 : decode cX8_findNearest 26 = .ok (.iconst 0, 1) := by decide +kernel
theorem dX8_findNearest_27 : decode cX8_findNearest 27 = .ok (.iload_n 3, 1) := by decide +kernel
theorem dX8_findNearest_28 : decode cX8_findNearest 28 = .ok (.invokevirtual 198, 3) := by decide +kernel
theorem dX8_findNearest_31 : decode cX8_findNearest 31 = .ok (.ifCond .eq 211, 3) := by decide +kernel
theorem dX8_findNearest_34 : decode cX8_findNearest 34 = .ok (.iconst 0, 1) := by decide +kernel
theorem dX8_findNearest_35 : decode cX8_findNearest 35 = .ok (.istore 5, 2) := by decide +kernel
theorem dX8_findNearest_37 : decode cX8_findNearest 37 = .ok (.iload 5, 2) := by decide +kernel
theorem dX8_findNearest_39 : decode cX8_findNearest 39 = .ok (.bipush 36, 2) := by decide +kernel
theorem dX8_findNearest_41 : decode cX8_findNearest 41 = .ok (.if_icmp .ge 195, 3) := by decide +kernel
theorem dX8_findNearest_44 : decode cX8_findNearest 44 = .ok (.aload_n 0, 1) := by decide +kernel
theorem dX8_findNearest_45 : decode cX8_findNearest 45 = .ok (.iconst 1, 1) := by decide +kernel
theorem dX8_findNearest_46 : decode cX8_findNearest 46 = .ok (.iload 4, 2) := by decide +kernel
theorem dX8_findNearest_48 : decode cX8_findNearest 48 = .ok (.invokevirtual 198, 3) := by decide +kernel
theorem dX8_findNearest_51 : decode cX8_findNearest 51 = .ok (.ifCond .eq 185, 3) := by decide +kernel
theorem dX8_findNearest_54 : decode cX8_findNearest 54 = .ok (.aload_n 0, 1) := by decide +kernel
theorem dX8_findNearest_55 : decode cX8_findNearest 55 = .ok (.iconst 2, 1) := by decide +kernel
theorem dX8_findNearest_56 : decode cX8_findNearest 56 = .ok (.iload 5, 2) := by decide +kernel
theorem dX8_findNearest_58 : decode cX8_findNearest 58 = .ok (.invokevirtual 198, 3) := by decide +kernel
theorem dX8_findNearest_61 : decode cX8_findNearest 61 = .ok (.ifCond .eq 169, 3) := by decide +kernel
theorem dX8_findNearest_64 : decode cX8_findNearest 64 = .ok (.aload_n 0, 1) := by decide +kernel
theorem dX8_findNearest_65 : decode cX8_findNearest 65 = .ok (.getfield 13, 3) := by decide +kernel
theorem dX8_findNearest_68 : decode cX8_findNearest 68 = .ok (.iconst 0, 1) := by decide +kernel
theorem dX8_findNearest_69 : decode cX8_findNearest 69 = .ok (.iaload, 1) := by decide +kernel
theorem dX8_findNearest_70 : decode cX8_findNearest 70 = .ok (.aload_n 0, 1) := by decide +kernel
theorem dX8_findNearest_71 : decode cX8_findNearest 71 = .ok (.iload_n 3, 1) := by decide +kernel
theorem dX8_findNearest_72 : decode cX8_findNearest 72 = .ok (.invokevirtual 74, 3) := by decide +kernel
theorem dX8_findNearest_75 : decode cX8_findNearest 75 = .ok (.imul, 1) := by decide +kernel
theorem dX8_findNearest_76 : decode cX8_findNearest 76 = .ok (.aload_n 0, 1) := by decide +kernel
theorem dX8_findNearest_77 : decode cX8_findNearest 77 = .ok (.getfield 13, 3) := by decide +kernel
theorem dX8_findNearest_80 : decode cX8_findNearest 80 = .ok (.iconst 1, 1) := by decide +kernel
theorem dX8_findNearest_81 : decode cX8_findNearest 81 = .ok (.iaload, 1) := by decide +kernel
theorem dX8_findNearest_82 : decode cX8_findNearest 82 = .ok (.aload_n 0, 1) := by decide +kernel
theorem dX8_findNearest_83 : decode cX8_findNearest 83 = .ok (.iload_n 3, 1) := by decide +kernel
theorem dX8_findNearest_84 : decode cX8_findNearest 84 = .ok (.iload 4, 2) := by decide +kernel
theorem dX8_findNearest_86 : decode cX8_findNearest 86 = .ok (.iadd, 1) := by decide +kernel
theorem dX8_findNearest_87 : decode cX8_findNearest 87 = .ok (.invokevirtual 74, 3) := by decide +kernel
theorem dX8_findNearest_90 : decode cX8_findNearest 90 = .ok (.imul, 1) := by decide +kernel
theorem dX8_findNearest_91 : decode cX8_findNearest 91 = .ok (.iadd, 1) := by decide +kernel
theorem dX8_findNearest_92 : decode cX8_findNearest 92 = .ok (.aload_n 0, 1) := by decide +kernel
theorem dX8_findNearest_93 : decode cX8_findNearest 93 = .ok (.getfield 13, 3) := by decide +kernel
theorem dX8_findNearest_96 : decode cX8_findNearest 96 = .ok (.iconst 2, 1) := by decide +kernel
theorem dX8_findNearest_97 : decode cX8_findNearest 97 = .ok (.iaload, 1) := by decide +kernel
theorem dX8_findNearest_98 : decode cX8_findNearest 98 = .ok (.aload_n 0, 1) := by decide +kernel
theorem dX8_findNearest_99 : decode cX8_findNearest 99 = .ok (.iload_n 3, 1) := by decide +kernel
theorem dX8_findNearest_100 : decode cX8_findNearest 100 = .ok (.iload 4, 2) := by decide +kernel
theorem dX8_findNearest_102 : decode cX8_findNearest 102 = .ok (.iadd, 1) := by decide +kernel
theorem dX8_findNearest_103 : decode cX8_findNearest 103 = .ok (.iload 5, 2) := by decide +kernel
theorem dX8_findNearest_105 : decode cX8_findNearest 105 = .ok (.iadd, 1) := by decide +kernel
theorem dX8_findNearest_106 : decode cX8_findNearest 106 = .ok (.invokevirtual 74, 3) := by decide +kernel
theorem dX8_findNearest_109 : decode cX8_findNearest 109 = .ok (.imul, 1) := by decide +kernel
theorem dX8_findNearest_110 : decode cX8_findNearest 110 = .ok (.iadd, 1) := by decide +kernel
theorem dX8_findNearest_111 : decode cX8_findNearest 111 = .ok (.bipush 65, 2) := by decide +kernel
theorem dX8_findNearest_113 : decode cX8_findNearest 113 = .ok (.iload_n 1, 1) := by decide +kernel
theorem dX8_findNearest_114 : decode cX8_findNearest 114 = .ok (.imul, 1) := by decide +kernel
theorem dX8_findNearest_115 : decode cX8_findNearest 115 = .ok (.isub, 1) := by decide +kernel
theorem dX8_findNearest_116 : decode cX8_findNearest 116 = .ok (.i2l, 1) := by decide +kernel
theorem dX8_findNearest_117 : decode cX8_findNearest 117 = .ok (.lstore 6, 2) := by decide +kernel
theorem dX8_findNearest_119 : decode cX8_findNearest 119 = .ok (.aload_n 0, 1) := by decide +kernel
theorem dX8_findNearest_120 : decode cX8_findNearest 120 = .ok (.getfield 13, 3) := by decide +kernel
theorem dX8_findNearest_123 : decode cX8_findNearest 123 = .ok (.iconst 0, 1) := by decide +kernel
theorem dX8_findNearest_124 : decode cX8_findNearest 124 = .ok (.iaload, 1) := by decide +kernel
theorem dX8_findNearest_125 : decode cX8_findNearest 125 = .ok (.aload_n 0, 1) := by decide +kernel
theorem dX8_findNearest_126 : decode cX8_findNearest 126 = .ok (.iload_n 3, 1) := by decide +kernel
theorem dX8_findNearest_127 : decode cX8_findNearest 127 = .ok (.invokevirtual 78, 3) := by decide +kernel
theorem dX8_findNearest_130 : decode cX8_findNearest 130 = .ok (.imul, 1) := by decide +kernel
theorem dX8_findNearest_131 : decode cX8_findNearest 131 = .ok (.aload_n 0, 1) := by decide +kernel
theorem dX8_findNearest_132 : decode cX8_findNearest 132 = .ok (.getfield 13, 3) := by decide +kernel
theorem dX8_findNearest_135 : decode cX8_findNearest 135 = .ok (.iconst 1, 1) := by decide +kernel
theorem dX8_findNearest_136 : decode cX8_findNearest 136 = .ok (.iaload, 1) := by decide +kernel
theorem dX8_findNearest_137 : decode cX8_findNearest 137 = .ok (.aload_n 0, 1) := by decide +kernel
theorem dX8_findNearest_138 : decode cX8_findNearest 138 = .ok (.iload_n 3, 1) := by decide +kernel
theorem dX8_findNearest_139 : decode cX8_findNearest 139 = .ok (.iload 4, 2) := by decide +kernel
theorem dX8_findNearest_141 : decode cX8_findNearest 141 = .ok (.iadd, 1) := by decide +kernel
theorem dX8_findNearest_142 : decode cX8_findNearest 142 = .ok (.invokevirtual 78, 3) := by decide +kernel
theorem dX8_findNearest_145 : decode cX8_findNearest 145 = .ok (.imul, 1) := by decide +kernel
theorem dX8_findNearest_146 : decode cX8_findNearest 146 = .ok (.iadd, 1) := by decide +kernel
theorem dX8_findNearest_147 : decode cX8_findNearest 147 = .ok (.aload_n 0, 1) := by decide +kernel
theorem dX8_findNearest_148 : decode cX8_findNearest 148 = .ok (.getfield 13, 3) := by decide +kernel
theorem dX8_findNearest_151 : decode cX8_findNearest 151 = .ok (.iconst 2, 1) := by decide +kernel
theorem dX8_findNearest_152 : decode cX8_findNearest 152 = .ok (.iaload, 1) := by decide +kernel
theorem dX8_findNearest_153 : decode cX8_findNearest 153 = .ok (.aload_n 0, 1) := by decide +kernel
theorem dX8_findNearest_154 : decode cX8_findNearest 154 = .ok (.iload_n 3, 1) := by decide +kernel
theorem dX8_findNearest_155 : decode cX8_findNearest 155 = .ok (.iload 4, 2) := by decide +kernel
theorem dX8_findNearest_157 : decode cX8_findNearest 157 = .ok (.iadd, 1) := by decide +kernel
theorem dX8_findNearest_158 : decode cX8_findNearest 158 = .ok (.iload 5, 2) := by decide +kernel
theorem dX8_findNearest_160 : decode cX8_findNearest 160 = .ok (.iadd, 1) := by decide +kernel
theorem dX8_findNearest_161 : decode cX8_findNearest 161 = .ok (.invokevirtual 78, 3) := by decide +kernel
theorem dX8_findNearest_164 : decode cX8_findNearest 164 = .ok (.imul, 1) := by decide +kernel
theorem dX8_findNearest_165 : decode cX8_findNearest 165 = .ok (.iadd, 1) := by decide +kernel
theorem dX8_findNearest_166 : decode cX8_findNearest 166 = .ok (.bipush 65, 2) := by decide +kernel
theorem dX8_findNearest_168 : decode cX8_findNearest 168 = .ok (.iload_n 2, 1) := by decide +kernel
theorem dX8_findNearest_169 : decode cX8_findNearest 169 = .ok (.imul, 1) := by decide +kernel
theorem dX8_findNearest_170 : decode cX8_findNearest 170 = .ok (.isub, 1) := by decide +kernel
theorem dX8_findNearest_171 : decode cX8_findNearest 171 = .ok (.i2l, 1) := by decide +kernel
theorem dX8_findNearest_172 : decode cX8_findNearest 172 = .ok (.lstore 8, 2) := by decide +kernel
theorem dX8_findNearest_174 : decode cX8_findNearest 174 = .ok (.lload 6, 2) := by decide +kernel
theorem dX8_findNearest_176 : decode cX8_findNearest 176 = .ok (.lload 6, 2) := by decide +kernel
theorem dX8_findNearest_178 : decode cX8_findNearest 178 = .ok (.lmul, 1) := by decide +kernel
theorem dX8_findNearest_179 : decode cX8_findNearest 179 = .ok (.lload 8, 2) := by decide +kernel
theorem dX8_findNearest_181 : decode cX8_findNearest 181 = .ok (.lload 8, 2) := by decide +kernel
theorem dX8_findNearest_183 : decode cX8_findNearest 183 = .ok (.lmul, 1) := by decide +kernel
theorem dX8_findNearest_184 : decode cX8_findNearest 184 = .ok (.ladd, 1) := by decide +kernel
theorem dX8_findNearest_185 : decode cX8_findNearest 185 = .ok (.lstore 10, 2) := by decide +kernel
theorem dX8_findNearest_187 : decode cX8_findNearest 187 = .ok (.aload_n 0, 1) := by decide +kernel
theorem dX8_findNearest_188 : decode cX8_findNearest 188 = .ok (.getfield 194, 3) := by decide +kernel
theorem dX8_findNearest_191 : decode cX8_findNearest 191 = .ok (.lconst 0, 1) := by decide +kernel
theorem dX8_findNearest_192 : decode cX8_findNearest 192 = .ok (.lcmp, 1) := by decide +kernel
theorem dX8_findNearest_193 : decode cX8_findNearest 193 = .ok (.ifCond .lt 13, 3) := by decide +kernel
theorem dX8_findNearest_196 : decode cX8_findNearest 196 = .ok (.lload 10, 2) := by decide +kernel
theorem dX8_findNearest_198 : decode cX8_findNearest 198 = .ok (.aload_n 0, 1) := by decide +kernel
theorem dX8_findNearest_199 : decode cX8_findNearest 199 = .ok (.getfield 194, 3) := by decide +kernel
theorem dX8_findNearest_202 : decode cX8_findNearest 202 = .ok (.lcmp, 1) := by decide +kernel
theorem dX8_findNearest_203 : decode cX8_findNearest 203 = .ok (.ifCond .ge 27, 3) := by decide +kernel
theorem dX8_findNearest_206 : decode cX8_findNearest 206 = .ok (.aload_n 0, 1) := by decide +kernel
theorem dX8_findNearest_207 : decode cX8_findNearest 207 = .ok (.lload 10, 2) := by decide +kernel
theorem dX8_findNearest_209 : decode cX8_findNearest 209 = .ok (.putfield 194, 3) := by decide +kernel
theorem dX8_findNearest_212 : decode cX8_findNearest 212 = .ok (.aload_n 0, 1) := by decide +kernel
theorem dX8_findNearest_213 : decode cX8_findNearest 213 = .ok (.sipush 10000, 3) := by decide +kernel
theorem dX8_findNearest_216 : decode cX8_findNearest 216 = .ok (.iload_n 3, 1) := by decide +kernel
theorem dX8_findNearest_217 : decode cX8_findNearest 217 = .ok (.imul, 1) := by decide +kernel
theorem dX8_findNearest_218 : decode cX8_findNearest 218 = .ok (.bipush 100, 2) := by decide +kernel
theorem dX8_findNearest_220 : decode cX8_findNearest 220 = .ok (.iload 4, 2) := by decide +kernel
theorem dX8_findNearest_222 : decode cX8_findNearest 222 = .ok (.imul, 1) := by decide +kernel
theorem dX8_findNearest_223 : decode cX8_findNearest 223 = .ok (.iadd, 1) := by decide +kernel
theorem dX8_findNearest_224 : decode cX8_findNearest 224 = .ok (.iload 5, 2) := by decide +kernel
theorem dX8_findNearest_226 : decode cX8_findNearest 226 = .ok (.iadd, 1) := by decide +kernel
theorem dX8_findNearest_227 : decode cX8_findNearest 227 = .ok (.putfield 201, 3) := by decide +kernel
theorem dX8_findNearest_230 : decode cX8_findNearest 230 = .ok (.iinc 5 1, 3) := by decide +kernel
theorem dX8_findNearest_233 : decode cX8_findNearest 233 = .ok (.goto (-196), 3) := by decide +kernel
theorem dX8_findNearest_236 : decode cX8_findNearest 236 = .ok (.iinc 4 1, 3) := by decide +kernel
theorem dX8_findNearest_239 : decode cX8_findNearest 239 = .ok (.goto (-221), 3) := by decide +kernel
theorem dX8_findNearest_242 : decode cX8_findNearest 242 = .ok (.iinc 3 1, 3) := by decide +kernel
theorem dX8_findNearest_245 : decode cX8_findNearest 245 = .ok (.goto (-236), 3) := by decide +kernel
theorem dX8_findNearest_248 : decode cX8_findNearest 248 = .ok (.return_, 1) := by decide +kernel
theorem dX8_isPlace_0 : decode cX8_isPlace 0 = .ok (.iload_n 0, 1) := by decide +kernel
theorem dX8_isPlace_1 : decode cX8_isPlace 1 = .ok (.i2l, 1) := by decide +kernel
theorem dX8_isPlace_2 : decode cX8_isPlace 2 = .ok (.ldc2_w 204, 3) := by decide +kernel
theorem dX8_isPlace_5 : decode cX8_isPlace 5 = .ok (.ldc2_w 206, 3) := by decide +kernel
theorem dX8_isPlace_8 : decode cX8_isPlace 8 = .ok (.invokestatic 70, 3) := by decide +kernel
theorem dX8_isPlace_11 : decode cX8_isPlace 11 = .ok (.ifCond .eq 21, 3) := by decide +kernel
theorem dX8_isPlace_14 : decode cX8_isPlace 14 = .ok (.iload_n 1, 1) := by decide +kernel
theorem dX8_isPlace_15 : decode cX8_isPlace 15 = .ok (.i2l, 1) := by decide +kernel
theorem dX8_isPlace_16 : decode cX8_isPlace 16 = .ok (.ldc2_w 204, 3) := by decide +kernel
theorem dX8_isPlace_19 : decode cX8_isPlace 19 = .ok (.ldc2_w 206, 3) := by decide +kernel
theorem dX8_isPlace_22 : decode cX8_isPlace 22 = .ok (.invokestatic 70, 3) := by decide +kernel
theorem dX8_isPlace_25 : decode cX8_isPlace 25 = .ok (.ifCond .eq 7, 3) := by decide +kernel
theorem dX8_isPlace_28 : decode cX8_isPlace 28 = .ok (.iconst 1, 1) := by decide +kernel
theorem dX8_isPlace_29 : decode cX8_isPlace 29 = .ok (.goto 4, 3) := by decide +kernel
theorem dX8_isPlace_32 : decode cX8_isPlace 32 = .ok (.iconst 0, 1) := by decide +kernel
theorem dX8_isPlace_33 : decode cX8_isPlace 33 = .ok (.ireturn, 1) := by decide +kernel
theorem dX8_nearest_0 : decode cX8_nearest 0 = .ok (.iload_n 1, 1) := by decide +kernel
theorem dX8_nearest_1 : decode cX8_nearest 1 = .ok (.iload_n 2, 1) := by decide +kernel
theorem dX8_nearest_2 : decode cX8_nearest 2 = .ok (.invokestatic 208, 3) := by decide +kernel
theorem dX8_nearest_5 : decode cX8_nearest 5 = .ok (.ifCond .ne 6, 3) := by decide +kernel
theorem dX8_nearest_8 : decode cX8_nearest 8 = .ok (.bipush (-2), 2) := by decide +kernel
theorem dX8_nearest_10 : decode cX8_nearest 10 = .ok (.ireturn, 1) := by decide +kernel
theorem dX8_nearest_11 : decode cX8_nearest 11 = .ok (.aload_n 0, 1) := by decide +kernel
theorem dX8_nearest_12 : decode cX8_nearest 12 = .ok (.iload_n 1, 1) := by decide +kernel
theorem dX8_nearest_13 : decode cX8_nearest 13 = .ok (.iload_n 2, 1) := by decide +kernel
theorem dX8_nearest_14 : decode cX8_nearest 14 = .ok (.invokevirtual 211, 3) := by decide +kernel
theorem dX8_nearest_17 : decode cX8_nearest 17 = .ok (.aload_n 0, 1) := by decide +kernel
theorem dX8_nearest_18 : decode cX8_nearest 18 = .ok (.getfield 201, 3) := by decide +kernel
theorem dX8_nearest_21 : decode cX8_nearest 21 = .ok (.ireturn, 1) := by decide +kernel
theorem dX8_near_0 : decode cX8_near 0 = .ok (.iload_n 1, 1) := by decide +kernel
theorem dX8_near_1 : decode cX8_near 1 = .ok (.iload_n 2, 1) := by decide +kernel
theorem dX8_near_2 : decode cX8_near 2 = .ok (.invokestatic 208, 3) := by decide +kernel
theorem dX8_near_5 : decode cX8_near 5 = .ok (.ifCond .ne 9, 3) := by decide +kernel
theorem dX8_near_8 : decode cX8_near 8 = .ok (.bipush (-2), 2) := by decide +kernel
theorem dX8_near_10 : decode cX8_near 10 = .ok (.invokestatic 125, 3) := by decide +kernel
theorem dX8_near_13 : decode cX8_near 13 = .ok (.lreturn, 1) := by decide +kernel
theorem dX8_near_14 : decode cX8_near 14 = .ok (.aload_n 0, 1) := by decide +kernel
theorem dX8_near_15 : decode cX8_near 15 = .ok (.iload_n 1, 1) := by decide +kernel
theorem dX8_near_16 : decode cX8_near 16 = .ok (.iload_n 2, 1) := by decide +kernel
theorem dX8_near_17 : decode cX8_near 17 = .ok (.invokevirtual 211, 3) := by decide +kernel
theorem dX8_near_20 : decode cX8_near 20 = .ok (.aload_n 0, 1) := by decide +kernel
theorem dX8_near_21 : decode cX8_near 21 = .ok (.getfield 194, 3) := by decide +kernel
theorem dX8_near_24 : decode cX8_near 24 = .ok (.lreturn, 1) := by decide +kernel
theorem dX8_falseShare_0 : decode cX8_falseShare 0 = .ok (.lconst 1, 1) := by decide +kernel
theorem dX8_falseShare_1 : decode cX8_falseShare 1 = .ok (.iload_n 0, 1) := by decide +kernel
theorem dX8_falseShare_2 : decode cX8_falseShare 2 = .ok (.lshl, 1) := by decide +kernel
theorem dX8_falseShare_3 : decode cX8_falseShare 3 = .ok (.lstore_n 2, 1) := by decide +kernel
theorem dX8_falseShare_4 : decode cX8_falseShare 4 = .ok (.lconst 0, 1) := by decide +kernel
theorem dX8_falseShare_5 : decode cX8_falseShare 5 = .ok (.lstore 4, 2) := by decide +kernel
theorem dX8_falseShare_7 : decode cX8_falseShare 7 = .ok (.lconst 1, 1) := by decide +kernel
theorem dX8_falseShare_8 : decode cX8_falseShare 8 = .ok (.lstore 6, 2) := by decide +kernel
theorem dX8_falseShare_10 : decode cX8_falseShare 10 = .ok (.iconst 0, 1) := by decide +kernel
theorem dX8_falseShare_11 : decode cX8_falseShare 11 = .ok (.istore 8, 2) := by decide +kernel
theorem dX8_falseShare_13 : decode cX8_falseShare 13 = .ok (.iload 8, 2) := by decide +kernel
theorem dX8_falseShare_15 : decode cX8_falseShare 15 = .ok (.iload_n 1, 1) := by decide +kernel
theorem dX8_falseShare_16 : decode cX8_falseShare 16 = .ok (.if_icmp .gt 36, 3) := by decide +kernel
theorem dX8_falseShare_19 : decode cX8_falseShare 19 = .ok (.lload 4, 2) := by decide +kernel
theorem dX8_falseShare_21 : decode cX8_falseShare 21 = .ok (.ldc2_w 81, 3) := by decide +kernel
theorem dX8_falseShare_24 : decode cX8_falseShare 24 = .ok (.lload 6, 2) := by decide +kernel
theorem dX8_falseShare_26 : decode cX8_falseShare 26 = .ok (.lmul, 1) := by decide +kernel
theorem dX8_falseShare_27 : decode cX8_falseShare 27 = .ok (.ladd, 1) := by decide +kernel
theorem dX8_falseShare_28 : decode cX8_falseShare 28 = .ok (.lstore 4, 2) := by decide +kernel
theorem dX8_falseShare_30 : decode cX8_falseShare 30 = .ok (.lload 6, 2) := by decide +kernel
theorem dX8_falseShare_32 : decode cX8_falseShare 32 = .ok (.iload_n 0, 1) := by decide +kernel
theorem dX8_falseShare_33 : decode cX8_falseShare 33 = .ok (.iload 8, 2) := by decide +kernel
theorem dX8_falseShare_35 : decode cX8_falseShare 35 = .ok (.isub, 1) := by decide +kernel
theorem dX8_falseShare_36 : decode cX8_falseShare 36 = .ok (.i2l, 1) := by decide +kernel
theorem dX8_falseShare_37 : decode cX8_falseShare 37 = .ok (.lmul, 1) := by decide +kernel
theorem dX8_falseShare_38 : decode cX8_falseShare 38 = .ok (.iload 8, 2) := by decide +kernel
theorem dX8_falseShare_40 : decode cX8_falseShare 40 = .ok (.iconst 1, 1) := by decide +kernel
theorem dX8_falseShare_41 : decode cX8_falseShare 41 = .ok (.iadd, 1) := by decide +kernel
theorem dX8_falseShare_42 : decode cX8_falseShare 42 = .ok (.i2l, 1) := by decide +kernel
theorem dX8_falseShare_43 : decode cX8_falseShare 43 = .ok (.ldiv, 1) := by decide +kernel
theorem dX8_falseShare_44 : decode cX8_falseShare 44 = .ok (.lstore 6, 2) := by decide +kernel
theorem dX8_falseShare_46 : decode cX8_falseShare 46 = .ok (.iinc 8 1, 3) := by decide +kernel
theorem dX8_falseShare_49 : decode cX8_falseShare 49 = .ok (.goto (-36), 3) := by decide +kernel
theorem dX8_falseShare_52 : decode cX8_falseShare 52 = .ok (.lload 4, 2) := by decide +kernel
theorem dX8_falseShare_54 : decode cX8_falseShare 54 = .ok (.lload_n 2, 1) := by decide +kernel
theorem dX8_falseShare_55 : decode cX8_falseShare 55 = .ok (.lcmp, 1) := by decide +kernel
theorem dX8_falseShare_56 : decode cX8_falseShare 56 = .ok (.ifCond .le 7, 3) := by decide +kernel
theorem dX8_falseShare_59 : decode cX8_falseShare 59 = .ok (.lload_n 2, 1) := by decide +kernel
theorem dX8_falseShare_60 : decode cX8_falseShare 60 = .ok (.goto 5, 3) := by decide +kernel
theorem dX8_falseShare_63 : decode cX8_falseShare 63 = .ok (.lload 4, 2) := by decide +kernel
theorem dX8_falseShare_65 : decode cX8_falseShare 65 = .ok (.lstore 4, 2) := by decide +kernel
theorem dX8_falseShare_67 : decode cX8_falseShare 67 = .ok (.lload 4, 2) := by decide +kernel
theorem dX8_falseShare_69 : decode cX8_falseShare 69 = .ok (.lload_n 2, 1) := by decide +kernel
theorem dX8_falseShare_70 : decode cX8_falseShare 70 = .ok (.ldiv, 1) := by decide +kernel
theorem dX8_falseShare_71 : decode cX8_falseShare 71 = .ok (.lstore 8, 2) := by decide +kernel
theorem dX8_falseShare_73 : decode cX8_falseShare 73 = .ok (.lload 4, 2) := by decide +kernel
theorem dX8_falseShare_75 : decode cX8_falseShare 75 = .ok (.lload_n 2, 1) := by decide +kernel
theorem dX8_falseShare_76 : decode cX8_falseShare 76 = .ok (.lrem, 1) := by decide +kernel
theorem dX8_falseShare_77 : decode cX8_falseShare 77 = .ok (.lstore 10, 2) := by decide +kernel
theorem dX8_falseShare_79 : decode cX8_falseShare 79 = .ok (.iconst 0, 1) := by decide +kernel
theorem dX8_falseShare_80 : decode cX8_falseShare 80 = .ok (.istore 12, 2) := by decide +kernel
theorem dX8_falseShare_82 : decode cX8_falseShare 82 = .ok (.iload 12, 2) := by decide +kernel
theorem dX8_falseShare_84 : decode cX8_falseShare 84 = .ok (.bipush 6, 2) := by decide +kernel
theorem dX8_falseShare_86 : decode cX8_falseShare 86 = .ok (.if_icmp .ge 36, 3) := by decide +kernel
theorem dX8_falseShare_89 : decode cX8_falseShare 89 = .ok (.ldc2_w 215, 3) := by decide +kernel
theorem dX8_falseShare_92 : decode cX8_falseShare 92 = .ok (.lload 10, 2) := by decide +kernel
theorem dX8_falseShare_94 : decode cX8_falseShare 94 = .ok (.lmul, 1) := by decide +kernel
theorem dX8_falseShare_95 : decode cX8_falseShare 95 = .ok (.lstore 10, 2) := by decide +kernel
theorem dX8_falseShare_97 : decode cX8_falseShare 97 = .ok (.ldc2_w 215, 3) := by decide +kernel
theorem dX8_falseShare_100 : decode cX8_falseShare 100 = .ok (.lload 8, 2) := by decide +kernel
theorem dX8_falseShare_102 : decode cX8_falseShare 102 = .ok (.lmul, 1) := by decide +kernel
theorem dX8_falseShare_103 : decode cX8_falseShare 103 = .ok (.lload 10, 2) := by decide +kernel
theorem dX8_falseShare_105 : decode cX8_falseShare 105 = .ok (.lload_n 2, 1) := by decide +kernel
theorem dX8_falseShare_106 : decode cX8_falseShare 106 = .ok (.ldiv, 1) := by decide +kernel
theorem dX8_falseShare_107 : decode cX8_falseShare 107 = .ok (.ladd, 1) := by decide +kernel
theorem dX8_falseShare_108 : decode cX8_falseShare 108 = .ok (.lstore 8, 2) := by decide +kernel
theorem dX8_falseShare_110 : decode cX8_falseShare 110 = .ok (.lload 10, 2) := by decide +kernel
theorem dX8_falseShare_112 : decode cX8_falseShare 112 = .ok (.lload_n 2, 1) := by decide +kernel
theorem dX8_falseShare_113 : decode cX8_falseShare 113 = .ok (.lrem, 1) := by decide +kernel
theorem dX8_falseShare_114 : decode cX8_falseShare 114 = .ok (.lstore 10, 2) := by decide +kernel
theorem dX8_falseShare_116 : decode cX8_falseShare 116 = .ok (.iinc 12 1, 3) := by decide +kernel
theorem dX8_falseShare_119 : decode cX8_falseShare 119 = .ok (.goto (-37), 3) := by decide +kernel
theorem dX8_falseShare_122 : decode cX8_falseShare 122 = .ok (.lload 8, 2) := by decide +kernel
theorem dX8_falseShare_124 : decode cX8_falseShare 124 = .ok (.l2i, 1) := by decide +kernel
theorem dX8_falseShare_125 : decode cX8_falseShare 125 = .ok (.ireturn, 1) := by decide +kernel
theorem dX8_drift_0 : decode cX8_drift 0 = .ok (.iload_n 1, 1) := by decide +kernel
theorem dX8_drift_1 : decode cX8_drift 1 = .ok (.invokestatic 217, 3) := by decide +kernel
theorem dX8_drift_4 : decode cX8_drift 4 = .ok (.ifCond .eq 25, 3) := by decide +kernel
theorem dX8_drift_7 : decode cX8_drift 7 = .ok (.iload_n 2, 1) := by decide +kernel
theorem dX8_drift_8 : decode cX8_drift 8 = .ok (.ifCond .lt 21, 3) := by decide +kernel
theorem dX8_drift_11 : decode cX8_drift 11 = .ok (.iload_n 2, 1) := by decide +kernel
theorem dX8_drift_12 : decode cX8_drift 12 = .ok (.iload_n 3, 1) := by decide +kernel
theorem dX8_drift_13 : decode cX8_drift 13 = .ok (.if_icmp .gt 16, 3) := by decide +kernel
theorem dX8_drift_16 : decode cX8_drift 16 = .ok (.iload 4, 2) := by decide +kernel
theorem dX8_drift_18 : decode cX8_drift 18 = .ok (.i2l, 1) := by decide +kernel
theorem dX8_drift_19 : decode cX8_drift 19 = .ok (.lconst 0, 1) := by decide +kernel
theorem dX8_drift_20 : decode cX8_drift 20 = .ok (.ldc2_w 81, 3) := by decide +kernel
theorem dX8_drift_23 : decode cX8_drift 23 = .ok (.invokestatic 70, 3) := by decide +kernel
theorem dX8_drift_26 : decode cX8_drift 26 = .ok (.ifCond .ne 6, 3) := by decide +kernel
theorem dX8_drift_29 : decode cX8_drift 29 = .ok (.bipush (-2), 2) := by decide +kernel
theorem dX8_drift_31 : decode cX8_drift 31 = .ok (.ireturn, 1) := by decide +kernel
theorem dX8_drift_32 : decode cX8_drift 32 = .ok (.aload_n 0, 1) := by decide +kernel
theorem dX8_drift_33 : decode cX8_drift 33 = .ok (.getfield 54, 3) := by decide +kernel
theorem dX8_drift_36 : decode cX8_drift 36 = .ok (.iload_n 1, 1) := by decide +kernel
theorem dX8_drift_37 : decode cX8_drift 37 = .ok (.iaload, 1) := by decide +kernel
theorem dX8_drift_38 : decode cX8_drift 38 = .ok (.ifCond .ge 9, 3) := by decide +kernel
theorem dX8_drift_41 : decode cX8_drift 41 = .ok (.aload_n 0, 1) := by decide +kernel
theorem dX8_drift_42 : decode cX8_drift 42 = .ok (.iconst 1, 1) := by decide +kernel
theorem dX8_drift_43 : decode cX8_drift 43 = .ok (.invokevirtual 220, 3) := by decide +kernel
theorem dX8_drift_46 : decode cX8_drift 46 = .ok (.ireturn, 1) := by decide +kernel
theorem dX8_drift_47 : decode cX8_drift 47 = .ok (.iload_n 3, 1) := by decide +kernel
theorem dX8_drift_48 : decode cX8_drift 48 = .ok (.aload_n 0, 1) := by decide +kernel
theorem dX8_drift_49 : decode cX8_drift 49 = .ok (.getfield 57, 3) := by decide +kernel
theorem dX8_drift_52 : decode cX8_drift 52 = .ok (.iload_n 1, 1) := by decide +kernel
theorem dX8_drift_53 : decode cX8_drift 53 = .ok (.iaload, 1) := by decide +kernel
theorem dX8_drift_54 : decode cX8_drift 54 = .ok (.if_icmp .lt 9, 3) := by decide +kernel
theorem dX8_drift_57 : decode cX8_drift 57 = .ok (.aload_n 0, 1) := by decide +kernel
theorem dX8_drift_58 : decode cX8_drift 58 = .ok (.iconst 2, 1) := by decide +kernel
theorem dX8_drift_59 : decode cX8_drift 59 = .ok (.invokevirtual 220, 3) := by decide +kernel
theorem dX8_drift_62 : decode cX8_drift 62 = .ok (.ireturn, 1) := by decide +kernel
theorem dX8_drift_63 : decode cX8_drift 63 = .ok (.iconst 0, 1) := by decide +kernel
theorem dX8_drift_64 : decode cX8_drift 64 = .ok (.istore 5, 2) := by decide +kernel
theorem dX8_drift_66 : decode cX8_drift 66 = .ok (.iconst 0, 1) := by decide +kernel
theorem dX8_drift_67 : decode cX8_drift 67 = .ok (.istore 6, 2) := by decide +kernel
theorem dX8_drift_69 : decode cX8_drift 69 = .ok (.iload_n 2, 1) := by decide +kernel
theorem dX8_drift_70 : decode cX8_drift 70 = .ok (.istore 7, 2) := by decide +kernel
theorem dX8_drift_72 : decode cX8_drift 72 = .ok (.iload 7, 2) := by decide +kernel
theorem dX8_drift_74 : decode cX8_drift 74 = .ok (.iload_n 3, 1) := by decide +kernel
theorem dX8_drift_75 : decode cX8_drift 75 = .ok (.if_icmp .gt 66, 3) := by decide +kernel
theorem dX8_drift_78 : decode cX8_drift 78 = .ok (.iload 5, 2) := by decide +kernel
theorem dX8_drift_80 : decode cX8_drift 80 = .ok (.bipush 50, 2) := by decide +kernel
theorem dX8_drift_82 : decode cX8_drift 82 = .ok (.if_icmp .ge 59, 3) := by decide +kernel
theorem dX8_drift_85 : decode cX8_drift 85 = .ok (.iload 5, 2) := by decide +kernel
theorem dX8_drift_87 : decode cX8_drift 87 = .ok (.aload_n 0, 1) := by decide +kernel
theorem dX8_drift_88 : decode cX8_drift 88 = .ok (.getfield 60, 3) := by decide +kernel
theorem dX8_drift_91 : decode cX8_drift 91 = .ok (.bipush 100, 2) := by decide +kernel
theorem dX8_drift_93 : decode cX8_drift 93 = .ok (.iload_n 1, 1) := by decide +kernel
theorem dX8_drift_94 : decode cX8_drift 94 = .ok (.imul, 1) := by decide +kernel
theorem dX8_drift_95 : decode cX8_drift 95 = .ok (.iload 7, 2) := by decide +kernel
theorem dX8_drift_97 : decode cX8_drift 97 = .ok (.iadd, 1) := by decide +kernel
theorem dX8_drift_98 : decode cX8_drift 98 = .ok (.iaload, 1) := by decide +kernel
theorem dX8_drift_99 : decode cX8_drift 99 = .ok (.ifCond .eq 7, 3) := by decide +kernel
theorem dX8_drift_102 : decode cX8_drift 102 = .ok (.iconst 1, 1) := by decide +kernel
theorem dX8_drift_103 : decode cX8_drift 103 = .ok (.goto 4, 3) := by decide +kernel
theorem dX8_drift_106 : decode cX8_drift 106 = .ok (.iconst 0, 1) := by decide +kernel
theorem dX8_drift_107 : decode cX8_drift 107 = .ok (.iadd, 1) := by decide +kernel
theorem dX8_drift_108 : decode cX8_drift 108 = .ok (.istore 5, 2) := by decide +kernel
theorem dX8_drift_110 : decode cX8_drift 110 = .ok (.iload 6, 2) := by decide +kernel
theorem dX8_drift_112 : decode cX8_drift 112 = .ok (.aload_n 0, 1) := by decide +kernel
theorem dX8_drift_113 : decode cX8_drift 113 = .ok (.getfield 60, 3) := by decide +kernel
theorem dX8_drift_116 : decode cX8_drift 116 = .ok (.bipush 100, 2) := by decide +kernel
theorem dX8_drift_118 : decode cX8_drift 118 = .ok (.iload_n 1, 1) := by decide +kernel
theorem dX8_drift_119 : decode cX8_drift 119 = .ok (.imul, 1) := by decide +kernel
theorem dX8_drift_120 : decode cX8_drift 120 = .ok (.iload 7, 2) := by decide +kernel
theorem dX8_drift_122 : decode cX8_drift 122 = .ok (.iadd, 1) := by decide +kernel
theorem dX8_drift_123 : decode cX8_drift 123 = .ok (.iaload, 1) := by decide +kernel
theorem dX8_drift_124 : decode cX8_drift 124 = .ok (.ifCond .le 7, 3) := by decide +kernel
theorem dX8_drift_127 : decode cX8_drift 127 = .ok (.iconst 1, 1) := by decide +kernel
theorem dX8_drift_128 : decode cX8_drift 128 = .ok (.goto 4, 3) := by decide +kernel
theorem dX8_drift_131 : decode cX8_drift 131 = .ok (.iconst 0, 1) := by decide +kernel
theorem dX8_drift_132 : decode cX8_drift 132 = .ok (.iadd, 1) := by decide +kernel
theorem dX8_drift_133 : decode cX8_drift 133 = .ok (.istore 6, 2) := by decide +kernel
theorem dX8_drift_135 : decode cX8_drift 135 = .ok (.iinc 7 1, 3) := by decide +kernel
theorem dX8_drift_138 : decode cX8_drift 138 = .ok (.goto (-66), 3) := by decide +kernel
theorem dX8_drift_141 : decode cX8_drift 141 = .ok (.iload 4, 2) := by decide +kernel
theorem dX8_drift_143 : decode cX8_drift 143 = .ok (.ifCond .ne 8, 3) := by decide +kernel
theorem dX8_drift_146 : decode cX8_drift 146 = .ok (.iload 5, 2) := by decide +kernel
theorem dX8_drift_148 : decode cX8_drift 148 = .ok (.goto 39, 3) := by decide +kernel
theorem dX8_drift_151 : decode cX8_drift 151 = .ok (.iload 4, 2) := by decide +kernel
theorem dX8_drift_153 : decode cX8_drift 153 = .ok (.iconst 1, 1) := by decide +kernel
theorem dX8_drift_154 : decode cX8_drift 154 = .ok (.if_icmp .ne 8, 3) := by decide +kernel
end
section
theorem dX8_drift_157 : decode cX8_drift 157 = .ok (.iload 6, 2) := by decide +kernel
theorem dX8_drift_159 : decode cX8_drift 159 = .ok (.goto 28, 3) := by decide +kernel
theorem dX8_drift_162 : decode cX8_drift 162 = .ok (.iload 5, 2) := by decide +kernel
theorem dX8_drift_164 : decode cX8_drift 164 = .ok (.iload 6, 2) := by decide +kernel
theorem dX8_drift_166 : decode cX8_drift 166 = .ok (.iload 5, 2) := by decide +kernel
theorem dX8_drift_168 : decode cX8_drift 168 = .ok (.iload 6, 2) := by decide +kernel
theorem dX8_drift_170 : decode cX8_drift 170 = .ok (.isub, 1) := by decide +kernel
theorem dX8_drift_171 : decode cX8_drift 171 = .ok (.if_icmp .ge 8, 3) := by decide +kernel
theorem dX8_drift_174 : decode cX8_drift 174 = .ok (.iload 6, 2) := by decide +kernel
theorem dX8_drift_176 : decode cX8_drift 176 = .ok (.goto 8, 3) := by decide +kernel
theorem dX8_drift_179 : decode cX8_drift 179 = .ok (.iload 5, 2) := by decide +kernel
theorem dX8_drift_181 : decode cX8_drift 181 = .ok (.iload 6, 2) := by decide +kernel
theorem dX8_drift_183 : decode cX8_drift 183 = .ok (.isub, 1) := by decide +kernel
theorem dX8_drift_184 : decode cX8_drift 184 = .ok (.invokestatic 223, 3) := by decide +kernel
theorem dX8_drift_187 : decode cX8_drift 187 = .ok (.ireturn, 1) := by decide +kernel
theorem dX8_met_0 : decode cX8_met 0 = .ok (.aload_n 0, 1) := by decide +kernel
theorem dX8_met_1 : decode cX8_met 1 = .ok (.iload_n 1, 1) := by decide +kernel
theorem dX8_met_2 : decode cX8_met 2 = .ok (.putfield 226, 3) := by decide +kernel
theorem dX8_met_5 : decode cX8_met 5 = .ok (.bipush (-10), 2) := by decide +kernel
theorem dX8_met_7 : decode cX8_met 7 = .ok (.iload_n 1, 1) := by decide +kernel
theorem dX8_met_8 : decode cX8_met 8 = .ok (.isub, 1) := by decide +kernel
theorem dX8_met_9 : decode cX8_met 9 = .ok (.ireturn, 1) := by decide +kernel
theorem dX8_isSheet_0 : decode cX8_isSheet 0 = .ok (.iload_n 0, 1) := by decide +kernel
theorem dX8_isSheet_1 : decode cX8_isSheet 1 = .ok (.i2l, 1) := by decide +kernel
theorem dX8_isSheet_2 : decode cX8_isSheet 2 = .ok (.lconst 0, 1) := by decide +kernel
theorem dX8_isSheet_3 : decode cX8_isSheet 3 = .ok (.ldc2_w 229, 3) := by decide +kernel
theorem dX8_isSheet_6 : decode cX8_isSheet 6 = .ok (.invokestatic 70, 3) := by decide +kernel
theorem dX8_isSheet_9 : decode cX8_isSheet 9 = .ok (.ireturn, 1) := by decide +kernel
theorem dX8_sheet_0 : decode cX8_sheet 0 = .ok (.iload_n 1, 1) := by decide +kernel
theorem dX8_sheet_1 : decode cX8_sheet 1 = .ok (.invokestatic 217, 3) := by decide +kernel
theorem dX8_sheet_4 : decode cX8_sheet 4 = .ok (.ifCond .eq 21, 3) := by decide +kernel
theorem dX8_sheet_7 : decode cX8_sheet 7 = .ok (.iload_n 2, 1) := by decide +kernel
theorem dX8_sheet_8 : decode cX8_sheet 8 = .ok (.i2l, 1) := by decide +kernel
theorem dX8_sheet_9 : decode cX8_sheet 9 = .ok (.lconst 0, 1) := by decide +kernel
theorem dX8_sheet_10 : decode cX8_sheet 10 = .ok (.ldc2_w 81, 3) := by decide +kernel
theorem dX8_sheet_13 : decode cX8_sheet 13 = .ok (.invokestatic 70, 3) := by decide +kernel
theorem dX8_sheet_16 : decode cX8_sheet 16 = .ok (.ifCond .eq 9, 3) := by decide +kernel
theorem dX8_sheet_19 : decode cX8_sheet 19 = .ok (.iload_n 3, 1) := by decide +kernel
theorem dX8_sheet_20 : decode cX8_sheet 20 = .ok (.bipush 100, 2) := by decide +kernel
theorem dX8_sheet_22 : decode cX8_sheet 22 = .ok (.if_icmp .le 6, 3) := by decide +kernel
theorem dX8_sheet_25 : decode cX8_sheet 25 = .ok (.bipush (-2), 2) := by decide +kernel
theorem dX8_sheet_27 : decode cX8_sheet 27 = .ok (.ireturn, 1) := by decide +kernel
theorem dX8_sheet_28 : decode cX8_sheet 28 = .ok (.iload_n 3, 1) := by decide +kernel
theorem dX8_sheet_29 : decode cX8_sheet 29 = .ok (.ifCond .ge 9, 3) := by decide +kernel
theorem dX8_sheet_32 : decode cX8_sheet 32 = .ok (.aload_n 0, 1) := by decide +kernel
theorem dX8_sheet_33 : decode cX8_sheet 33 = .ok (.iconst 5, 1) := by decide +kernel
theorem dX8_sheet_34 : decode cX8_sheet 34 = .ok (.invokevirtual 220, 3) := by decide +kernel
theorem dX8_sheet_37 : decode cX8_sheet 37 = .ok (.ireturn, 1) := by decide +kernel
theorem dX8_sheet_38 : decode cX8_sheet 38 = .ok (.aload_n 0, 1) := by decide +kernel
theorem dX8_sheet_39 : decode cX8_sheet 39 = .ok (.getfield 54, 3) := by decide +kernel
theorem dX8_sheet_42 : decode cX8_sheet 42 = .ok (.iload_n 1, 1) := by decide +kernel
theorem dX8_sheet_43 : decode cX8_sheet 43 = .ok (.iload_n 2, 1) := by decide +kernel
theorem dX8_sheet_44 : decode cX8_sheet 44 = .ok (.iastore, 1) := by decide +kernel
theorem dX8_sheet_45 : decode cX8_sheet 45 = .ok (.aload_n 0, 1) := by decide +kernel
theorem dX8_sheet_46 : decode cX8_sheet 46 = .ok (.getfield 57, 3) := by decide +kernel
theorem dX8_sheet_49 : decode cX8_sheet 49 = .ok (.iload_n 1, 1) := by decide +kernel
theorem dX8_sheet_50 : decode cX8_sheet 50 = .ok (.iload_n 3, 1) := by decide +kernel
theorem dX8_sheet_51 : decode cX8_sheet 51 = .ok (.iastore, 1) := by decide +kernel
theorem dX8_sheet_52 : decode cX8_sheet 52 = .ok (.iconst 0, 1) := by decide +kernel
theorem dX8_sheet_53 : decode cX8_sheet 53 = .ok (.istore 4, 2) := by decide +kernel
theorem dX8_sheet_55 : decode cX8_sheet 55 = .ok (.iload 4, 2) := by decide +kernel
theorem dX8_sheet_57 : decode cX8_sheet 57 = .ok (.iload_n 3, 1) := by decide +kernel
theorem dX8_sheet_58 : decode cX8_sheet 58 = .ok (.if_icmp .ge 22, 3) := by decide +kernel
theorem dX8_sheet_61 : decode cX8_sheet 61 = .ok (.aload_n 0, 1) := by decide +kernel
theorem dX8_sheet_62 : decode cX8_sheet 62 = .ok (.getfield 60, 3) := by decide +kernel
theorem dX8_sheet_65 : decode cX8_sheet 65 = .ok (.bipush 100, 2) := by decide +kernel
theorem dX8_sheet_67 : decode cX8_sheet 67 = .ok (.iload_n 1, 1) := by decide +kernel
theorem dX8_sheet_68 : decode cX8_sheet 68 = .ok (.imul, 1) := by decide +kernel
theorem dX8_sheet_69 : decode cX8_sheet 69 = .ok (.iload 4, 2) := by decide +kernel
theorem dX8_sheet_71 : decode cX8_sheet 71 = .ok (.iadd, 1) := by decide +kernel
theorem dX8_sheet_72 : decode cX8_sheet 72 = .ok (.iconst 0, 1) := by decide +kernel
theorem dX8_sheet_73 : decode cX8_sheet 73 = .ok (.iastore, 1) := by decide +kernel
theorem dX8_sheet_74 : decode cX8_sheet 74 = .ok (.iinc 4 1, 3) := by decide +kernel
theorem dX8_sheet_77 : decode cX8_sheet 77 = .ok (.goto (-22), 3) := by decide +kernel
theorem dX8_sheet_80 : decode cX8_sheet 80 = .ok (.iload_n 3, 1) := by decide +kernel
theorem dX8_sheet_81 : decode cX8_sheet 81 = .ok (.ireturn, 1) := by decide +kernel
theorem dX8_lose_0 : decode cX8_lose 0 = .ok (.iload_n 1, 1) := by decide +kernel
theorem dX8_lose_1 : decode cX8_lose 1 = .ok (.invokestatic 217, 3) := by decide +kernel
theorem dX8_lose_4 : decode cX8_lose 4 = .ok (.ifCond .ne 6, 3) := by decide +kernel
theorem dX8_lose_7 : decode cX8_lose 7 = .ok (.bipush (-2), 2) := by decide +kernel
theorem dX8_lose_9 : decode cX8_lose 9 = .ok (.ireturn, 1) := by decide +kernel
theorem dX8_lose_10 : decode cX8_lose 10 = .ok (.aload_n 0, 1) := by decide +kernel
theorem dX8_lose_11 : decode cX8_lose 11 = .ok (.getfield 54, 3) := by decide +kernel
theorem dX8_lose_14 : decode cX8_lose 14 = .ok (.iload_n 1, 1) := by decide +kernel
theorem dX8_lose_15 : decode cX8_lose 15 = .ok (.iaload, 1) := by decide +kernel
theorem dX8_lose_16 : decode cX8_lose 16 = .ok (.ifCond .ge 9, 3) := by decide +kernel
theorem dX8_lose_19 : decode cX8_lose 19 = .ok (.aload_n 0, 1) := by decide +kernel
theorem dX8_lose_20 : decode cX8_lose 20 = .ok (.iconst 1, 1) := by decide +kernel
theorem dX8_lose_21 : decode cX8_lose 21 = .ok (.invokevirtual 220, 3) := by decide +kernel
theorem dX8_lose_24 : decode cX8_lose 24 = .ok (.ireturn, 1) := by decide +kernel
theorem dX8_lose_25 : decode cX8_lose 25 = .ok (.aload_n 0, 1) := by decide +kernel
theorem dX8_lose_26 : decode cX8_lose 26 = .ok (.getfield 54, 3) := by decide +kernel
theorem dX8_lose_29 : decode cX8_lose 29 = .ok (.iload_n 1, 1) := by decide +kernel
theorem dX8_lose_30 : decode cX8_lose 30 = .ok (.iconst (-1), 1) := by decide +kernel
theorem dX8_lose_31 : decode cX8_lose 31 = .ok (.iastore, 1) := by decide +kernel
theorem dX8_lose_32 : decode cX8_lose 32 = .ok (.aload_n 0, 1) := by decide +kernel
theorem dX8_lose_33 : decode cX8_lose 33 = .ok (.getfield 57, 3) := by decide +kernel
theorem dX8_lose_36 : decode cX8_lose 36 = .ok (.iload_n 1, 1) := by decide +kernel
theorem dX8_lose_37 : decode cX8_lose 37 = .ok (.iaload, 1) := by decide +kernel
theorem dX8_lose_38 : decode cX8_lose 38 = .ok (.ireturn, 1) := by decide +kernel
theorem dX8_lacks_0 : decode cX8_lacks 0 = .ok (.aload_n 0, 1) := by decide +kernel
theorem dX8_lacks_1 : decode cX8_lacks 1 = .ok (.getfield 54, 3) := by decide +kernel
theorem dX8_lacks_4 : decode cX8_lacks 4 = .ok (.iload_n 1, 1) := by decide +kernel
theorem dX8_lacks_5 : decode cX8_lacks 5 = .ok (.iaload, 1) := by decide +kernel
theorem dX8_lacks_6 : decode cX8_lacks 6 = .ok (.ifCond .ge 9, 3) := by decide +kernel
theorem dX8_lacks_9 : decode cX8_lacks 9 = .ok (.aload_n 0, 1) := by decide +kernel
theorem dX8_lacks_10 : decode cX8_lacks 10 = .ok (.iconst 1, 1) := by decide +kernel
theorem dX8_lacks_11 : decode cX8_lacks 11 = .ok (.invokevirtual 220, 3) := by decide +kernel
theorem dX8_lacks_14 : decode cX8_lacks 14 = .ok (.ireturn, 1) := by decide +kernel
theorem dX8_lacks_15 : decode cX8_lacks 15 = .ok (.aload_n 0, 1) := by decide +kernel
theorem dX8_lacks_16 : decode cX8_lacks 16 = .ok (.getfield 54, 3) := by decide +kernel
theorem dX8_lacks_19 : decode cX8_lacks 19 = .ok (.iload_n 1, 1) := by decide +kernel
theorem dX8_lacks_20 : decode cX8_lacks 20 = .ok (.iaload, 1) := by decide +kernel
theorem dX8_lacks_21 : decode cX8_lacks 21 = .ok (.iload_n 2, 1) := by decide +kernel
theorem dX8_lacks_22 : decode cX8_lacks 22 = .ok (.if_icmp .eq 9, 3) := by decide +kernel
theorem dX8_lacks_25 : decode cX8_lacks 25 = .ok (.aload_n 0, 1) := by decide +kernel
theorem dX8_lacks_26 : decode cX8_lacks 26 = .ok (.iconst 3, 1) := by decide +kernel
theorem dX8_lacks_27 : decode cX8_lacks 27 = .ok (.invokevirtual 220, 3) := by decide +kernel
theorem dX8_lacks_30 : decode cX8_lacks 30 = .ok (.ireturn, 1) := by decide +kernel
theorem dX8_lacks_31 : decode cX8_lacks 31 = .ok (.iload_n 3, 1) := by decide +kernel
theorem dX8_lacks_32 : decode cX8_lacks 32 = .ok (.i2l, 1) := by decide +kernel
theorem dX8_lacks_33 : decode cX8_lacks 33 = .ok (.lconst 0, 1) := by decide +kernel
theorem dX8_lacks_34 : decode cX8_lacks 34 = .ok (.aload_n 0, 1) := by decide +kernel
theorem dX8_lacks_35 : decode cX8_lacks 35 = .ok (.getfield 57, 3) := by decide +kernel
theorem dX8_lacks_38 : decode cX8_lacks 38 = .ok (.iload_n 1, 1) := by decide +kernel
theorem dX8_lacks_39 : decode cX8_lacks 39 = .ok (.iaload, 1) := by decide +kernel
theorem dX8_lacks_40 : decode cX8_lacks 40 = .ok (.iconst 1, 1) := by decide +kernel
theorem dX8_lacks_41 : decode cX8_lacks 41 = .ok (.isub, 1) := by decide +kernel
theorem dX8_lacks_42 : decode cX8_lacks 42 = .ok (.i2l, 1) := by decide +kernel
theorem dX8_lacks_43 : decode cX8_lacks 43 = .ok (.invokestatic 70, 3) := by decide +kernel
theorem dX8_lacks_46 : decode cX8_lacks 46 = .ok (.ifCond .eq 7, 3) := by decide +kernel
theorem dX8_lacks_49 : decode cX8_lacks 49 = .ok (.iconst 0, 1) := by decide +kernel
theorem dX8_lacks_50 : decode cX8_lacks 50 = .ok (.goto 8, 3) := by decide +kernel
theorem dX8_lacks_53 : decode cX8_lacks 53 = .ok (.aload_n 0, 1) := by decide +kernel
theorem dX8_lacks_54 : decode cX8_lacks 54 = .ok (.iconst 2, 1) := by decide +kernel
theorem dX8_lacks_55 : decode cX8_lacks 55 = .ok (.invokevirtual 220, 3) := by decide +kernel
theorem dX8_lacks_58 : decode cX8_lacks 58 = .ok (.ireturn, 1) := by decide +kernel
theorem dX8_put_0 : decode cX8_put 0 = .ok (.iload_n 1, 1) := by decide +kernel
theorem dX8_put_1 : decode cX8_put 1 = .ok (.invokestatic 217, 3) := by decide +kernel
theorem dX8_put_4 : decode cX8_put 4 = .ok (.ifCond .eq 15, 3) := by decide +kernel
theorem dX8_put_7 : decode cX8_put 7 = .ok (.iload_n 2, 1) := by decide +kernel
theorem dX8_put_8 : decode cX8_put 8 = .ok (.i2l, 1) := by decide +kernel
theorem dX8_put_9 : decode cX8_put 9 = .ok (.lconst 0, 1) := by decide +kernel
theorem dX8_put_10 : decode cX8_put 10 = .ok (.ldc2_w 81, 3) := by decide +kernel
theorem dX8_put_13 : decode cX8_put 13 = .ok (.invokestatic 70, 3) := by decide +kernel
theorem dX8_put_16 : decode cX8_put 16 = .ok (.ifCond .ne 6, 3) := by decide +kernel
theorem dX8_put_19 : decode cX8_put 19 = .ok (.bipush (-2), 2) := by decide +kernel
theorem dX8_put_21 : decode cX8_put 21 = .ok (.ireturn, 1) := by decide +kernel
theorem dX8_put_22 : decode cX8_put 22 = .ok (.aload_n 0, 1) := by decide +kernel
theorem dX8_put_23 : decode cX8_put 23 = .ok (.iload_n 1, 1) := by decide +kernel
theorem dX8_put_24 : decode cX8_put 24 = .ok (.iload_n 2, 1) := by decide +kernel
theorem dX8_put_25 : decode cX8_put 25 = .ok (.iload_n 3, 1) := by decide +kernel
theorem dX8_put_26 : decode cX8_put 26 = .ok (.invokevirtual 231, 3) := by decide +kernel
theorem dX8_put_29 : decode cX8_put 29 = .ok (.istore 5, 2) := by decide +kernel
theorem dX8_put_31 : decode cX8_put 31 = .ok (.iload 5, 2) := by decide +kernel
theorem dX8_put_33 : decode cX8_put 33 = .ok (.ifCond .eq 6, 3) := by decide +kernel
theorem dX8_put_36 : decode cX8_put 36 = .ok (.iload 5, 2) := by decide +kernel
theorem dX8_put_38 : decode cX8_put 38 = .ok (.ireturn, 1) := by decide +kernel
theorem dX8_put_39 : decode cX8_put 39 = .ok (.aload_n 0, 1) := by decide +kernel
theorem dX8_put_40 : decode cX8_put 40 = .ok (.getfield 60, 3) := by decide +kernel
theorem dX8_put_43 : decode cX8_put 43 = .ok (.bipush 100, 2) := by decide +kernel
theorem dX8_put_45 : decode cX8_put 45 = .ok (.iload_n 1, 1) := by decide +kernel
theorem dX8_put_46 : decode cX8_put 46 = .ok (.imul, 1) := by decide +kernel
theorem dX8_put_47 : decode cX8_put 47 = .ok (.iload_n 3, 1) := by decide +kernel
theorem dX8_put_48 : decode cX8_put 48 = .ok (.iadd, 1) := by decide +kernel
theorem dX8_put_49 : decode cX8_put 49 = .ok (.iload_n 2, 1) := by decide +kernel
theorem dX8_put_50 : decode cX8_put 50 = .ok (.ifCond .ne 9, 3) := by decide +kernel
theorem dX8_put_53 : decode cX8_put 53 = .ok (.iload 4, 2) := by decide +kernel
theorem dX8_put_55 : decode cX8_put 55 = .ok (.i2b, 1) := by decide +kernel
theorem dX8_put_56 : decode cX8_put 56 = .ok (.goto 16, 3) := by decide +kernel
theorem dX8_put_59 : decode cX8_put 59 = .ok (.iload_n 2, 1) := by decide +kernel
theorem dX8_put_60 : decode cX8_put 60 = .ok (.iconst 1, 1) := by decide +kernel
theorem dX8_put_61 : decode cX8_put 61 = .ok (.if_icmp .ne 9, 3) := by decide +kernel
theorem dX8_put_64 : decode cX8_put 64 = .ok (.iload 4, 2) := by decide +kernel
theorem dX8_put_66 : decode cX8_put 66 = .ok (.i2s, 1) := by decide +kernel
theorem dX8_put_67 : decode cX8_put 67 = .ok (.goto 5, 3) := by decide +kernel
theorem dX8_put_70 : decode cX8_put 70 = .ok (.iload 4, 2) := by decide +kernel
theorem dX8_put_72 : decode cX8_put 72 = .ok (.iastore, 1) := by decide +kernel
theorem dX8_put_73 : decode cX8_put 73 = .ok (.iconst 1, 1) := by decide +kernel
theorem dX8_put_74 : decode cX8_put 74 = .ok (.ireturn, 1) := by decide +kernel
theorem dX8_get_0 : decode cX8_get 0 = .ok (.iload_n 1, 1) := by decide +kernel
theorem dX8_get_1 : decode cX8_get 1 = .ok (.invokestatic 217, 3) := by decide +kernel
theorem dX8_get_4 : decode cX8_get 4 = .ok (.ifCond .eq 25, 3) := by decide +kernel
theorem dX8_get_7 : decode cX8_get 7 = .ok (.iload_n 2, 1) := by decide +kernel
theorem dX8_get_8 : decode cX8_get 8 = .ok (.i2l, 1) := by decide +kernel
theorem dX8_get_9 : decode cX8_get 9 = .ok (.lconst 0, 1) := by decide +kernel
theorem dX8_get_10 : decode cX8_get 10 = .ok (.ldc2_w 81, 3) := by decide +kernel
theorem dX8_get_13 : decode cX8_get 13 = .ok (.invokestatic 70, 3) := by decide +kernel
theorem dX8_get_16 : decode cX8_get 16 = .ok (.ifCond .eq 13, 3) := by decide +kernel
theorem dX8_get_19 : decode cX8_get 19 = .ok (.aload_n 0, 1) := by decide +kernel
theorem dX8_get_20 : decode cX8_get 20 = .ok (.iload_n 1, 1) := by decide +kernel
theorem dX8_get_21 : decode cX8_get 21 = .ok (.iload_n 2, 1) := by decide +kernel
theorem dX8_get_22 : decode cX8_get 22 = .ok (.iload_n 3, 1) := by decide +kernel
theorem dX8_get_23 : decode cX8_get 23 = .ok (.invokevirtual 231, 3) := by decide +kernel
theorem dX8_get_26 : decode cX8_get 26 = .ok (.ifCond .eq 6, 3) := by decide +kernel
theorem dX8_get_29 : decode cX8_get 29 = .ok (.ldc 101, 2) := by decide +kernel
theorem dX8_get_31 : decode cX8_get 31 = .ok (.ireturn, 1) := by decide +kernel
theorem dX8_get_32 : decode cX8_get 32 = .ok (.aload_n 0, 1) := by decide +kernel
theorem dX8_get_33 : decode cX8_get 33 = .ok (.getfield 60, 3) := by decide +kernel
theorem dX8_get_36 : decode cX8_get 36 = .ok (.bipush 100, 2) := by decide +kernel
theorem dX8_get_38 : decode cX8_get 38 = .ok (.iload_n 1, 1) := by decide +kernel
theorem dX8_get_39 : decode cX8_get 39 = .ok (.imul, 1) := by decide +kernel
theorem dX8_get_40 : decode cX8_get 40 = .ok (.iload_n 3, 1) := by decide +kernel
theorem dX8_get_41 : decode cX8_get 41 = .ok (.iadd, 1) := by decide +kernel
theorem dX8_get_42 : decode cX8_get 42 = .ok (.iaload, 1) := by decide +kernel
theorem dX8_get_43 : decode cX8_get 43 = .ok (.ireturn, 1) := by decide +kernel
theorem dX8_copy_0 : decode cX8_copy 0 = .ok (.iload_n 1, 1) := by decide +kernel
theorem dX8_copy_1 : decode cX8_copy 1 = .ok (.invokestatic 217, 3) := by decide +kernel
theorem dX8_copy_4 : decode cX8_copy 4 = .ok (.ifCond .eq 10, 3) := by decide +kernel
theorem dX8_copy_7 : decode cX8_copy 7 = .ok (.iload_n 3, 1) := by decide +kernel
theorem dX8_copy_8 : decode cX8_copy 8 = .ok (.invokestatic 217, 3) := by decide +kernel
theorem dX8_copy_11 : decode cX8_copy 11 = .ok (.ifCond .ne 6, 3) := by decide +kernel
theorem dX8_copy_14 : decode cX8_copy 14 = .ok (.bipush (-2), 2) := by decide +kernel
theorem dX8_copy_16 : decode cX8_copy 16 = .ok (.ireturn, 1) := by decide +kernel
theorem dX8_copy_17 : decode cX8_copy 17 = .ok (.aload_n 0, 1) := by decide +kernel
theorem dX8_copy_18 : decode cX8_copy 18 = .ok (.getfield 54, 3) := by decide +kernel
theorem dX8_copy_21 : decode cX8_copy 21 = .ok (.iload_n 1, 1) := by decide +kernel
theorem dX8_copy_22 : decode cX8_copy 22 = .ok (.iaload, 1) := by decide +kernel
theorem dX8_copy_23 : decode cX8_copy 23 = .ok (.ifCond .lt 12, 3) := by decide +kernel
theorem dX8_copy_26 : decode cX8_copy 26 = .ok (.aload_n 0, 1) := by decide +kernel
theorem dX8_copy_27 : decode cX8_copy 27 = .ok (.getfield 54, 3) := by decide +kernel
theorem dX8_copy_30 : decode cX8_copy 30 = .ok (.iload_n 3, 1) := by decide +kernel
theorem dX8_copy_31 : decode cX8_copy 31 = .ok (.iaload, 1) := by decide +kernel
theorem dX8_copy_32 : decode cX8_copy 32 = .ok (.ifCond .ge 9, 3) := by decide +kernel
theorem dX8_copy_35 : decode cX8_copy 35 = .ok (.aload_n 0, 1) := by decide +kernel
theorem dX8_copy_36 : decode cX8_copy 36 = .ok (.iconst 1, 1) := by decide +kernel
theorem dX8_copy_37 : decode cX8_copy 37 = .ok (.invokevirtual 220, 3) := by decide +kernel
theorem dX8_copy_40 : decode cX8_copy 40 = .ok (.ireturn, 1) := by decide +kernel
theorem dX8_copy_41 : decode cX8_copy 41 = .ok (.aload_n 0, 1) := by decide +kernel
theorem dX8_copy_42 : decode cX8_copy 42 = .ok (.getfield 54, 3) := by decide +kernel
theorem dX8_copy_45 : decode cX8_copy 45 = .ok (.iload_n 1, 1) := by decide +kernel
theorem dX8_copy_46 : decode cX8_copy 46 = .ok (.iaload, 1) := by decide +kernel
theorem dX8_copy_47 : decode cX8_copy 47 = .ok (.aload_n 0, 1) := by decide +kernel
theorem dX8_copy_48 : decode cX8_copy 48 = .ok (.getfield 54, 3) := by decide +kernel
theorem dX8_copy_51 : decode cX8_copy 51 = .ok (.iload_n 3, 1) := by decide +kernel
theorem dX8_copy_52 : decode cX8_copy 52 = .ok (.iaload, 1) := by decide +kernel
theorem dX8_copy_53 : decode cX8_copy 53 = .ok (.if_icmp .eq 9, 3) := by decide +kernel
theorem dX8_copy_56 : decode cX8_copy 56 = .ok (.aload_n 0, 1) := by decide +kernel
theorem dX8_copy_57 : decode cX8_copy 57 = .ok (.iconst 4, 1) := by decide +kernel
theorem dX8_copy_58 : decode cX8_copy 58 = .ok (.invokevirtual 220, 3) := by decide +kernel
theorem dX8_copy_61 : decode cX8_copy 61 = .ok (.ireturn, 1) := by decide +kernel
theorem dX8_copy_62 : decode cX8_copy 62 = .ok (.iload_n 2, 1) := by decide +kernel
theorem dX8_copy_63 : decode cX8_copy 63 = .ok (.ifCond .lt 48, 3) := by decide +kernel
theorem dX8_copy_66 : decode cX8_copy 66 = .ok (.iload 4, 2) := by decide +kernel
theorem dX8_copy_68 : decode cX8_copy 68 = .ok (.ifCond .lt 43, 3) := by decide +kernel
theorem dX8_copy_71 : decode cX8_copy 71 = .ok (.iload 5, 2) := by decide +kernel
theorem dX8_copy_73 : decode cX8_copy 73 = .ok (.ifCond .lt 38, 3) := by decide +kernel
theorem dX8_copy_76 : decode cX8_copy 76 = .ok (.iload_n 2, 1) := by decide +kernel
theorem dX8_copy_77 : decode cX8_copy 77 = .ok (.i2l, 1) := by decide +kernel
theorem dX8_copy_78 : decode cX8_copy 78 = .ok (.iload 5, 2) := by decide +kernel
theorem dX8_copy_80 : decode cX8_copy 80 = .ok (.i2l, 1) := by decide +kernel
theorem dX8_copy_81 : decode cX8_copy 81 = .ok (.ladd, 1) := by decide +kernel
theorem dX8_copy_82 : decode cX8_copy 82 = .ok (.aload_n 0, 1) := by decide +kernel
theorem dX8_copy_83 : decode cX8_copy 83 = .ok (.getfield 57, 3) := by decide +kernel
theorem dX8_copy_86 : decode cX8_copy 86 = .ok (.iload_n 1, 1) := by decide +kernel
theorem dX8_copy_87 : decode cX8_copy 87 = .ok (.iaload, 1) := by decide +kernel
theorem dX8_copy_88 : decode cX8_copy 88 = .ok (.i2l, 1) := by decide +kernel
theorem dX8_copy_89 : decode cX8_copy 89 = .ok (.lcmp, 1) := by decide +kernel
theorem dX8_copy_90 : decode cX8_copy 90 = .ok (.ifCond .gt 21, 3) := by decide +kernel
theorem dX8_copy_93 : decode cX8_copy 93 = .ok (.iload 4, 2) := by decide +kernel
theorem dX8_copy_95 : decode cX8_copy 95 = .ok (.i2l, 1) := by decide +kernel
theorem dX8_copy_96 : decode cX8_copy 96 = .ok (.iload 5, 2) := by decide +kernel
theorem dX8_copy_98 : decode cX8_copy 98 = .ok (.i2l, 1) := by decide +kernel
theorem dX8_copy_99 : decode cX8_copy 99 = .ok (.ladd, 1) := by decide +kernel
theorem dX8_copy_100 : decode cX8_copy 100 = .ok (.aload_n 0, 1) := by decide +kernel
theorem dX8_copy_101 : decode cX8_copy 101 = .ok (.getfield 57, 3) := by decide +kernel
theorem dX8_copy_104 : decode cX8_copy 104 = .ok (.iload_n 3, 1) := by decide +kernel
theorem dX8_copy_105 : decode cX8_copy 105 = .ok (.iaload, 1) := by decide +kernel
theorem dX8_copy_106 : decode cX8_copy 106 = .ok (.i2l, 1) := by decide +kernel
theorem dX8_copy_107 : decode cX8_copy 107 = .ok (.lcmp, 1) := by decide +kernel
theorem dX8_copy_108 : decode cX8_copy 108 = .ok (.ifCond .le 9, 3) := by decide +kernel
theorem dX8_copy_111 : decode cX8_copy 111 = .ok (.aload_n 0, 1) := by decide +kernel
theorem dX8_copy_112 : decode cX8_copy 112 = .ok (.iconst 2, 1) := by decide +kernel
theorem dX8_copy_113 : decode cX8_copy 113 = .ok (.invokevirtual 220, 3) := by decide +kernel
theorem dX8_copy_116 : decode cX8_copy 116 = .ok (.ireturn, 1) := by decide +kernel
theorem dX8_copy_117 : decode cX8_copy 117 = .ok (.iconst 0, 1) := by decide +kernel
theorem dX8_copy_118 : decode cX8_copy 118 = .ok (.istore 6, 2) := by decide +kernel
theorem dX8_copy_120 : decode cX8_copy 120 = .ok (.iload 6, 2) := by decide +kernel
theorem dX8_copy_122 : decode cX8_copy 122 = .ok (.iload 5, 2) := by decide +kernel
theorem dX8_copy_124 : decode cX8_copy 124 = .ok (.if_icmp .ge 30, 3) := by decide +kernel
theorem dX8_copy_127 : decode cX8_copy 127 = .ok (.aload_n 0, 1) := by decide +kernel
theorem dX8_copy_128 : decode cX8_copy 128 = .ok (.getfield 63, 3) := by decide +kernel
theorem dX8_copy_131 : decode cX8_copy 131 = .ok (.iload 6, 2) := by decide +kernel
theorem dX8_copy_133 : decode cX8_copy 133 = .ok (.aload_n 0, 1) := by decide +kernel
theorem dX8_copy_134 : decode cX8_copy 134 = .ok (.getfield 60, 3) := by decide +kernel
theorem dX8_copy_137 : decode cX8_copy 137 = .ok (.bipush 100, 2) := by decide +kernel
theorem dX8_copy_139 : decode cX8_copy 139 = .ok (.iload_n 1, 1) := by decide +kernel
theorem dX8_copy_140 : decode cX8_copy 140 = .ok (.imul, 1) := by decide +kernel
theorem dX8_copy_141 : decode cX8_copy 141 = .ok (.iload_n 2, 1) := by decide +kernel
theorem dX8_copy_142 : decode cX8_copy 142 = .ok (.iadd, 1) := by decide +kernel
theorem dX8_copy_143 : decode cX8_copy 143 = .ok (.iload 6, 2) := by decide +kernel
theorem dX8_copy_145 : decode cX8_copy 145 = .ok (.iadd, 1) := by decide +kernel
theorem dX8_copy_146 : decode cX8_copy 146 = .ok (.iaload, 1) := by decide +kernel
theorem dX8_copy_147 : decode cX8_copy 147 = .ok (.iastore, 1) := by decide +kernel
theorem dX8_copy_148 : decode cX8_copy 148 = .ok (.iinc 6 1, 3) := by decide +kernel
theorem dX8_copy_151 : decode cX8_copy 151 = .ok (.goto (-31), 3) := by decide +kernel
theorem dX8_copy_154 : decode cX8_copy 154 = .ok (.iconst 0, 1) := by decide +kernel
theorem dX8_copy_155 : decode cX8_copy 155 = .ok (.istore 6, 2) := by decide +kernel
theorem dX8_copy_157 : decode cX8_copy 157 = .ok (.iload 6, 2) := by decide +kernel
theorem dX8_copy_159 : decode cX8_copy 159 = .ok (.iload 5, 2) := by decide +kernel
theorem dX8_copy_161 : decode cX8_copy 161 = .ok (.if_icmp .ge 31, 3) := by decide +kernel
theorem dX8_copy_164 : decode cX8_copy 164 = .ok (.aload_n 0, 1) := by decide +kernel
theorem dX8_copy_165 : decode cX8_copy 165 = .ok (.getfield 60, 3) := by decide +kernel
theorem dX8_copy_168 : decode cX8_copy 168 = .ok (.bipush 100, 2) := by decide +kernel
theorem dX8_copy_170 : decode cX8_copy 170 = .ok (.iload_n 3, 1) := by decide +kernel
theorem dX8_copy_171 : decode cX8_copy 171 = .ok (.imul, 1) := by decide +kernel
theorem dX8_copy_172 : decode cX8_copy 172 = .ok (.iload 4, 2) := by decide +kernel
theorem dX8_copy_174 : decode cX8_copy 174 = .ok (.iadd, 1) := by decide +kernel
theorem dX8_copy_175 : decode cX8_copy 175 = .ok (.iload 6, 2) := by decide +kernel
theorem dX8_copy_177 : decode cX8_copy 177 = .ok (.iadd, 1) := by decide +kernel
theorem dX8_copy_178 : decode cX8_copy 178 = .ok (.aload_n 0, 1) := by decide +kernel
theorem dX8_copy_179 : decode cX8_copy 179 = .ok (.getfield 63, 3) := by decide +kernel
theorem dX8_copy_182 : decode cX8_copy 182 = .ok (.iload 6, 2) := by decide +kernel
theorem dX8_copy_184 : decode cX8_copy 184 = .ok (.iaload, 1) := by decide +kernel
theorem dX8_copy_185 : decode cX8_copy 185 = .ok (.iastore, 1) := by decide +kernel
theorem dX8_copy_186 : decode cX8_copy 186 = .ok (.iinc 6 1, 3) := by decide +kernel
theorem dX8_copy_189 : decode cX8_copy 189 = .ok (.goto (-32), 3) := by decide +kernel
theorem dX8_copy_192 : decode cX8_copy 192 = .ok (.iconst 1, 1) := by decide +kernel
theorem dX8_copy_193 : decode cX8_copy 193 = .ok (.ireturn, 1) := by decide +kernel
theorem dX8_count_0 : decode cX8_count 0 = .ok (.iconst 0, 1) := by decide +kernel
theorem dX8_count_1 : decode cX8_count 1 = .ok (.istore_n 2, 1) := by decide +kernel
theorem dX8_count_2 : decode cX8_count 2 = .ok (.iload_n 1, 1) := by decide +kernel
theorem dX8_count_3 : decode cX8_count 3 = .ok (.tableswitch 137 0 5 #[37, 42, 77, 82, 82, 132], 37) := by decide +kernel
theorem dX8_count_40 : decode cX8_count 40 = .ok (.aload_n 0, 1) := by decide +kernel
theorem dX8_count_41 : decode cX8_count 41 = .ok (.getfield 85, 3) := by decide +kernel
theorem dX8_count_44 : decode cX8_count 44 = .ok (.ireturn, 1) := by decide +kernel
theorem dX8_count_45 : decode cX8_count 45 = .ok (.iconst 0, 1) := by decide +kernel
theorem dX8_count_46 : decode cX8_count 46 = .ok (.istore_n 3, 1) := by decide +kernel
theorem dX8_count_47 : decode cX8_count 47 = .ok (.iload_n 3, 1) := by decide +kernel
theorem dX8_count_48 : decode cX8_count 48 = .ok (.aload_n 0, 1) := by decide +kernel
theorem dX8_count_49 : decode cX8_count 49 = .ok (.getfield 85, 3) := by decide +kernel
theorem dX8_count_52 : decode cX8_count 52 = .ok (.if_icmp .ge 26, 3) := by decide +kernel
theorem dX8_count_55 : decode cX8_count 55 = .ok (.iload_n 2, 1) := by decide +kernel
theorem dX8_count_56 : decode cX8_count 56 = .ok (.aload_n 0, 1) := by decide +kernel
theorem dX8_count_57 : decode cX8_count 57 = .ok (.getfield 19, 3) := by decide +kernel
theorem dX8_count_60 : decode cX8_count 60 = .ok (.iload_n 3, 1) := by decide +kernel
theorem dX8_count_61 : decode cX8_count 61 = .ok (.baload, 1) := by decide +kernel
theorem dX8_count_62 : decode cX8_count 62 = .ok (.ifCond .eq 7, 3) := by decide +kernel
theorem dX8_count_65 : decode cX8_count 65 = .ok (.iconst 1, 1) := by decide +kernel
theorem dX8_count_66 : decode cX8_count 66 = .ok (.goto 4, 3) := by decide +kernel
theorem dX8_count_69 : decode cX8_count 69 = .ok (.iconst 0, 1) := by decide +kernel
theorem dX8_count_70 : decode cX8_count 70 = .ok (.iadd, 1) := by decide +kernel
theorem dX8_count_71 : decode cX8_count 71 = .ok (.istore_n 2, 1) := by decide +kernel
theorem dX8_count_72 : decode cX8_count 72 = .ok (.iinc 3 1, 3) := by decide +kernel
theorem dX8_count_75 : decode cX8_count 75 = .ok (.goto (-28), 3) := by decide +kernel
theorem dX8_count_78 : decode cX8_count 78 = .ok (.iload_n 2, 1) := by decide +kernel
theorem dX8_count_79 : decode cX8_count 79 = .ok (.ireturn, 1) := by decide +kernel
theorem dX8_count_80 : decode cX8_count 80 = .ok (.aload_n 0, 1) := by decide +kernel
theorem dX8_count_81 : decode cX8_count 81 = .ok (.getfield 179, 3) := by decide +kernel
theorem dX8_count_84 : decode cX8_count 84 = .ok (.ireturn, 1) := by decide +kernel
theorem dX8_count_85 : decode cX8_count 85 = .ok (.iconst 0, 1) := by decide +kernel
theorem dX8_count_86 : decode cX8_count 86 = .ok (.istore_n 3, 1) := by decide +kernel
theorem dX8_count_87 : decode cX8_count 87 = .ok (.iload_n 3, 1) := by decide +kernel
theorem dX8_count_88 : decode cX8_count 88 = .ok (.iconst 4, 1) := by decide +kernel
theorem dX8_count_89 : decode cX8_count 89 = .ok (.if_icmp .ge 44, 3) := by decide +kernel
theorem dX8_count_92 : decode cX8_count 92 = .ok (.iload_n 2, 1) := by decide +kernel
theorem dX8_count_93 : decode cX8_count 93 = .ok (.aload_n 0, 1) := by decide +kernel
theorem dX8_count_94 : decode cX8_count 94 = .ok (.getfield 54, 3) := by decide +kernel
theorem dX8_count_97 : decode cX8_count 97 = .ok (.iload_n 3, 1) := by decide +kernel
theorem dX8_count_98 : decode cX8_count 98 = .ok (.iaload, 1) := by decide +kernel
theorem dX8_count_99 : decode cX8_count 99 = .ok (.ifCond .ge 7, 3) := by decide +kernel
theorem dX8_count_102 : decode cX8_count 102 = .ok (.iconst 1, 1) := by decide +kernel
theorem dX8_count_103 : decode cX8_count 103 = .ok (.goto 4, 3) := by decide +kernel
theorem dX8_count_106 : decode cX8_count 106 = .ok (.iconst 0, 1) := by decide +kernel
theorem dX8_count_107 : decode cX8_count 107 = .ok (.iload_n 1, 1) := by decide +kernel
theorem dX8_count_108 : decode cX8_count 108 = .ok (.iconst 4, 1) := by decide +kernel
theorem dX8_count_109 : decode cX8_count 109 = .ok (.if_icmp .ne 7, 3) := by decide +kernel
theorem dX8_count_112 : decode cX8_count 112 = .ok (.iconst 1, 1) := by decide +kernel
theorem dX8_count_113 : decode cX8_count 113 = .ok (.goto 4, 3) := by decide +kernel
theorem dX8_count_116 : decode cX8_count 116 = .ok (.iconst 0, 1) := by decide +kernel
theorem dX8_count_117 : decode cX8_count 117 = .ok (.if_icmp .ne 7, 3) := by decide +kernel
theorem dX8_count_120 : decode cX8_count 120 = .ok (.iconst 1, 1) := by decide +kernel
theorem dX8_count_121 : decode cX8_count 121 = .ok (.goto 4, 3) := by decide +kernel
theorem dX8_count_124 : decode cX8_count 124 = .ok (.iconst 0, 1) := by decide +kernel
theorem dX8_count_125 : decode cX8_count 125 = .ok (.iadd, 1) := by decide +kernel
theorem dX8_count_126 : decode cX8_count 126 = .ok (.istore_n 2, 1) := by decide +kernel
theorem dX8_count_127 : decode cX8_count 127 = .ok (.iinc 3 1, 3) := by decide +kernel
theorem dX8_count_130 : decode cX8_count 130 = .ok (.goto (-43), 3) := by decide +kernel
theorem dX8_count_133 : decode cX8_count 133 = .ok (.iload_n 2, 1) := by decide +kernel
theorem dX8_count_134 : decode cX8_count 134 = .ok (.ireturn, 1) := by decide +kernel
theorem dX8_count_135 : decode cX8_count 135 = .ok (.aload_n 0, 1) := by decide +kernel
theorem dX8_count_136 : decode cX8_count 136 = .ok (.getfield 226, 3) := by decide +kernel
theorem dX8_count_139 : decode cX8_count 139 = .ok (.ireturn, 1) := by decide +kernel
theorem dX8_count_140 : decode cX8_count 140 = .ok (.bipush (-2), 2) := by decide +kernel
theorem dX8_count_142 : decode cX8_count 142 = .ok (.ireturn, 1) := by decide +kernel
theorem dX8_digest_0 : decode cX8_digest 0 = .ok (.ldc2_w 234, 3) := by decide +kernel
theorem dX8_digest_3 : decode cX8_digest 3 = .ok (.lstore_n 1, 1) := by decide +kernel
theorem dX8_digest_4 : decode cX8_digest 4 = .ok (.iconst 0, 1) := by decide +kernel
theorem dX8_digest_5 : decode cX8_digest 5 = .ok (.istore_n 3, 1) := by decide +kernel
theorem dX8_digest_6 : decode cX8_digest 6 = .ok (.iload_n 3, 1) := by decide +kernel
theorem dX8_digest_7 : decode cX8_digest 7 = .ok (.iconst 5, 1) := by decide +kernel
theorem dX8_digest_8 : decode cX8_digest 8 = .ok (.if_icmp .ge 22, 3) := by decide +kernel
theorem dX8_digest_11 : decode cX8_digest 11 = .ok (.ldc2_w 236, 3) := by decide +kernel
theorem dX8_digest_14 : decode cX8_digest 14 = .ok (.lload_n 1, 1) := by decide +kernel
theorem dX8_digest_15 : decode cX8_digest 15 = .ok (.lmul, 1) := by decide +kernel
theorem dX8_digest_16 : decode cX8_digest 16 = .ok (.aload_n 0, 1) := by decide +kernel
theorem dX8_digest_17 : decode cX8_digest 17 = .ok (.iload_n 3, 1) := by decide +kernel
theorem dX8_digest_18 : decode cX8_digest 18 = .ok (.invokevirtual 238, 3) := by decide +kernel
theorem dX8_digest_21 : decode cX8_digest 21 = .ok (.i2l, 1) := by decide +kernel
theorem dX8_digest_22 : decode cX8_digest 22 = .ok (.ladd, 1) := by decide +kernel
theorem dX8_digest_23 : decode cX8_digest 23 = .ok (.lstore_n 1, 1) := by decide +kernel
theorem dX8_digest_24 : decode cX8_digest 24 = .ok (.iinc 3 1, 3) := by decide +kernel
theorem dX8_digest_27 : decode cX8_digest 27 = .ok (.goto (-21), 3) := by decide +kernel
theorem dX8_digest_30 : decode cX8_digest 30 = .ok (.iconst 0, 1) := by decide +kernel
theorem dX8_digest_31 : decode cX8_digest 31 = .ok (.istore_n 3, 1) := by decide +kernel
theorem dX8_digest_32 : decode cX8_digest 32 = .ok (.iload_n 3, 1) := by decide +kernel
theorem dX8_digest_33 : decode cX8_digest 33 = .ok (.iconst 3, 1) := by decide +kernel
theorem dX8_digest_34 : decode cX8_digest 34 = .ok (.if_icmp .ge 23, 3) := by decide +kernel
theorem dX8_digest_37 : decode cX8_digest 37 = .ok (.ldc2_w 236, 3) := by decide +kernel
theorem dX8_digest_40 : decode cX8_digest 40 = .ok (.lload_n 1, 1) := by decide +kernel
theorem dX8_digest_41 : decode cX8_digest 41 = .ok (.lmul, 1) := by decide +kernel
theorem dX8_digest_42 : decode cX8_digest 42 = .ok (.aload_n 0, 1) := by decide +kernel
theorem dX8_digest_43 : decode cX8_digest 43 = .ok (.getfield 13, 3) := by decide +kernel
theorem dX8_digest_46 : decode cX8_digest 46 = .ok (.iload_n 3, 1) := by decide +kernel
theorem dX8_digest_47 : decode cX8_digest 47 = .ok (.iaload, 1) := by decide +kernel
theorem dX8_digest_48 : decode cX8_digest 48 = .ok (.i2l, 1) := by decide +kernel
theorem dX8_digest_49 : decode cX8_digest 49 = .ok (.ladd, 1) := by decide +kernel
theorem dX8_digest_50 : decode cX8_digest 50 = .ok (.lstore_n 1, 1) := by decide +kernel
theorem dX8_digest_51 : decode cX8_digest 51 = .ok (.iinc 3 1, 3) := by decide +kernel
theorem dX8_digest_54 : decode cX8_digest 54 = .ok (.goto (-22), 3) := by decide +kernel
theorem dX8_digest_57 : decode cX8_digest 57 = .ok (.iconst 0, 1) := by decide +kernel
theorem dX8_digest_58 : decode cX8_digest 58 = .ok (.istore_n 3, 1) := by decide +kernel
theorem dX8_digest_59 : decode cX8_digest 59 = .ok (.iload_n 3, 1) := by decide +kernel
theorem dX8_digest_60 : decode cX8_digest 60 = .ok (.aload_n 0, 1) := by decide +kernel
theorem dX8_digest_61 : decode cX8_digest 61 = .ok (.getfield 85, 3) := by decide +kernel
theorem dX8_digest_64 : decode cX8_digest 64 = .ok (.if_icmp .ge 37, 3) := by decide +kernel
theorem dX8_digest_67 : decode cX8_digest 67 = .ok (.ldc2_w 236, 3) := by decide +kernel
theorem dX8_digest_70 : decode cX8_digest 70 = .ok (.lload_n 1, 1) := by decide +kernel
theorem dX8_digest_71 : decode cX8_digest 71 = .ok (.lmul, 1) := by decide +kernel
theorem dX8_digest_72 : decode cX8_digest 72 = .ok (.aload_n 0, 1) := by decide +kernel
theorem dX8_digest_73 : decode cX8_digest 73 = .ok (.iload_n 3, 1) := by decide +kernel
theorem dX8_digest_74 : decode cX8_digest 74 = .ok (.iconst 0, 1) := by decide +kernel
theorem dX8_digest_75 : decode cX8_digest 75 = .ok (.invokevirtual 97, 3) := by decide +kernel
theorem dX8_digest_78 : decode cX8_digest 78 = .ok (.i2l, 1) := by decide +kernel
theorem dX8_digest_79 : decode cX8_digest 79 = .ok (.ladd, 1) := by decide +kernel
theorem dX8_digest_80 : decode cX8_digest 80 = .ok (.lstore_n 1, 1) := by decide +kernel
theorem dX8_digest_81 : decode cX8_digest 81 = .ok (.ldc2_w 236, 3) := by decide +kernel
theorem dX8_digest_84 : decode cX8_digest 84 = .ok (.lload_n 1, 1) := by decide +kernel
theorem dX8_digest_85 : decode cX8_digest 85 = .ok (.lmul, 1) := by decide +kernel
theorem dX8_digest_86 : decode cX8_digest 86 = .ok (.aload_n 0, 1) := by decide +kernel
theorem dX8_digest_87 : decode cX8_digest 87 = .ok (.iload_n 3, 1) := by decide +kernel
theorem dX8_digest_88 : decode cX8_digest 88 = .ok (.iconst 1, 1) := by decide +kernel
theorem dX8_digest_89 : decode cX8_digest 89 = .ok (.invokevirtual 97, 3) := by decide +kernel
theorem dX8_digest_92 : decode cX8_digest 92 = .ok (.i2l, 1) := by decide +kernel
theorem dX8_digest_93 : decode cX8_digest 93 = .ok (.ladd, 1) := by decide +kernel
theorem dX8_digest_94 : decode cX8_digest 94 = .ok (.lstore_n 1, 1) := by decide +kernel
theorem dX8_digest_95 : decode cX8_digest 95 = .ok (.iinc 3 1, 3) := by decide +kernel
theorem dX8_digest_98 : decode cX8_digest 98 = .ok (.goto (-39), 3) := by decide +kernel
theorem dX8_digest_101 : decode cX8_digest 101 = .ok (.aload_n 0, 1) := by decide +kernel
theorem dX8_digest_102 : decode cX8_digest 102 = .ok (.invokevirtual 129, 3) := by decide +kernel
theorem dX8_digest_105 : decode cX8_digest 105 = .ok (.iconst 0, 1) := by decide +kernel
theorem dX8_digest_106 : decode cX8_digest 106 = .ok (.istore_n 3, 1) := by decide +kernel
theorem dX8_digest_107 : decode cX8_digest 107 = .ok (.iload_n 3, 1) := by decide +kernel
theorem dX8_digest_108 : decode cX8_digest 108 = .ok (.bipush 9, 2) := by decide +kernel
theorem dX8_digest_110 : decode cX8_digest 110 = .ok (.if_icmp .ge 22, 3) := by decide +kernel
theorem dX8_digest_113 : decode cX8_digest 113 = .ok (.ldc2_w 236, 3) := by decide +kernel
theorem dX8_digest_116 : decode cX8_digest 116 = .ok (.lload_n 1, 1) := by decide +kernel
theorem dX8_digest_117 : decode cX8_digest 117 = .ok (.lmul, 1) := by decide +kernel
theorem dX8_digest_118 : decode cX8_digest 118 = .ok (.aload_n 0, 1) := by decide +kernel
theorem dX8_digest_119 : decode cX8_digest 119 = .ok (.getfield 26, 3) := by decide +kernel
theorem dX8_digest_122 : decode cX8_digest 122 = .ok (.iload_n 3, 1) := by decide +kernel
theorem dX8_digest_123 : decode cX8_digest 123 = .ok (.laload, 1) := by decide +kernel
theorem dX8_digest_124 : decode cX8_digest 124 = .ok (.ladd, 1) := by decide +kernel
theorem dX8_digest_125 : decode cX8_digest 125 = .ok (.lstore_n 1, 1) := by decide +kernel
theorem dX8_digest_126 : decode cX8_digest 126 = .ok (.iinc 3 1, 3) := by decide +kernel
theorem dX8_digest_129 : decode cX8_digest 129 = .ok (.goto (-22), 3) := by decide +kernel
theorem dX8_digest_132 : decode cX8_digest 132 = .ok (.ldc2_w 236, 3) := by decide +kernel
theorem dX8_digest_135 : decode cX8_digest 135 = .ok (.lload_n 1, 1) := by decide +kernel
theorem dX8_digest_136 : decode cX8_digest 136 = .ok (.lmul, 1) := by decide +kernel
theorem dX8_digest_137 : decode cX8_digest 137 = .ok (.aload_n 0, 1) := by decide +kernel
theorem dX8_digest_138 : decode cX8_digest 138 = .ok (.invokevirtual 144, 3) := by decide +kernel
theorem dX8_digest_141 : decode cX8_digest 141 = .ok (.i2l, 1) := by decide +kernel
theorem dX8_digest_142 : decode cX8_digest 142 = .ok (.ladd, 1) := by decide +kernel
theorem dX8_digest_143 : decode cX8_digest 143 = .ok (.lstore_n 1, 1) := by decide +kernel
theorem dX8_digest_144 : decode cX8_digest 144 = .ok (.ldc2_w 236, 3) := by decide +kernel
theorem dX8_digest_147 : decode cX8_digest 147 = .ok (.lload_n 1, 1) := by decide +kernel
theorem dX8_digest_148 : decode cX8_digest 148 = .ok (.lmul, 1) := by decide +kernel
theorem dX8_digest_149 : decode cX8_digest 149 = .ok (.aload_n 0, 1) := by decide +kernel
theorem dX8_digest_150 : decode cX8_digest 150 = .ok (.invokevirtual 188, 3) := by decide +kernel
theorem dX8_digest_153 : decode cX8_digest 153 = .ok (.i2l, 1) := by decide +kernel
theorem dX8_digest_154 : decode cX8_digest 154 = .ok (.ladd, 1) := by decide +kernel
theorem dX8_digest_155 : decode cX8_digest 155 = .ok (.lreturn, 1) := by decide +kernel
theorem dJ6_bitCount_0f7a4_0 : decode cJ6_bitCount_0f7a4 0 = .ok (.iload_n 0, 1) := by decide +kernel
theorem dJ6_bitCount_0f7a4_1 : decode cJ6_bitCount_0f7a4 1 = .ok (.iload_n 0, 1) := by decide +kernel
theorem dJ6_bitCount_0f7a4_2 : decode cJ6_bitCount_0f7a4 2 = .ok (.iconst 1, 1) := by decide +kernel
theorem dJ6_bitCount_0f7a4_3 : decode cJ6_bitCount_0f7a4 3 = .ok (.iushr, 1) := by decide +kernel
theorem dJ6_bitCount_0f7a4_4 : decode cJ6_bitCount_0f7a4 4 = .ok (.ldc_w 265, 3) := by decide +kernel
theorem dJ6_bitCount_0f7a4_7 : decode cJ6_bitCount_0f7a4 7 = .ok (.iand, 1) := by decide +kernel
theorem dJ6_bitCount_0f7a4_8 : decode cJ6_bitCount_0f7a4 8 = .ok (.isub, 1) := by decide +kernel
theorem dJ6_bitCount_0f7a4_9 : decode cJ6_bitCount_0f7a4 9 = .ok (.istore_n 0, 1) := by decide +kernel
theorem dJ6_bitCount_0f7a4_10 : decode cJ6_bitCount_0f7a4 10 = .ok (.iload_n 0, 1) := by decide +kernel
theorem dJ6_bitCount_0f7a4_11 : decode cJ6_bitCount_0f7a4 11 = .ok (.ldc_w 266, 3) := by decide +kernel
theorem dJ6_bitCount_0f7a4_14 : decode cJ6_bitCount_0f7a4 14 = .ok (.iand, 1) := by decide +kernel
theorem dJ6_bitCount_0f7a4_15 : decode cJ6_bitCount_0f7a4 15 = .ok (.iload_n 0, 1) := by decide +kernel
theorem dJ6_bitCount_0f7a4_16 : decode cJ6_bitCount_0f7a4 16 = .ok (.iconst 2, 1) := by decide +kernel
theorem dJ6_bitCount_0f7a4_17 : decode cJ6_bitCount_0f7a4 17 = .ok (.iushr, 1) := by decide +kernel
theorem dJ6_bitCount_0f7a4_18 : decode cJ6_bitCount_0f7a4 18 = .ok (.ldc_w 266, 3) := by decide +kernel
theorem dJ6_bitCount_0f7a4_21 : decode cJ6_bitCount_0f7a4 21 = .ok (.iand, 1) := by decide +kernel
theorem dJ6_bitCount_0f7a4_22 : decode cJ6_bitCount_0f7a4 22 = .ok (.iadd, 1) := by decide +kernel
theorem dJ6_bitCount_0f7a4_23 : decode cJ6_bitCount_0f7a4 23 = .ok (.istore_n 0, 1) := by decide +kernel
theorem dJ6_bitCount_0f7a4_24 : decode cJ6_bitCount_0f7a4 24 = .ok (.iload_n 0, 1) := by decide +kernel
theorem dJ6_bitCount_0f7a4_25 : decode cJ6_bitCount_0f7a4 25 = .ok (.iload_n 0, 1) := by decide +kernel
theorem dJ6_bitCount_0f7a4_26 : decode cJ6_bitCount_0f7a4 26 = .ok (.iconst 4, 1) := by decide +kernel
theorem dJ6_bitCount_0f7a4_27 : decode cJ6_bitCount_0f7a4 27 = .ok (.iushr, 1) := by decide +kernel
theorem dJ6_bitCount_0f7a4_28 : decode cJ6_bitCount_0f7a4 28 = .ok (.iadd, 1) := by decide +kernel
theorem dJ6_bitCount_0f7a4_29 : decode cJ6_bitCount_0f7a4 29 = .ok (.ldc_w 267, 3) := by decide +kernel
theorem dJ6_bitCount_0f7a4_32 : decode cJ6_bitCount_0f7a4 32 = .ok (.iand, 1) := by decide +kernel
theorem dJ6_bitCount_0f7a4_33 : decode cJ6_bitCount_0f7a4 33 = .ok (.istore_n 0, 1) := by decide +kernel
theorem dJ6_bitCount_0f7a4_34 : decode cJ6_bitCount_0f7a4 34 = .ok (.iload_n 0, 1) := by decide +kernel
theorem dJ6_bitCount_0f7a4_35 : decode cJ6_bitCount_0f7a4 35 = .ok (.iload_n 0, 1) := by decide +kernel
theorem dJ6_bitCount_0f7a4_36 : decode cJ6_bitCount_0f7a4 36 = .ok (.bipush 8, 2) := by decide +kernel
theorem dJ6_bitCount_0f7a4_38 : decode cJ6_bitCount_0f7a4 38 = .ok (.iushr, 1) := by decide +kernel
theorem dJ6_bitCount_0f7a4_39 : decode cJ6_bitCount_0f7a4 39 = .ok (.iadd, 1) := by decide +kernel
theorem dJ6_bitCount_0f7a4_40 : decode cJ6_bitCount_0f7a4 40 = .ok (.istore_n 0, 1) := by decide +kernel
theorem dJ6_bitCount_0f7a4_41 : decode cJ6_bitCount_0f7a4 41 = .ok (.iload_n 0, 1) := by decide +kernel
theorem dJ6_bitCount_0f7a4_42 : decode cJ6_bitCount_0f7a4 42 = .ok (.iload_n 0, 1) := by decide +kernel
theorem dJ6_bitCount_0f7a4_43 : decode cJ6_bitCount_0f7a4 43 = .ok (.bipush 16, 2) := by decide +kernel
theorem dJ6_bitCount_0f7a4_45 : decode cJ6_bitCount_0f7a4 45 = .ok (.iushr, 1) := by decide +kernel
theorem dJ6_bitCount_0f7a4_46 : decode cJ6_bitCount_0f7a4 46 = .ok (.iadd, 1) := by decide +kernel
theorem dJ6_bitCount_0f7a4_47 : decode cJ6_bitCount_0f7a4 47 = .ok (.istore_n 0, 1) := by decide +kernel
theorem dJ6_bitCount_0f7a4_48 : decode cJ6_bitCount_0f7a4 48 = .ok (.iload_n 0, 1) := by decide +kernel
theorem dJ6_bitCount_0f7a4_49 : decode cJ6_bitCount_0f7a4 49 = .ok (.bipush 63, 2) := by decide +kernel
theorem dJ6_bitCount_0f7a4_51 : decode cJ6_bitCount_0f7a4 51 = .ok (.iand, 1) := by decide +kernel
theorem dJ6_bitCount_0f7a4_52 : decode cJ6_bitCount_0f7a4 52 = .ok (.ireturn, 1) := by decide +kernel
theorem dJ9_floorDiv_f86c9_0 : decode cJ9_floorDiv_f86c9 0 = .ok (.lload_n 0, 1) := by decide +kernel
theorem dJ9_floorDiv_f86c9_1 : decode cJ9_floorDiv_f86c9 1 = .ok (.lload_n 2, 1) := by decide +kernel
theorem dJ9_floorDiv_f86c9_2 : decode cJ9_floorDiv_f86c9 2 = .ok (.ldiv, 1) := by decide +kernel
theorem dJ9_floorDiv_f86c9_3 : decode cJ9_floorDiv_f86c9 3 = .ok (.lstore 4, 2) := by decide +kernel
theorem dJ9_floorDiv_f86c9_5 : decode cJ9_floorDiv_f86c9 5 = .ok (.lload_n 0, 1) := by decide +kernel
theorem dJ9_floorDiv_f86c9_6 : decode cJ9_floorDiv_f86c9 6 = .ok (.lload_n 2, 1) := by decide +kernel
theorem dJ9_floorDiv_f86c9_7 : decode cJ9_floorDiv_f86c9 7 = .ok (.lxor, 1) := by decide +kernel
theorem dJ9_floorDiv_f86c9_8 : decode cJ9_floorDiv_f86c9 8 = .ok (.lconst 0, 1) := by decide +kernel
theorem dJ9_floorDiv_f86c9_9 : decode cJ9_floorDiv_f86c9 9 = .ok (.lcmp, 1) := by decide +kernel
theorem dJ9_floorDiv_f86c9_10 : decode cJ9_floorDiv_f86c9 10 = .ok (.ifCond .ge 17, 3) := by decide +kernel
theorem dJ9_floorDiv_f86c9_13 : decode cJ9_floorDiv_f86c9 13 = .ok (.lload 4, 2) := by decide +kernel
theorem dJ9_floorDiv_f86c9_15 : decode cJ9_floorDiv_f86c9 15 = .ok (.lload_n 2, 1) := by decide +kernel
theorem dJ9_floorDiv_f86c9_16 : decode cJ9_floorDiv_f86c9 16 = .ok (.lmul, 1) := by decide +kernel
theorem dJ9_floorDiv_f86c9_17 : decode cJ9_floorDiv_f86c9 17 = .ok (.lload_n 0, 1) := by decide +kernel
theorem dJ9_floorDiv_f86c9_18 : decode cJ9_floorDiv_f86c9 18 = .ok (.lcmp, 1) := by decide +kernel
theorem dJ9_floorDiv_f86c9_19 : decode cJ9_floorDiv_f86c9 19 = .ok (.ifCond .eq 8, 3) := by decide +kernel
theorem dJ9_floorDiv_f86c9_22 : decode cJ9_floorDiv_f86c9 22 = .ok (.lload 4, 2) := by decide +kernel
theorem dJ9_floorDiv_f86c9_24 : decode cJ9_floorDiv_f86c9 24 = .ok (.lconst 1, 1) := by decide +kernel
theorem dJ9_floorDiv_f86c9_25 : decode cJ9_floorDiv_f86c9 25 = .ok (.lsub, 1) := by decide +kernel
theorem dJ9_floorDiv_f86c9_26 : decode cJ9_floorDiv_f86c9 26 = .ok (.lreturn, 1) := by decide +kernel
theorem dJ9_floorDiv_f86c9_27 : decode cJ9_floorDiv_f86c9 27 = .ok (.lload 4, 2) := by decide +kernel
theorem dJ9_floorDiv_f86c9_29 : decode cJ9_floorDiv_f86c9 29 = .ok (.lreturn, 1) := by decide +kernel
theorem dJ9_abs_0f7a4_0 : decode cJ9_abs_0f7a4 0 = .ok (.iload_n 0, 1) := by decide +kernel
theorem dJ9_abs_0f7a4_1 : decode cJ9_abs_0f7a4 1 = .ok (.ifCond .ge 8, 3) := by decide +kernel
theorem dJ9_abs_0f7a4_4 : decode cJ9_abs_0f7a4 4 = .ok (.iload_n 0, 1) := by decide +kernel
theorem dJ9_abs_0f7a4_5 : decode cJ9_abs_0f7a4 5 = .ok (.ineg, 1) := by decide +kernel
theorem dJ9_abs_0f7a4_6 : decode cJ9_abs_0f7a4 6 = .ok (.goto 4, 3) := by decide +kernel
theorem dJ9_abs_0f7a4_9 : decode cJ9_abs_0f7a4 9 = .ok (.iload_n 0, 1) := by decide +kernel
theorem dJ9_abs_0f7a4_10 : decode cJ9_abs_0f7a4 10 = .ok (.ireturn, 1) := by decide +kernel
theorem dJ9_max_7cf53_0 : decode cJ9_max_7cf53 0 = .ok (.iload_n 0, 1) := by decide +kernel
theorem dJ9_max_7cf53_1 : decode cJ9_max_7cf53 1 = .ok (.iload_n 1, 1) := by decide +kernel
theorem dJ9_max_7cf53_2 : decode cJ9_max_7cf53 2 = .ok (.if_icmp .lt 7, 3) := by decide +kernel
theorem dJ9_max_7cf53_5 : decode cJ9_max_7cf53 5 = .ok (.iload_n 0, 1) := by decide +kernel
theorem dJ9_max_7cf53_6 : decode cJ9_max_7cf53 6 = .ok (.goto 4, 3) := by decide +kernel
theorem dJ9_max_7cf53_9 : decode cJ9_max_7cf53 9 = .ok (.iload_n 1, 1) := by decide +kernel
theorem dJ9_max_7cf53_10 : decode cJ9_max_7cf53 10 = .ok (.ireturn, 1) := by decide +kernel
theorem dJ9_max_f86c9_0 : decode cJ9_max_f86c9 0 = .ok (.lload_n 0, 1) := by decide +kernel
theorem dJ9_max_f86c9_1 : decode cJ9_max_f86c9 1 = .ok (.lload_n 2, 1) := by decide +kernel
theorem dJ9_max_f86c9_2 : decode cJ9_max_f86c9 2 = .ok (.lcmp, 1) := by decide +kernel
theorem dJ9_max_f86c9_3 : decode cJ9_max_f86c9 3 = .ok (.ifCond .lt 7, 3) := by decide +kernel
theorem dJ9_max_f86c9_6 : decode cJ9_max_f86c9 6 = .ok (.lload_n 0, 1) := by decide +kernel
theorem dJ9_max_f86c9_7 : decode cJ9_max_f86c9 7 = .ok (.goto 4, 3) := by decide +kernel
theorem dJ9_max_f86c9_10 : decode cJ9_max_f86c9 10 = .ok (.lload_n 2, 1) := by decide +kernel
theorem dJ9_max_f86c9_11 : decode cJ9_max_f86c9 11 = .ok (.lreturn, 1) := by decide +kernel
theorem dJ9_min_7cf53_0 : decode cJ9_min_7cf53 0 = .ok (.iload_n 0, 1) := by decide +kernel
theorem dJ9_min_7cf53_1 : decode cJ9_min_7cf53 1 = .ok (.iload_n 1, 1) := by decide +kernel
theorem dJ9_min_7cf53_2 : decode cJ9_min_7cf53 2 = .ok (.if_icmp .gt 7, 3) := by decide +kernel
theorem dJ9_min_7cf53_5 : decode cJ9_min_7cf53 5 = .ok (.iload_n 0, 1) := by decide +kernel
theorem dJ9_min_7cf53_6 : decode cJ9_min_7cf53 6 = .ok (.goto 4, 3) := by decide +kernel
theorem dJ9_min_7cf53_9 : decode cJ9_min_7cf53 9 = .ok (.iload_n 1, 1) := by decide +kernel
theorem dJ9_min_7cf53_10 : decode cJ9_min_7cf53 10 = .ok (.ireturn, 1) := by decide +kernel
theorem dJ9_min_f86c9_0 : decode cJ9_min_f86c9 0 = .ok (.lload_n 0, 1) := by decide +kernel
theorem dJ9_min_f86c9_1 : decode cJ9_min_f86c9 1 = .ok (.lload_n 2, 1) := by decide +kernel
theorem dJ9_min_f86c9_2 : decode cJ9_min_f86c9 2 = .ok (.lcmp, 1) := by decide +kernel
theorem dJ9_min_f86c9_3 : decode cJ9_min_f86c9 3 = .ok (.ifCond .gt 7, 3) := by decide +kernel
theorem dJ9_min_f86c9_6 : decode cJ9_min_f86c9 6 = .ok (.lload_n 0, 1) := by decide +kernel
theorem dJ9_min_f86c9_7 : decode cJ9_min_f86c9 7 = .ok (.goto 4, 3) := by decide +kernel
theorem dJ9_min_f86c9_10 : decode cJ9_min_f86c9 10 = .ok (.lload_n 2, 1) := by decide +kernel
theorem dJ9_min_f86c9_11 : decode cJ9_min_f86c9 11 = .ok (.lreturn, 1) := by decide +kernel
theorem dJ7_fill_d0a16_0 : decode cJ7_fill_d0a16 0 = .ok (.iconst 0, 1) := by decide +kernel
theorem dJ7_fill_d0a16_1 : decode cJ7_fill_d0a16 1 = .ok (.istore_n 3, 1) := by decide +kernel
theorem dJ7_fill_d0a16_2 : decode cJ7_fill_d0a16 2 = .ok (.aload_n 0, 1) := by decide +kernel
theorem dJ7_fill_d0a16_3 : decode cJ7_fill_d0a16 3 = .ok (.arraylength, 1) := by decide +kernel
theorem dJ7_fill_d0a16_4 : decode cJ7_fill_d0a16 4 = .ok (.istore 4, 2) := by decide +kernel
theorem dJ7_fill_d0a16_6 : decode cJ7_fill_d0a16 6 = .ok (.iload_n 3, 1) := by decide +kernel
theorem dJ7_fill_d0a16_7 : decode cJ7_fill_d0a16 7 = .ok (.iload 4, 2) := by decide +kernel
theorem dJ7_fill_d0a16_9 : decode cJ7_fill_d0a16 9 = .ok (.if_icmp .ge 13, 3) := by decide +kernel
theorem dJ7_fill_d0a16_12 : decode cJ7_fill_d0a16 12 = .ok (.aload_n 0, 1) := by decide +kernel
theorem dJ7_fill_d0a16_13 : decode cJ7_fill_d0a16 13 = .ok (.iload_n 3, 1) := by decide +kernel
theorem dJ7_fill_d0a16_14 : decode cJ7_fill_d0a16 14 = .ok (.lload_n 1, 1) := by decide +kernel
theorem dJ7_fill_d0a16_15 : decode cJ7_fill_d0a16 15 = .ok (.lastore, 1) := by decide +kernel
theorem dJ7_fill_d0a16_16 : decode cJ7_fill_d0a16 16 = .ok (.iinc 3 1, 3) := by decide +kernel
theorem dJ7_fill_d0a16_19 : decode cJ7_fill_d0a16 19 = .ok (.goto (-13), 3) := by decide +kernel
theorem dJ7_fill_d0a16_22 : decode cJ7_fill_d0a16 22 = .ok (.return_, 1) := by decide +kernel
theorem dJ7_fill_53178_0 : decode cJ7_fill_53178 0 = .ok (.iconst 0, 1) := by decide +kernel
theorem dJ7_fill_53178_1 : decode cJ7_fill_53178 1 = .ok (.istore_n 2, 1) := by decide +kernel
theorem dJ7_fill_53178_2 : decode cJ7_fill_53178 2 = .ok (.aload_n 0, 1) := by decide +kernel
theorem dJ7_fill_53178_3 : decode cJ7_fill_53178 3 = .ok (.arraylength, 1) := by decide +kernel
theorem dJ7_fill_53178_4 : decode cJ7_fill_53178 4 = .ok (.istore_n 3, 1) := by decide +kernel
theorem dJ7_fill_53178_5 : decode cJ7_fill_53178 5 = .ok (.iload_n 2, 1) := by decide +kernel
theorem dJ7_fill_53178_6 : decode cJ7_fill_53178 6 = .ok (.iload_n 3, 1) := by decide +kernel
theorem dJ7_fill_53178_7 : decode cJ7_fill_53178 7 = .ok (.if_icmp .ge 13, 3) := by decide +kernel
theorem dJ7_fill_53178_10 : decode cJ7_fill_53178 10 = .ok (.aload_n 0, 1) := by decide +kernel
theorem dJ7_fill_53178_11 : decode cJ7_fill_53178 11 = .ok (.iload_n 2, 1) := by decide +kernel
theorem dJ7_fill_53178_12 : decode cJ7_fill_53178 12 = .ok (.iload_n 1, 1) := by decide +kernel
theorem dJ7_fill_53178_13 : decode cJ7_fill_53178 13 = .ok (.iastore, 1) := by decide +kernel
theorem dJ7_fill_53178_14 : decode cJ7_fill_53178 14 = .ok (.iinc 2 1, 3) := by decide +kernel
theorem dJ7_fill_53178_17 : decode cJ7_fill_53178 17 = .ok (.goto (-12), 3) := by decide +kernel
theorem dJ7_fill_53178_20 : decode cJ7_fill_53178 20 = .ok (.return_, 1) := by decide +kernel
theorem dL_law_0 : decode cL_law 0 = .ok (.new 7, 3) := by decide +kernel
theorem dL_law_3 : decode cL_law 3 = .ok (.dup, 1) := by decide +kernel
theorem dL_law_4 : decode cL_law 4 = .ok (.invokespecial 9, 3) := by decide +kernel
theorem dL_law_7 : decode cL_law 7 = .ok (.astore_n 1, 1) := by decide +kernel
theorem dL_law_8 : decode cL_law 8 = .ok (.new 10, 3) := by decide +kernel
theorem dL_law_11 : decode cL_law 11 = .ok (.dup, 1) := by decide +kernel
theorem dL_law_12 : decode cL_law 12 = .ok (.invokespecial 12, 3) := by decide +kernel
theorem dL_law_15 : decode cL_law 15 = .ok (.astore_n 2, 1) := by decide +kernel
theorem dL_law_16 : decode cL_law 16 = .ok (.iconst 0, 1) := by decide +kernel
theorem dL_law_17 : decode cL_law 17 = .ok (.istore_n 3, 1) := by decide +kernel
theorem dL_law_18 : decode cL_law 18 = .ok (.iload_n 3, 1) := by decide +kernel
theorem dL_law_19 : decode cL_law 19 = .ok (.aload_n 0, 1) := by decide +kernel
theorem dL_law_20 : decode cL_law 20 = .ok (.arraylength, 1) := by decide +kernel
theorem dL_law_21 : decode cL_law 21 = .ok (.bipush 6, 2) := by decide +kernel
theorem dL_law_23 : decode cL_law 23 = .ok (.isub, 1) := by decide +kernel
theorem dL_law_24 : decode cL_law 24 = .ok (.if_icmp .gt 1135, 3) := by decide +kernel
theorem dL_law_27 : decode cL_law 27 = .ok (.aload_n 0, 1) := by decide +kernel
theorem dL_law_28 : decode cL_law 28 = .ok (.iload_n 3, 1) := by decide +kernel
theorem dL_law_29 : decode cL_law 29 = .ok (.iaload, 1) := by decide +kernel
theorem dL_law_30 : decode cL_law 30 = .ok (.bipush 31, 2) := by decide +kernel
theorem dL_law_32 : decode cL_law 32 = .ok (.iand, 1) := by decide +kernel
theorem dL_law_33 : decode cL_law 33 = .ok (.tableswitch 1120 0 31 #[143, 176, 209, 252, 265, 298, 311, 344, 393, 406, 440, 453, 476, 500, 523, 536, 559, 583, 636, 649, 662, 695, 738, 771, 805, 858, 901, 924, 977, 1020, 1083, 1106], 143) := by decide +kernel
theorem dL_law_176 : decode cL_law 176 = .ok (.aload_n 1, 1) := by decide +kernel
theorem dL_law_177 : decode cL_law 177 = .ok (.aload_n 0, 1) := by decide +kernel
theorem dL_law_178 : decode cL_law 178 = .ok (.iload_n 3, 1) := by decide +kernel
theorem dL_law_179 : decode cL_law 179 = .ok (.iconst 1, 1) := by decide +kernel
theorem dL_law_180 : decode cL_law 180 = .ok (.iadd, 1) := by decide +kernel
theorem dL_law_181 : decode cL_law 181 = .ok (.iaload, 1) := by decide +kernel
theorem dL_law_182 : decode cL_law 182 = .ok (.aload_n 0, 1) := by decide +kernel
theorem dL_law_183 : decode cL_law 183 = .ok (.iload_n 3, 1) := by decide +kernel
theorem dL_law_184 : decode cL_law 184 = .ok (.iconst 2, 1) := by decide +kernel
theorem dL_law_185 : decode cL_law 185 = .ok (.iadd, 1) := by decide +kernel
theorem dL_law_186 : decode cL_law 186 = .ok (.iaload, 1) := by decide +kernel
theorem dL_law_187 : decode cL_law 187 = .ok (.invokevirtual 13, 3) := by decide +kernel
theorem dL_law_190 : decode cL_law 190 = .ok (.aload_n 2, 1) := by decide +kernel
theorem dL_law_191 : decode cL_law 191 = .ok (.aload_n 0, 1) := by decide +kernel
theorem dL_law_192 : decode cL_law 192 = .ok (.iload_n 3, 1) := by decide +kernel
theorem dL_law_193 : decode cL_law 193 = .ok (.iconst 1, 1) := by decide +kernel
theorem dL_law_194 : decode cL_law 194 = .ok (.iadd, 1) := by decide +kernel
theorem dL_law_195 : decode cL_law 195 = .ok (.iaload, 1) := by decide +kernel
theorem dL_law_196 : decode cL_law 196 = .ok (.aload_n 0, 1) := by decide +kernel
theorem dL_law_197 : decode cL_law 197 = .ok (.iload_n 3, 1) := by decide +kernel
theorem dL_law_198 : decode cL_law 198 = .ok (.iconst 2, 1) := by decide +kernel
theorem dL_law_199 : decode cL_law 199 = .ok (.iadd, 1) := by decide +kernel
theorem dL_law_200 : decode cL_law 200 = .ok (.iaload, 1) := by decide +kernel
theorem dL_law_201 : decode cL_law 201 = .ok (.invokevirtual 17, 3) := by decide +kernel
theorem dL_law_204 : decode cL_law 204 = .ok (.if_icmp .eq 949, 3) := by decide +kernel
theorem dL_law_207 : decode cL_law 207 = .ok (.iconst 0, 1) := by decide +kernel
theorem dL_law_208 : decode cL_law 208 = .ok (.ireturn, 1) := by decide +kernel
theorem dL_law_209 : decode cL_law 209 = .ok (.aload_n 1, 1) := by decide +kernel
theorem dL_law_210 : decode cL_law 210 = .ok (.aload_n 0, 1) := by decide +kernel
theorem dL_law_211 : decode cL_law 211 = .ok (.iload_n 3, 1) := by decide +kernel
theorem dL_law_212 : decode cL_law 212 = .ok (.iconst 1, 1) := by decide +kernel
theorem dL_law_213 : decode cL_law 213 = .ok (.iadd, 1) := by decide +kernel
theorem dL_law_214 : decode cL_law 214 = .ok (.iaload, 1) := by decide +kernel
theorem dL_law_215 : decode cL_law 215 = .ok (.aload_n 0, 1) := by decide +kernel
theorem dL_law_216 : decode cL_law 216 = .ok (.iload_n 3, 1) := by decide +kernel
theorem dL_law_217 : decode cL_law 217 = .ok (.iconst 2, 1) := by decide +kernel
theorem dL_law_218 : decode cL_law 218 = .ok (.iadd, 1) := by decide +kernel
theorem dL_law_219 : decode cL_law 219 = .ok (.iaload, 1) := by decide +kernel
theorem dL_law_220 : decode cL_law 220 = .ok (.invokevirtual 18, 3) := by decide +kernel
theorem dL_law_223 : decode cL_law 223 = .ok (.aload_n 2, 1) := by decide +kernel
theorem dL_law_224 : decode cL_law 224 = .ok (.aload_n 0, 1) := by decide +kernel
theorem dL_law_225 : decode cL_law 225 = .ok (.iload_n 3, 1) := by decide +kernel
theorem dL_law_226 : decode cL_law 226 = .ok (.iconst 1, 1) := by decide +kernel
theorem dL_law_227 : decode cL_law 227 = .ok (.iadd, 1) := by decide +kernel
theorem dL_law_228 : decode cL_law 228 = .ok (.iaload, 1) := by decide +kernel
theorem dL_law_229 : decode cL_law 229 = .ok (.aload_n 0, 1) := by decide +kernel
theorem dL_law_230 : decode cL_law 230 = .ok (.iload_n 3, 1) := by decide +kernel
theorem dL_law_231 : decode cL_law 231 = .ok (.iconst 2, 1) := by decide +kernel
theorem dL_law_232 : decode cL_law 232 = .ok (.iadd, 1) := by decide +kernel
theorem dL_law_233 : decode cL_law 233 = .ok (.iaload, 1) := by decide +kernel
theorem dL_law_234 : decode cL_law 234 = .ok (.invokevirtual 21, 3) := by decide +kernel
theorem dL_law_237 : decode cL_law 237 = .ok (.if_icmp .eq 916, 3) := by decide +kernel
theorem dL_law_240 : decode cL_law 240 = .ok (.iconst 0, 1) := by decide +kernel
theorem dL_law_241 : decode cL_law 241 = .ok (.ireturn, 1) := by decide +kernel
theorem dL_law_242 : decode cL_law 242 = .ok (.aload_n 1, 1) := by decide +kernel
theorem dL_law_243 : decode cL_law 243 = .ok (.aload_n 0, 1) := by decide +kernel
theorem dL_law_244 : decode cL_law 244 = .ok (.iload_n 3, 1) := by decide +kernel
theorem dL_law_245 : decode cL_law 245 = .ok (.iconst 1, 1) := by decide +kernel
theorem dL_law_246 : decode cL_law 246 = .ok (.iadd, 1) := by decide +kernel
theorem dL_law_247 : decode cL_law 247 = .ok (.iaload, 1) := by decide +kernel
theorem dL_law_248 : decode cL_law 248 = .ok (.aload_n 0, 1) := by decide +kernel
theorem dL_law_249 : decode cL_law 249 = .ok (.iload_n 3, 1) := by decide +kernel
theorem dL_law_250 : decode cL_law 250 = .ok (.iconst 2, 1) := by decide +kernel
theorem dL_law_251 : decode cL_law 251 = .ok (.iadd, 1) := by decide +kernel
theorem dL_law_252 : decode cL_law 252 = .ok (.iaload, 1) := by decide +kernel
theorem dL_law_253 : decode cL_law 253 = .ok (.aload_n 0, 1) := by decide +kernel
theorem dL_law_254 : decode cL_law 254 = .ok (.iload_n 3, 1) := by decide +kernel
theorem dL_law_255 : decode cL_law 255 = .ok (.iconst 3, 1) := by decide +kernel
theorem dL_law_256 : decode cL_law 256 = .ok (.iadd, 1) := by decide +kernel
theorem dL_law_257 : decode cL_law 257 = .ok (.iaload, 1) := by decide +kernel
theorem dL_law_258 : decode cL_law 258 = .ok (.invokevirtual 22, 3) := by decide +kernel
theorem dL_law_261 : decode cL_law 261 = .ok (.aload_n 2, 1) := by decide +kernel
theorem dL_law_262 : decode cL_law 262 = .ok (.aload_n 0, 1) := by decide +kernel
theorem dL_law_263 : decode cL_law 263 = .ok (.iload_n 3, 1) := by decide +kernel
theorem dL_law_264 : decode cL_law 264 = .ok (.iconst 1, 1) := by decide +kernel
theorem dL_law_265 : decode cL_law 265 = .ok (.iadd, 1) := by decide +kernel
theorem dL_law_266 : decode cL_law 266 = .ok (.iaload, 1) := by decide +kernel
theorem dL_law_267 : decode cL_law 267 = .ok (.aload_n 0, 1) := by decide +kernel
theorem dL_law_268 : decode cL_law 268 = .ok (.iload_n 3, 1) := by decide +kernel
theorem dL_law_269 : decode cL_law 269 = .ok (.iconst 2, 1) := by decide +kernel
theorem dL_law_270 : decode cL_law 270 = .ok (.iadd, 1) := by decide +kernel
theorem dL_law_271 : decode cL_law 271 = .ok (.iaload, 1) := by decide +kernel
theorem dL_law_272 : decode cL_law 272 = .ok (.aload_n 0, 1) := by decide +kernel
theorem dL_law_273 : decode cL_law 273 = .ok (.iload_n 3, 1) := by decide +kernel
theorem dL_law_274 : decode cL_law 274 = .ok (.iconst 3, 1) := by decide +kernel
theorem dL_law_275 : decode cL_law 275 = .ok (.iadd, 1) := by decide +kernel
theorem dL_law_276 : decode cL_law 276 = .ok (.iaload, 1) := by decide +kernel
theorem dL_law_277 : decode cL_law 277 = .ok (.invokevirtual 26, 3) := by decide +kernel
theorem dL_law_280 : decode cL_law 280 = .ok (.if_icmp .eq 873, 3) := by decide +kernel
theorem dL_law_283 : decode cL_law 283 = .ok (.iconst 0, 1) := by decide +kernel
theorem dL_law_284 : decode cL_law 284 = .ok (.ireturn, 1) := by decide +kernel
theorem dL_law_285 : decode cL_law 285 = .ok (.aload_n 1, 1) := by decide +kernel
theorem dL_law_286 : decode cL_law 286 = .ok (.invokevirtual 27, 3) := by decide +kernel
theorem dL_law_289 : decode cL_law 289 = .ok (.aload_n 2, 1) := by decide +kernel
theorem dL_law_290 : decode cL_law 290 = .ok (.invokevirtual 31, 3) := by decide +kernel
theorem dL_law_293 : decode cL_law 293 = .ok (.if_icmp .eq 860, 3) := by decide +kernel
theorem dL_law_296 : decode cL_law 296 = .ok (.iconst 0, 1) := by decide +kernel
theorem dL_law_297 : decode cL_law 297 = .ok (.ireturn, 1) := by decide +kernel
theorem dL_law_298 : decode cL_law 298 = .ok (.aload_n 1, 1) := by decide +kernel
theorem dL_law_299 : decode cL_law 299 = .ok (.aload_n 0, 1) := by decide +kernel
theorem dL_law_300 : decode cL_law 300 = .ok (.iload_n 3, 1) := by decide +kernel
theorem dL_law_301 : decode cL_law 301 = .ok (.iconst 1, 1) := by decide +kernel
theorem dL_law_302 : decode cL_law 302 = .ok (.iadd, 1) := by decide +kernel
theorem dL_law_303 : decode cL_law 303 = .ok (.iaload, 1) := by decide +kernel
theorem dL_law_304 : decode cL_law 304 = .ok (.aload_n 0, 1) := by decide +kernel
theorem dL_law_305 : decode cL_law 305 = .ok (.iload_n 3, 1) := by decide +kernel
theorem dL_law_306 : decode cL_law 306 = .ok (.iconst 2, 1) := by decide +kernel
theorem dL_law_307 : decode cL_law 307 = .ok (.iadd, 1) := by decide +kernel
theorem dL_law_308 : decode cL_law 308 = .ok (.iaload, 1) := by decide +kernel
theorem dL_law_309 : decode cL_law 309 = .ok (.invokevirtual 32, 3) := by decide +kernel
theorem dL_law_312 : decode cL_law 312 = .ok (.aload_n 2, 1) := by decide +kernel
theorem dL_law_313 : decode cL_law 313 = .ok (.aload_n 0, 1) := by decide +kernel
theorem dL_law_314 : decode cL_law 314 = .ok (.iload_n 3, 1) := by decide +kernel
theorem dL_law_315 : decode cL_law 315 = .ok (.iconst 1, 1) := by decide +kernel
theorem dL_law_316 : decode cL_law 316 = .ok (.iadd, 1) := by decide +kernel
theorem dL_law_317 : decode cL_law 317 = .ok (.iaload, 1) := by decide +kernel
theorem dL_law_318 : decode cL_law 318 = .ok (.aload_n 0, 1) := by decide +kernel
theorem dL_law_319 : decode cL_law 319 = .ok (.iload_n 3, 1) := by decide +kernel
theorem dL_law_320 : decode cL_law 320 = .ok (.iconst 2, 1) := by decide +kernel
theorem dL_law_321 : decode cL_law 321 = .ok (.iadd, 1) := by decide +kernel
theorem dL_law_322 : decode cL_law 322 = .ok (.iaload, 1) := by decide +kernel
theorem dL_law_323 : decode cL_law 323 = .ok (.invokevirtual 35, 3) := by decide +kernel
theorem dL_law_326 : decode cL_law 326 = .ok (.if_icmp .eq 827, 3) := by decide +kernel
theorem dL_law_329 : decode cL_law 329 = .ok (.iconst 0, 1) := by decide +kernel
theorem dL_law_330 : decode cL_law 330 = .ok (.ireturn, 1) := by decide +kernel
theorem dL_law_331 : decode cL_law 331 = .ok (.aload_n 1, 1) := by decide +kernel
theorem dL_law_332 : decode cL_law 332 = .ok (.invokevirtual 36, 3) := by decide +kernel
theorem dL_law_335 : decode cL_law 335 = .ok (.aload_n 2, 1) := by decide +kernel
theorem dL_law_336 : decode cL_law 336 = .ok (.invokevirtual 39, 3) := by decide +kernel
theorem dL_law_339 : decode cL_law 339 = .ok (.if_icmp .eq 814, 3) := by decide +kernel
theorem dL_law_342 : decode cL_law 342 = .ok (.iconst 0, 1) := by decide +kernel
theorem dL_law_343 : decode cL_law 343 = .ok (.ireturn, 1) := by decide +kernel
theorem dL_law_344 : decode cL_law 344 = .ok (.aload_n 1, 1) := by decide +kernel
theorem dL_law_345 : decode cL_law 345 = .ok (.aload_n 0, 1) := by decide +kernel
theorem dL_law_346 : decode cL_law 346 = .ok (.iload_n 3, 1) := by decide +kernel
theorem dL_law_347 : decode cL_law 347 = .ok (.iconst 1, 1) := by decide +kernel
theorem dL_law_348 : decode cL_law 348 = .ok (.iadd, 1) := by decide +kernel
theorem dL_law_349 : decode cL_law 349 = .ok (.iaload, 1) := by decide +kernel
theorem dL_law_350 : decode cL_law 350 = .ok (.aload_n 0, 1) := by decide +kernel
theorem dL_law_351 : decode cL_law 351 = .ok (.iload_n 3, 1) := by decide +kernel
theorem dL_law_352 : decode cL_law 352 = .ok (.iconst 2, 1) := by decide +kernel
theorem dL_law_353 : decode cL_law 353 = .ok (.iadd, 1) := by decide +kernel
theorem dL_law_354 : decode cL_law 354 = .ok (.iaload, 1) := by decide +kernel
theorem dL_law_355 : decode cL_law 355 = .ok (.invokevirtual 40, 3) := by decide +kernel
theorem dL_law_358 : decode cL_law 358 = .ok (.aload_n 2, 1) := by decide +kernel
theorem dL_law_359 : decode cL_law 359 = .ok (.aload_n 0, 1) := by decide +kernel
theorem dL_law_360 : decode cL_law 360 = .ok (.iload_n 3, 1) := by decide +kernel
theorem dL_law_361 : decode cL_law 361 = .ok (.iconst 1, 1) := by decide +kernel
theorem dL_law_362 : decode cL_law 362 = .ok (.iadd, 1) := by decide +kernel
theorem dL_law_363 : decode cL_law 363 = .ok (.iaload, 1) := by decide +kernel
theorem dL_law_364 : decode cL_law 364 = .ok (.aload_n 0, 1) := by decide +kernel
theorem dL_law_365 : decode cL_law 365 = .ok (.iload_n 3, 1) := by decide +kernel
theorem dL_law_366 : decode cL_law 366 = .ok (.iconst 2, 1) := by decide +kernel
theorem dL_law_367 : decode cL_law 367 = .ok (.iadd, 1) := by decide +kernel
theorem dL_law_368 : decode cL_law 368 = .ok (.iaload, 1) := by decide +kernel
theorem dL_law_369 : decode cL_law 369 = .ok (.invokevirtual 43, 3) := by decide +kernel
theorem dL_law_372 : decode cL_law 372 = .ok (.if_icmp .eq 781, 3) := by decide +kernel
theorem dL_law_375 : decode cL_law 375 = .ok (.iconst 0, 1) := by decide +kernel
theorem dL_law_376 : decode cL_law 376 = .ok (.ireturn, 1) := by decide +kernel
theorem dL_law_377 : decode cL_law 377 = .ok (.aload_n 1, 1) := by decide +kernel
theorem dL_law_378 : decode cL_law 378 = .ok (.aload_n 0, 1) := by decide +kernel
theorem dL_law_379 : decode cL_law 379 = .ok (.iload_n 3, 1) := by decide +kernel
theorem dL_law_380 : decode cL_law 380 = .ok (.iconst 1, 1) := by decide +kernel
theorem dL_law_381 : decode cL_law 381 = .ok (.iadd, 1) := by decide +kernel
theorem dL_law_382 : decode cL_law 382 = .ok (.iaload, 1) := by decide +kernel
theorem dL_law_383 : decode cL_law 383 = .ok (.aload_n 0, 1) := by decide +kernel
theorem dL_law_384 : decode cL_law 384 = .ok (.iload_n 3, 1) := by decide +kernel
theorem dL_law_385 : decode cL_law 385 = .ok (.iconst 2, 1) := by decide +kernel
theorem dL_law_386 : decode cL_law 386 = .ok (.iadd, 1) := by decide +kernel
theorem dL_law_387 : decode cL_law 387 = .ok (.iaload, 1) := by decide +kernel
theorem dL_law_388 : decode cL_law 388 = .ok (.ifCond .eq 7, 3) := by decide +kernel
theorem dL_law_391 : decode cL_law 391 = .ok (.iconst 1, 1) := by decide +kernel
theorem dL_law_392 : decode cL_law 392 = .ok (.goto 4, 3) := by decide +kernel
theorem dL_law_395 : decode cL_law 395 = .ok (.iconst 0, 1) := by decide +kernel
theorem dL_law_396 : decode cL_law 396 = .ok (.invokevirtual 44, 3) := by decide +kernel
theorem dL_law_399 : decode cL_law 399 = .ok (.aload_n 2, 1) := by decide +kernel
theorem dL_law_400 : decode cL_law 400 = .ok (.aload_n 0, 1) := by decide +kernel
theorem dL_law_401 : decode cL_law 401 = .ok (.iload_n 3, 1) := by decide +kernel
theorem dL_law_402 : decode cL_law 402 = .ok (.iconst 1, 1) := by decide +kernel
theorem dL_law_403 : decode cL_law 403 = .ok (.iadd, 1) := by decide +kernel
theorem dL_law_404 : decode cL_law 404 = .ok (.iaload, 1) := by decide +kernel
theorem dL_law_405 : decode cL_law 405 = .ok (.aload_n 0, 1) := by decide +kernel
theorem dL_law_406 : decode cL_law 406 = .ok (.iload_n 3, 1) := by decide +kernel
theorem dL_law_407 : decode cL_law 407 = .ok (.iconst 2, 1) := by decide +kernel
theorem dL_law_408 : decode cL_law 408 = .ok (.iadd, 1) := by decide +kernel
theorem dL_law_409 : decode cL_law 409 = .ok (.iaload, 1) := by decide +kernel
theorem dL_law_410 : decode cL_law 410 = .ok (.ifCond .eq 7, 3) := by decide +kernel
theorem dL_law_413 : decode cL_law 413 = .ok (.iconst 1, 1) := by decide +kernel
theorem dL_law_414 : decode cL_law 414 = .ok (.goto 4, 3) := by decide +kernel
theorem dL_law_417 : decode cL_law 417 = .ok (.iconst 0, 1) := by decide +kernel
theorem dL_law_418 : decode cL_law 418 = .ok (.invokevirtual 48, 3) := by decide +kernel
theorem dL_law_421 : decode cL_law 421 = .ok (.if_icmp .eq 732, 3) := by decide +kernel
theorem dL_law_424 : decode cL_law 424 = .ok (.iconst 0, 1) := by decide +kernel
theorem dL_law_425 : decode cL_law 425 = .ok (.ireturn, 1) := by decide +kernel
theorem dL_law_426 : decode cL_law 426 = .ok (.aload_n 1, 1) := by decide +kernel
theorem dL_law_427 : decode cL_law 427 = .ok (.invokevirtual 49, 3) := by decide +kernel
theorem dL_law_430 : decode cL_law 430 = .ok (.aload_n 2, 1) := by decide +kernel
theorem dL_law_431 : decode cL_law 431 = .ok (.invokevirtual 52, 3) := by decide +kernel
theorem dL_law_434 : decode cL_law 434 = .ok (.if_icmp .eq 719, 3) := by decide +kernel
theorem dL_law_437 : decode cL_law 437 = .ok (.iconst 0, 1) := by decide +kernel
theorem dL_law_438 : decode cL_law 438 = .ok (.ireturn, 1) := by decide +kernel
theorem dL_law_439 : decode cL_law 439 = .ok (.aload_n 1, 1) := by decide +kernel
theorem dL_law_440 : decode cL_law 440 = .ok (.aload_n 0, 1) := by decide +kernel
theorem dL_law_441 : decode cL_law 441 = .ok (.iload_n 3, 1) := by decide +kernel
theorem dL_law_442 : decode cL_law 442 = .ok (.iconst 1, 1) := by decide +kernel
theorem dL_law_443 : decode cL_law 443 = .ok (.iadd, 1) := by decide +kernel
theorem dL_law_444 : decode cL_law 444 = .ok (.iaload, 1) := by decide +kernel
theorem dL_law_445 : decode cL_law 445 = .ok (.aload_n 0, 1) := by decide +kernel
theorem dL_law_446 : decode cL_law 446 = .ok (.iload_n 3, 1) := by decide +kernel
theorem dL_law_447 : decode cL_law 447 = .ok (.iconst 2, 1) := by decide +kernel
theorem dL_law_448 : decode cL_law 448 = .ok (.iadd, 1) := by decide +kernel
theorem dL_law_449 : decode cL_law 449 = .ok (.iaload, 1) := by decide +kernel
theorem dL_law_450 : decode cL_law 450 = .ok (.invokevirtual 53, 3) := by decide +kernel
theorem dL_law_453 : decode cL_law 453 = .ok (.aload_n 2, 1) := by decide +kernel
theorem dL_law_454 : decode cL_law 454 = .ok (.aload_n 0, 1) := by decide +kernel
theorem dL_law_455 : decode cL_law 455 = .ok (.iload_n 3, 1) := by decide +kernel
theorem dL_law_456 : decode cL_law 456 = .ok (.iconst 1, 1) := by decide +kernel
theorem dL_law_457 : decode cL_law 457 = .ok (.iadd, 1) := by decide +kernel
theorem dL_law_458 : decode cL_law 458 = .ok (.iaload, 1) := by decide +kernel
theorem dL_law_459 : decode cL_law 459 = .ok (.aload_n 0, 1) := by decide +kernel
theorem dL_law_460 : decode cL_law 460 = .ok (.iload_n 3, 1) := by decide +kernel
theorem dL_law_461 : decode cL_law 461 = .ok (.iconst 2, 1) := by decide +kernel
theorem dL_law_462 : decode cL_law 462 = .ok (.iadd, 1) := by decide +kernel
theorem dL_law_463 : decode cL_law 463 = .ok (.iaload, 1) := by decide +kernel
theorem dL_law_464 : decode cL_law 464 = .ok (.invokevirtual 57, 3) := by decide +kernel
theorem dL_law_467 : decode cL_law 467 = .ok (.lcmp, 1) := by decide +kernel
theorem dL_law_468 : decode cL_law 468 = .ok (.ifCond .eq 685, 3) := by decide +kernel
theorem dL_law_471 : decode cL_law 471 = .ok (.iconst 0, 1) := by decide +kernel
theorem dL_law_472 : decode cL_law 472 = .ok (.ireturn, 1) := by decide +kernel
theorem dL_law_473 : decode cL_law 473 = .ok (.aload_n 1, 1) := by decide +kernel
theorem dL_law_474 : decode cL_law 474 = .ok (.invokevirtual 58, 3) := by decide +kernel
theorem dL_law_477 : decode cL_law 477 = .ok (.aload_n 2, 1) := by decide +kernel
theorem dL_law_478 : decode cL_law 478 = .ok (.invokevirtual 61, 3) := by decide +kernel
theorem dL_law_481 : decode cL_law 481 = .ok (.if_icmp .eq 672, 3) := by decide +kernel
theorem dL_law_484 : decode cL_law 484 = .ok (.iconst 0, 1) := by decide +kernel
theorem dL_law_485 : decode cL_law 485 = .ok (.ireturn, 1) := by decide +kernel
theorem dL_law_486 : decode cL_law 486 = .ok (.aload_n 1, 1) := by decide +kernel
theorem dL_law_487 : decode cL_law 487 = .ok (.aload_n 0, 1) := by decide +kernel
theorem dL_law_488 : decode cL_law 488 = .ok (.iload_n 3, 1) := by decide +kernel
theorem dL_law_489 : decode cL_law 489 = .ok (.iconst 1, 1) := by decide +kernel
theorem dL_law_490 : decode cL_law 490 = .ok (.iadd, 1) := by decide +kernel
theorem dL_law_491 : decode cL_law 491 = .ok (.iaload, 1) := by decide +kernel
theorem dL_law_492 : decode cL_law 492 = .ok (.invokevirtual 62, 3) := by decide +kernel
theorem dL_law_495 : decode cL_law 495 = .ok (.aload_n 2, 1) := by decide +kernel
theorem dL_law_496 : decode cL_law 496 = .ok (.aload_n 0, 1) := by decide +kernel
theorem dL_law_497 : decode cL_law 497 = .ok (.iload_n 3, 1) := by decide +kernel
theorem dL_law_498 : decode cL_law 498 = .ok (.iconst 1, 1) := by decide +kernel
theorem dL_law_499 : decode cL_law 499 = .ok (.iadd, 1) := by decide +kernel
theorem dL_law_500 : decode cL_law 500 = .ok (.iaload, 1) := by decide +kernel
theorem dL_law_501 : decode cL_law 501 = .ok (.invokevirtual 66, 3) := by decide +kernel
theorem dL_law_504 : decode cL_law 504 = .ok (.if_icmp .eq 649, 3) := by decide +kernel
theorem dL_law_507 : decode cL_law 507 = .ok (.iconst 0, 1) := by decide +kernel
theorem dL_law_508 : decode cL_law 508 = .ok (.ireturn, 1) := by decide +kernel
theorem dL_law_509 : decode cL_law 509 = .ok (.aload_n 1, 1) := by decide +kernel
theorem dL_law_510 : decode cL_law 510 = .ok (.aload_n 0, 1) := by decide +kernel
theorem dL_law_511 : decode cL_law 511 = .ok (.iload_n 3, 1) := by decide +kernel
theorem dL_law_512 : decode cL_law 512 = .ok (.iconst 1, 1) := by decide +kernel
theorem dL_law_513 : decode cL_law 513 = .ok (.iadd, 1) := by decide +kernel
theorem dL_law_514 : decode cL_law 514 = .ok (.iaload, 1) := by decide +kernel
theorem dL_law_515 : decode cL_law 515 = .ok (.invokevirtual 67, 3) := by decide +kernel
theorem dL_law_518 : decode cL_law 518 = .ok (.aload_n 2, 1) := by decide +kernel
theorem dL_law_519 : decode cL_law 519 = .ok (.aload_n 0, 1) := by decide +kernel
theorem dL_law_520 : decode cL_law 520 = .ok (.iload_n 3, 1) := by decide +kernel
theorem dL_law_521 : decode cL_law 521 = .ok (.iconst 1, 1) := by decide +kernel
theorem dL_law_522 : decode cL_law 522 = .ok (.iadd, 1) := by decide +kernel
theorem dL_law_523 : decode cL_law 523 = .ok (.iaload, 1) := by decide +kernel
theorem dL_law_524 : decode cL_law 524 = .ok (.invokevirtual 71, 3) := by decide +kernel
theorem dL_law_527 : decode cL_law 527 = .ok (.lcmp, 1) := by decide +kernel
theorem dL_law_528 : decode cL_law 528 = .ok (.ifCond .eq 625, 3) := by decide +kernel
theorem dL_law_531 : decode cL_law 531 = .ok (.iconst 0, 1) := by decide +kernel
theorem dL_law_532 : decode cL_law 532 = .ok (.ireturn, 1) := by decide +kernel
theorem dL_law_533 : decode cL_law 533 = .ok (.aload_n 1, 1) := by decide +kernel
theorem dL_law_534 : decode cL_law 534 = .ok (.aload_n 0, 1) := by decide +kernel
theorem dL_law_535 : decode cL_law 535 = .ok (.iload_n 3, 1) := by decide +kernel
theorem dL_law_536 : decode cL_law 536 = .ok (.iconst 1, 1) := by decide +kernel
theorem dL_law_537 : decode cL_law 537 = .ok (.iadd, 1) := by decide +kernel
theorem dL_law_538 : decode cL_law 538 = .ok (.iaload, 1) := by decide +kernel
theorem dL_law_539 : decode cL_law 539 = .ok (.invokevirtual 72, 3) := by decide +kernel
theorem dL_law_542 : decode cL_law 542 = .ok (.aload_n 2, 1) := by decide +kernel
theorem dL_law_543 : decode cL_law 543 = .ok (.aload_n 0, 1) := by decide +kernel
theorem dL_law_544 : decode cL_law 544 = .ok (.iload_n 3, 1) := by decide +kernel
theorem dL_law_545 : decode cL_law 545 = .ok (.iconst 1, 1) := by decide +kernel
theorem dL_law_546 : decode cL_law 546 = .ok (.iadd, 1) := by decide +kernel
theorem dL_law_547 : decode cL_law 547 = .ok (.iaload, 1) := by decide +kernel
theorem dL_law_548 : decode cL_law 548 = .ok (.invokevirtual 75, 3) := by decide +kernel
theorem dL_law_551 : decode cL_law 551 = .ok (.if_icmp .eq 602, 3) := by decide +kernel
theorem dL_law_554 : decode cL_law 554 = .ok (.iconst 0, 1) := by decide +kernel
theorem dL_law_555 : decode cL_law 555 = .ok (.ireturn, 1) := by decide +kernel
theorem dL_law_556 : decode cL_law 556 = .ok (.aload_n 1, 1) := by decide +kernel
theorem dL_law_557 : decode cL_law 557 = .ok (.invokevirtual 76, 3) := by decide +kernel
theorem dL_law_560 : decode cL_law 560 = .ok (.aload_n 2, 1) := by decide +kernel
theorem dL_law_561 : decode cL_law 561 = .ok (.invokevirtual 79, 3) := by decide +kernel
theorem dL_law_564 : decode cL_law 564 = .ok (.if_icmp .eq 589, 3) := by decide +kernel
theorem dL_law_567 : decode cL_law 567 = .ok (.iconst 0, 1) := by decide +kernel
theorem dL_law_568 : decode cL_law 568 = .ok (.ireturn, 1) := by decide +kernel
theorem dL_law_569 : decode cL_law 569 = .ok (.aload_n 1, 1) := by decide +kernel
theorem dL_law_570 : decode cL_law 570 = .ok (.aload_n 0, 1) := by decide +kernel
theorem dL_law_571 : decode cL_law 571 = .ok (.iload_n 3, 1) := by decide +kernel
theorem dL_law_572 : decode cL_law 572 = .ok (.iconst 1, 1) := by decide +kernel
theorem dL_law_573 : decode cL_law 573 = .ok (.iadd, 1) := by decide +kernel
theorem dL_law_574 : decode cL_law 574 = .ok (.iaload, 1) := by decide +kernel
theorem dL_law_575 : decode cL_law 575 = .ok (.invokevirtual 80, 3) := by decide +kernel
theorem dL_law_578 : decode cL_law 578 = .ok (.aload_n 2, 1) := by decide +kernel
theorem dL_law_579 : decode cL_law 579 = .ok (.aload_n 0, 1) := by decide +kernel
theorem dL_law_580 : decode cL_law 580 = .ok (.iload_n 3, 1) := by decide +kernel
theorem dL_law_581 : decode cL_law 581 = .ok (.iconst 1, 1) := by decide +kernel
theorem dL_law_582 : decode cL_law 582 = .ok (.iadd, 1) := by decide +kernel
theorem dL_law_583 : decode cL_law 583 = .ok (.iaload, 1) := by decide +kernel
theorem dL_law_584 : decode cL_law 584 = .ok (.invokevirtual 83, 3) := by decide +kernel
theorem dL_law_587 : decode cL_law 587 = .ok (.if_icmp .eq 566, 3) := by decide +kernel
theorem dL_law_590 : decode cL_law 590 = .ok (.iconst 0, 1) := by decide +kernel
theorem dL_law_591 : decode cL_law 591 = .ok (.ireturn, 1) := by decide +kernel
theorem dL_law_592 : decode cL_law 592 = .ok (.aload_n 1, 1) := by decide +kernel
theorem dL_law_593 : decode cL_law 593 = .ok (.aload_n 0, 1) := by decide +kernel
theorem dL_law_594 : decode cL_law 594 = .ok (.iload_n 3, 1) := by decide +kernel
theorem dL_law_595 : decode cL_law 595 = .ok (.iconst 1, 1) := by decide +kernel
theorem dL_law_596 : decode cL_law 596 = .ok (.iadd, 1) := by decide +kernel
theorem dL_law_597 : decode cL_law 597 = .ok (.iaload, 1) := by decide +kernel
theorem dL_law_598 : decode cL_law 598 = .ok (.invokevirtual 84, 3) := by decide +kernel
theorem dL_law_601 : decode cL_law 601 = .ok (.aload_n 2, 1) := by decide +kernel
theorem dL_law_602 : decode cL_law 602 = .ok (.aload_n 0, 1) := by decide +kernel
theorem dL_law_603 : decode cL_law 603 = .ok (.iload_n 3, 1) := by decide +kernel
theorem dL_law_604 : decode cL_law 604 = .ok (.iconst 1, 1) := by decide +kernel
theorem dL_law_605 : decode cL_law 605 = .ok (.iadd, 1) := by decide +kernel
theorem dL_law_606 : decode cL_law 606 = .ok (.iaload, 1) := by decide +kernel
theorem dL_law_607 : decode cL_law 607 = .ok (.invokevirtual 87, 3) := by decide +kernel
theorem dL_law_610 : decode cL_law 610 = .ok (.lcmp, 1) := by decide +kernel
theorem dL_law_611 : decode cL_law 611 = .ok (.ifCond .eq 542, 3) := by decide +kernel
theorem dL_law_614 : decode cL_law 614 = .ok (.iconst 0, 1) := by decide +kernel
theorem dL_law_615 : decode cL_law 615 = .ok (.ireturn, 1) := by decide +kernel
theorem dL_law_616 : decode cL_law 616 = .ok (.aload_n 1, 1) := by decide +kernel
theorem dL_law_617 : decode cL_law 617 = .ok (.aload_n 0, 1) := by decide +kernel
theorem dL_law_618 : decode cL_law 618 = .ok (.iload_n 3, 1) := by decide +kernel
theorem dL_law_619 : decode cL_law 619 = .ok (.iconst 1, 1) := by decide +kernel
theorem dL_law_620 : decode cL_law 620 = .ok (.iadd, 1) := by decide +kernel
theorem dL_law_621 : decode cL_law 621 = .ok (.iaload, 1) := by decide +kernel
theorem dL_law_622 : decode cL_law 622 = .ok (.aload_n 0, 1) := by decide +kernel
theorem dL_law_623 : decode cL_law 623 = .ok (.iload_n 3, 1) := by decide +kernel
theorem dL_law_624 : decode cL_law 624 = .ok (.iconst 2, 1) := by decide +kernel
theorem dL_law_625 : decode cL_law 625 = .ok (.iadd, 1) := by decide +kernel
theorem dL_law_626 : decode cL_law 626 = .ok (.iaload, 1) := by decide +kernel
theorem dL_law_627 : decode cL_law 627 = .ok (.aload_n 0, 1) := by decide +kernel
theorem dL_law_628 : decode cL_law 628 = .ok (.iload_n 3, 1) := by decide +kernel
theorem dL_law_629 : decode cL_law 629 = .ok (.iconst 3, 1) := by decide +kernel
theorem dL_law_630 : decode cL_law 630 = .ok (.iadd, 1) := by decide +kernel
theorem dL_law_631 : decode cL_law 631 = .ok (.iaload, 1) := by decide +kernel
theorem dL_law_632 : decode cL_law 632 = .ok (.aload_n 0, 1) := by decide +kernel
theorem dL_law_633 : decode cL_law 633 = .ok (.iload_n 3, 1) := by decide +kernel
theorem dL_law_634 : decode cL_law 634 = .ok (.iconst 4, 1) := by decide +kernel
theorem dL_law_635 : decode cL_law 635 = .ok (.iadd, 1) := by decide +kernel
theorem dL_law_636 : decode cL_law 636 = .ok (.iaload, 1) := by decide +kernel
theorem dL_law_637 : decode cL_law 637 = .ok (.invokevirtual 88, 3) := by decide +kernel
theorem dL_law_640 : decode cL_law 640 = .ok (.aload_n 2, 1) := by decide +kernel
theorem dL_law_641 : decode cL_law 641 = .ok (.aload_n 0, 1) := by decide +kernel
theorem dL_law_642 : decode cL_law 642 = .ok (.iload_n 3, 1) := by decide +kernel
theorem dL_law_643 : decode cL_law 643 = .ok (.iconst 1, 1) := by decide +kernel
theorem dL_law_644 : decode cL_law 644 = .ok (.iadd, 1) := by decide +kernel
theorem dL_law_645 : decode cL_law 645 = .ok (.iaload, 1) := by decide +kernel
theorem dL_law_646 : decode cL_law 646 = .ok (.aload_n 0, 1) := by decide +kernel
theorem dL_law_647 : decode cL_law 647 = .ok (.iload_n 3, 1) := by decide +kernel
theorem dL_law_648 : decode cL_law 648 = .ok (.iconst 2, 1) := by decide +kernel
theorem dL_law_649 : decode cL_law 649 = .ok (.iadd, 1) := by decide +kernel
theorem dL_law_650 : decode cL_law 650 = .ok (.iaload, 1) := by decide +kernel
theorem dL_law_651 : decode cL_law 651 = .ok (.aload_n 0, 1) := by decide +kernel
theorem dL_law_652 : decode cL_law 652 = .ok (.iload_n 3, 1) := by decide +kernel
theorem dL_law_653 : decode cL_law 653 = .ok (.iconst 3, 1) := by decide +kernel
theorem dL_law_654 : decode cL_law 654 = .ok (.iadd, 1) := by decide +kernel
theorem dL_law_655 : decode cL_law 655 = .ok (.iaload, 1) := by decide +kernel
theorem dL_law_656 : decode cL_law 656 = .ok (.aload_n 0, 1) := by decide +kernel
theorem dL_law_657 : decode cL_law 657 = .ok (.iload_n 3, 1) := by decide +kernel
theorem dL_law_658 : decode cL_law 658 = .ok (.iconst 4, 1) := by decide +kernel
theorem dL_law_659 : decode cL_law 659 = .ok (.iadd, 1) := by decide +kernel
theorem dL_law_660 : decode cL_law 660 = .ok (.iaload, 1) := by decide +kernel
theorem dL_law_661 : decode cL_law 661 = .ok (.invokevirtual 92, 3) := by decide +kernel
theorem dL_law_664 : decode cL_law 664 = .ok (.if_icmp .eq 489, 3) := by decide +kernel
theorem dL_law_667 : decode cL_law 667 = .ok (.iconst 0, 1) := by decide +kernel
theorem dL_law_668 : decode cL_law 668 = .ok (.ireturn, 1) := by decide +kernel
theorem dL_law_669 : decode cL_law 669 = .ok (.aload_n 1, 1) := by decide +kernel
theorem dL_law_670 : decode cL_law 670 = .ok (.invokevirtual 93, 3) := by decide +kernel
theorem dL_law_673 : decode cL_law 673 = .ok (.aload_n 2, 1) := by decide +kernel
theorem dL_law_674 : decode cL_law 674 = .ok (.invokevirtual 96, 3) := by decide +kernel
theorem dL_law_677 : decode cL_law 677 = .ok (.if_icmp .eq 476, 3) := by decide +kernel
theorem dL_law_680 : decode cL_law 680 = .ok (.iconst 0, 1) := by decide +kernel
theorem dL_law_681 : decode cL_law 681 = .ok (.ireturn, 1) := by decide +kernel
theorem dL_law_682 : decode cL_law 682 = .ok (.aload_n 1, 1) := by decide +kernel
theorem dL_law_683 : decode cL_law 683 = .ok (.invokevirtual 97, 3) := by decide +kernel
theorem dL_law_686 : decode cL_law 686 = .ok (.aload_n 2, 1) := by decide +kernel
theorem dL_law_687 : decode cL_law 687 = .ok (.invokevirtual 100, 3) := by decide +kernel
theorem dL_law_690 : decode cL_law 690 = .ok (.if_icmp .eq 463, 3) := by decide +kernel
theorem dL_law_693 : decode cL_law 693 = .ok (.iconst 0, 1) := by decide +kernel
theorem dL_law_694 : decode cL_law 694 = .ok (.ireturn, 1) := by decide +kernel
theorem dL_law_695 : decode cL_law 695 = .ok (.aload_n 1, 1) := by decide +kernel
theorem dL_law_696 : decode cL_law 696 = .ok (.aload_n 0, 1) := by decide +kernel
theorem dL_law_697 : decode cL_law 697 = .ok (.iload_n 3, 1) := by decide +kernel
theorem dL_law_698 : decode cL_law 698 = .ok (.iconst 1, 1) := by decide +kernel
theorem dL_law_699 : decode cL_law 699 = .ok (.iadd, 1) := by decide +kernel
theorem dL_law_700 : decode cL_law 700 = .ok (.iaload, 1) := by decide +kernel
theorem dL_law_701 : decode cL_law 701 = .ok (.aload_n 0, 1) := by decide +kernel
theorem dL_law_702 : decode cL_law 702 = .ok (.iload_n 3, 1) := by decide +kernel
theorem dL_law_703 : decode cL_law 703 = .ok (.iconst 2, 1) := by decide +kernel
theorem dL_law_704 : decode cL_law 704 = .ok (.iadd, 1) := by decide +kernel
theorem dL_law_705 : decode cL_law 705 = .ok (.iaload, 1) := by decide +kernel
theorem dL_law_706 : decode cL_law 706 = .ok (.invokevirtual 101, 3) := by decide +kernel
theorem dL_law_709 : decode cL_law 709 = .ok (.aload_n 2, 1) := by decide +kernel
theorem dL_law_710 : decode cL_law 710 = .ok (.aload_n 0, 1) := by decide +kernel
theorem dL_law_711 : decode cL_law 711 = .ok (.iload_n 3, 1) := by decide +kernel
theorem dL_law_712 : decode cL_law 712 = .ok (.iconst 1, 1) := by decide +kernel
theorem dL_law_713 : decode cL_law 713 = .ok (.iadd, 1) := by decide +kernel
theorem dL_law_714 : decode cL_law 714 = .ok (.iaload, 1) := by decide +kernel
theorem dL_law_715 : decode cL_law 715 = .ok (.aload_n 0, 1) := by decide +kernel
theorem dL_law_716 : decode cL_law 716 = .ok (.iload_n 3, 1) := by decide +kernel
theorem dL_law_717 : decode cL_law 717 = .ok (.iconst 2, 1) := by decide +kernel
theorem dL_law_718 : decode cL_law 718 = .ok (.iadd, 1) := by decide +kernel
theorem dL_law_719 : decode cL_law 719 = .ok (.iaload, 1) := by decide +kernel
theorem dL_law_720 : decode cL_law 720 = .ok (.invokevirtual 104, 3) := by decide +kernel
theorem dL_law_723 : decode cL_law 723 = .ok (.if_icmp .eq 430, 3) := by decide +kernel
theorem dL_law_726 : decode cL_law 726 = .ok (.iconst 0, 1) := by decide +kernel
theorem dL_law_727 : decode cL_law 727 = .ok (.ireturn, 1) := by decide +kernel
theorem dL_law_728 : decode cL_law 728 = .ok (.aload_n 1, 1) := by decide +kernel
theorem dL_law_729 : decode cL_law 729 = .ok (.aload_n 0, 1) := by decide +kernel
theorem dL_law_730 : decode cL_law 730 = .ok (.iload_n 3, 1) := by decide +kernel
theorem dL_law_731 : decode cL_law 731 = .ok (.iconst 1, 1) := by decide +kernel
theorem dL_law_732 : decode cL_law 732 = .ok (.iadd, 1) := by decide +kernel
theorem dL_law_733 : decode cL_law 733 = .ok (.iaload, 1) := by decide +kernel
theorem dL_law_734 : decode cL_law 734 = .ok (.aload_n 0, 1) := by decide +kernel
theorem dL_law_735 : decode cL_law 735 = .ok (.iload_n 3, 1) := by decide +kernel
theorem dL_law_736 : decode cL_law 736 = .ok (.iconst 2, 1) := by decide +kernel
theorem dL_law_737 : decode cL_law 737 = .ok (.iadd, 1) := by decide +kernel
theorem dL_law_738 : decode cL_law 738 = .ok (.iaload, 1) := by decide +kernel
theorem dL_law_739 : decode cL_law 739 = .ok (.aload_n 0, 1) := by decide +kernel
theorem dL_law_740 : decode cL_law 740 = .ok (.iload_n 3, 1) := by decide +kernel
theorem dL_law_741 : decode cL_law 741 = .ok (.iconst 3, 1) := by decide +kernel
theorem dL_law_742 : decode cL_law 742 = .ok (.iadd, 1) := by decide +kernel
theorem dL_law_743 : decode cL_law 743 = .ok (.iaload, 1) := by decide +kernel
theorem dL_law_744 : decode cL_law 744 = .ok (.invokevirtual 105, 3) := by decide +kernel
theorem dL_law_747 : decode cL_law 747 = .ok (.aload_n 2, 1) := by decide +kernel
theorem dL_law_748 : decode cL_law 748 = .ok (.aload_n 0, 1) := by decide +kernel
theorem dL_law_749 : decode cL_law 749 = .ok (.iload_n 3, 1) := by decide +kernel
theorem dL_law_750 : decode cL_law 750 = .ok (.iconst 1, 1) := by decide +kernel
theorem dL_law_751 : decode cL_law 751 = .ok (.iadd, 1) := by decide +kernel
theorem dL_law_752 : decode cL_law 752 = .ok (.iaload, 1) := by decide +kernel
theorem dL_law_753 : decode cL_law 753 = .ok (.aload_n 0, 1) := by decide +kernel
theorem dL_law_754 : decode cL_law 754 = .ok (.iload_n 3, 1) := by decide +kernel
theorem dL_law_755 : decode cL_law 755 = .ok (.iconst 2, 1) := by decide +kernel
theorem dL_law_756 : decode cL_law 756 = .ok (.iadd, 1) := by decide +kernel
theorem dL_law_757 : decode cL_law 757 = .ok (.iaload, 1) := by decide +kernel
theorem dL_law_758 : decode cL_law 758 = .ok (.aload_n 0, 1) := by decide +kernel
theorem dL_law_759 : decode cL_law 759 = .ok (.iload_n 3, 1) := by decide +kernel
theorem dL_law_760 : decode cL_law 760 = .ok (.iconst 3, 1) := by decide +kernel
theorem dL_law_761 : decode cL_law 761 = .ok (.iadd, 1) := by decide +kernel
theorem dL_law_762 : decode cL_law 762 = .ok (.iaload, 1) := by decide +kernel
theorem dL_law_763 : decode cL_law 763 = .ok (.invokevirtual 108, 3) := by decide +kernel
theorem dL_law_766 : decode cL_law 766 = .ok (.if_icmp .eq 387, 3) := by decide +kernel
theorem dL_law_769 : decode cL_law 769 = .ok (.iconst 0, 1) := by decide +kernel
theorem dL_law_770 : decode cL_law 770 = .ok (.ireturn, 1) := by decide +kernel
theorem dL_law_771 : decode cL_law 771 = .ok (.aload_n 1, 1) := by decide +kernel
theorem dL_law_772 : decode cL_law 772 = .ok (.aload_n 0, 1) := by decide +kernel
theorem dL_law_773 : decode cL_law 773 = .ok (.iload_n 3, 1) := by decide +kernel
theorem dL_law_774 : decode cL_law 774 = .ok (.iconst 1, 1) := by decide +kernel
theorem dL_law_775 : decode cL_law 775 = .ok (.iadd, 1) := by decide +kernel
theorem dL_law_776 : decode cL_law 776 = .ok (.iaload, 1) := by decide +kernel
theorem dL_law_777 : decode cL_law 777 = .ok (.aload_n 0, 1) := by decide +kernel
theorem dL_law_778 : decode cL_law 778 = .ok (.iload_n 3, 1) := by decide +kernel
theorem dL_law_779 : decode cL_law 779 = .ok (.iconst 2, 1) := by decide +kernel
theorem dL_law_780 : decode cL_law 780 = .ok (.iadd, 1) := by decide +kernel
theorem dL_law_781 : decode cL_law 781 = .ok (.iaload, 1) := by decide +kernel
theorem dL_law_782 : decode cL_law 782 = .ok (.invokevirtual 109, 3) := by decide +kernel
theorem dL_law_785 : decode cL_law 785 = .ok (.aload_n 2, 1) := by decide +kernel
theorem dL_law_786 : decode cL_law 786 = .ok (.aload_n 0, 1) := by decide +kernel
theorem dL_law_787 : decode cL_law 787 = .ok (.iload_n 3, 1) := by decide +kernel
theorem dL_law_788 : decode cL_law 788 = .ok (.iconst 1, 1) := by decide +kernel
theorem dL_law_789 : decode cL_law 789 = .ok (.iadd, 1) := by decide +kernel
theorem dL_law_790 : decode cL_law 790 = .ok (.iaload, 1) := by decide +kernel
theorem dL_law_791 : decode cL_law 791 = .ok (.aload_n 0, 1) := by decide +kernel
theorem dL_law_792 : decode cL_law 792 = .ok (.iload_n 3, 1) := by decide +kernel
theorem dL_law_793 : decode cL_law 793 = .ok (.iconst 2, 1) := by decide +kernel
theorem dL_law_794 : decode cL_law 794 = .ok (.iadd, 1) := by decide +kernel
theorem dL_law_795 : decode cL_law 795 = .ok (.iaload, 1) := by decide +kernel
theorem dL_law_796 : decode cL_law 796 = .ok (.invokevirtual 112, 3) := by decide +kernel
theorem dL_law_799 : decode cL_law 799 = .ok (.if_icmp .eq 354, 3) := by decide +kernel
theorem dL_law_802 : decode cL_law 802 = .ok (.iconst 0, 1) := by decide +kernel
theorem dL_law_803 : decode cL_law 803 = .ok (.ireturn, 1) := by decide +kernel
theorem dL_law_804 : decode cL_law 804 = .ok (.aload_n 1, 1) := by decide +kernel
theorem dL_law_805 : decode cL_law 805 = .ok (.aload_n 0, 1) := by decide +kernel
theorem dL_law_806 : decode cL_law 806 = .ok (.iload_n 3, 1) := by decide +kernel
theorem dL_law_807 : decode cL_law 807 = .ok (.iconst 1, 1) := by decide +kernel
theorem dL_law_808 : decode cL_law 808 = .ok (.iadd, 1) := by decide +kernel
theorem dL_law_809 : decode cL_law 809 = .ok (.iaload, 1) := by decide +kernel
theorem dL_law_810 : decode cL_law 810 = .ok (.aload_n 0, 1) := by decide +kernel
theorem dL_law_811 : decode cL_law 811 = .ok (.iload_n 3, 1) := by decide +kernel
theorem dL_law_812 : decode cL_law 812 = .ok (.iconst 2, 1) := by decide +kernel
theorem dL_law_813 : decode cL_law 813 = .ok (.iadd, 1) := by decide +kernel
theorem dL_law_814 : decode cL_law 814 = .ok (.iaload, 1) := by decide +kernel
theorem dL_law_815 : decode cL_law 815 = .ok (.invokevirtual 113, 3) := by decide +kernel
theorem dL_law_818 : decode cL_law 818 = .ok (.aload_n 2, 1) := by decide +kernel
theorem dL_law_819 : decode cL_law 819 = .ok (.aload_n 0, 1) := by decide +kernel
theorem dL_law_820 : decode cL_law 820 = .ok (.iload_n 3, 1) := by decide +kernel
theorem dL_law_821 : decode cL_law 821 = .ok (.iconst 1, 1) := by decide +kernel
theorem dL_law_822 : decode cL_law 822 = .ok (.iadd, 1) := by decide +kernel
theorem dL_law_823 : decode cL_law 823 = .ok (.iaload, 1) := by decide +kernel
theorem dL_law_824 : decode cL_law 824 = .ok (.aload_n 0, 1) := by decide +kernel
theorem dL_law_825 : decode cL_law 825 = .ok (.iload_n 3, 1) := by decide +kernel
theorem dL_law_826 : decode cL_law 826 = .ok (.iconst 2, 1) := by decide +kernel
theorem dL_law_827 : decode cL_law 827 = .ok (.iadd, 1) := by decide +kernel
theorem dL_law_828 : decode cL_law 828 = .ok (.iaload, 1) := by decide +kernel
theorem dL_law_829 : decode cL_law 829 = .ok (.invokevirtual 116, 3) := by decide +kernel
theorem dL_law_832 : decode cL_law 832 = .ok (.lcmp, 1) := by decide +kernel
theorem dL_law_833 : decode cL_law 833 = .ok (.ifCond .eq 320, 3) := by decide +kernel
theorem dL_law_836 : decode cL_law 836 = .ok (.iconst 0, 1) := by decide +kernel
theorem dL_law_837 : decode cL_law 837 = .ok (.ireturn, 1) := by decide +kernel
theorem dL_law_838 : decode cL_law 838 = .ok (.aload_n 1, 1) := by decide +kernel
theorem dL_law_839 : decode cL_law 839 = .ok (.aload_n 0, 1) := by decide +kernel
theorem dL_law_840 : decode cL_law 840 = .ok (.iload_n 3, 1) := by decide +kernel
theorem dL_law_841 : decode cL_law 841 = .ok (.iconst 1, 1) := by decide +kernel
theorem dL_law_842 : decode cL_law 842 = .ok (.iadd, 1) := by decide +kernel
theorem dL_law_843 : decode cL_law 843 = .ok (.iaload, 1) := by decide +kernel
theorem dL_law_844 : decode cL_law 844 = .ok (.aload_n 0, 1) := by decide +kernel
theorem dL_law_845 : decode cL_law 845 = .ok (.iload_n 3, 1) := by decide +kernel
theorem dL_law_846 : decode cL_law 846 = .ok (.iconst 2, 1) := by decide +kernel
theorem dL_law_847 : decode cL_law 847 = .ok (.iadd, 1) := by decide +kernel
theorem dL_law_848 : decode cL_law 848 = .ok (.iaload, 1) := by decide +kernel
theorem dL_law_849 : decode cL_law 849 = .ok (.aload_n 0, 1) := by decide +kernel
theorem dL_law_850 : decode cL_law 850 = .ok (.iload_n 3, 1) := by decide +kernel
theorem dL_law_851 : decode cL_law 851 = .ok (.iconst 3, 1) := by decide +kernel
theorem dL_law_852 : decode cL_law 852 = .ok (.iadd, 1) := by decide +kernel
theorem dL_law_853 : decode cL_law 853 = .ok (.iaload, 1) := by decide +kernel
theorem dL_law_854 : decode cL_law 854 = .ok (.aload_n 0, 1) := by decide +kernel
theorem dL_law_855 : decode cL_law 855 = .ok (.iload_n 3, 1) := by decide +kernel
theorem dL_law_856 : decode cL_law 856 = .ok (.iconst 4, 1) := by decide +kernel
theorem dL_law_857 : decode cL_law 857 = .ok (.iadd, 1) := by decide +kernel
theorem dL_law_858 : decode cL_law 858 = .ok (.iaload, 1) := by decide +kernel
theorem dL_law_859 : decode cL_law 859 = .ok (.invokevirtual 117, 3) := by decide +kernel
theorem dL_law_862 : decode cL_law 862 = .ok (.aload_n 2, 1) := by decide +kernel
theorem dL_law_863 : decode cL_law 863 = .ok (.aload_n 0, 1) := by decide +kernel
theorem dL_law_864 : decode cL_law 864 = .ok (.iload_n 3, 1) := by decide +kernel
theorem dL_law_865 : decode cL_law 865 = .ok (.iconst 1, 1) := by decide +kernel
theorem dL_law_866 : decode cL_law 866 = .ok (.iadd, 1) := by decide +kernel
theorem dL_law_867 : decode cL_law 867 = .ok (.iaload, 1) := by decide +kernel
theorem dL_law_868 : decode cL_law 868 = .ok (.aload_n 0, 1) := by decide +kernel
theorem dL_law_869 : decode cL_law 869 = .ok (.iload_n 3, 1) := by decide +kernel
theorem dL_law_870 : decode cL_law 870 = .ok (.iconst 2, 1) := by decide +kernel
theorem dL_law_871 : decode cL_law 871 = .ok (.iadd, 1) := by decide +kernel
theorem dL_law_872 : decode cL_law 872 = .ok (.iaload, 1) := by decide +kernel
theorem dL_law_873 : decode cL_law 873 = .ok (.aload_n 0, 1) := by decide +kernel
theorem dL_law_874 : decode cL_law 874 = .ok (.iload_n 3, 1) := by decide +kernel
theorem dL_law_875 : decode cL_law 875 = .ok (.iconst 3, 1) := by decide +kernel
theorem dL_law_876 : decode cL_law 876 = .ok (.iadd, 1) := by decide +kernel
theorem dL_law_877 : decode cL_law 877 = .ok (.iaload, 1) := by decide +kernel
theorem dL_law_878 : decode cL_law 878 = .ok (.aload_n 0, 1) := by decide +kernel
theorem dL_law_879 : decode cL_law 879 = .ok (.iload_n 3, 1) := by decide +kernel
theorem dL_law_880 : decode cL_law 880 = .ok (.iconst 4, 1) := by decide +kernel
theorem dL_law_881 : decode cL_law 881 = .ok (.iadd, 1) := by decide +kernel
theorem dL_law_882 : decode cL_law 882 = .ok (.iaload, 1) := by decide +kernel
theorem dL_law_883 : decode cL_law 883 = .ok (.invokevirtual 120, 3) := by decide +kernel
theorem dL_law_886 : decode cL_law 886 = .ok (.if_icmp .eq 267, 3) := by decide +kernel
theorem dL_law_889 : decode cL_law 889 = .ok (.iconst 0, 1) := by decide +kernel
theorem dL_law_890 : decode cL_law 890 = .ok (.ireturn, 1) := by decide +kernel
theorem dL_law_891 : decode cL_law 891 = .ok (.aload_n 1, 1) := by decide +kernel
theorem dL_law_892 : decode cL_law 892 = .ok (.aload_n 0, 1) := by decide +kernel
theorem dL_law_893 : decode cL_law 893 = .ok (.iload_n 3, 1) := by decide +kernel
theorem dL_law_894 : decode cL_law 894 = .ok (.iconst 1, 1) := by decide +kernel
theorem dL_law_895 : decode cL_law 895 = .ok (.iadd, 1) := by decide +kernel
theorem dL_law_896 : decode cL_law 896 = .ok (.iaload, 1) := by decide +kernel
theorem dL_law_897 : decode cL_law 897 = .ok (.aload_n 0, 1) := by decide +kernel
theorem dL_law_898 : decode cL_law 898 = .ok (.iload_n 3, 1) := by decide +kernel
theorem dL_law_899 : decode cL_law 899 = .ok (.iconst 2, 1) := by decide +kernel
theorem dL_law_900 : decode cL_law 900 = .ok (.iadd, 1) := by decide +kernel
theorem dL_law_901 : decode cL_law 901 = .ok (.iaload, 1) := by decide +kernel
theorem dL_law_902 : decode cL_law 902 = .ok (.aload_n 0, 1) := by decide +kernel
theorem dL_law_903 : decode cL_law 903 = .ok (.iload_n 3, 1) := by decide +kernel
theorem dL_law_904 : decode cL_law 904 = .ok (.iconst 3, 1) := by decide +kernel
theorem dL_law_905 : decode cL_law 905 = .ok (.iadd, 1) := by decide +kernel
theorem dL_law_906 : decode cL_law 906 = .ok (.iaload, 1) := by decide +kernel
theorem dL_law_907 : decode cL_law 907 = .ok (.invokevirtual 121, 3) := by decide +kernel
theorem dL_law_910 : decode cL_law 910 = .ok (.aload_n 2, 1) := by decide +kernel
theorem dL_law_911 : decode cL_law 911 = .ok (.aload_n 0, 1) := by decide +kernel
theorem dL_law_912 : decode cL_law 912 = .ok (.iload_n 3, 1) := by decide +kernel
theorem dL_law_913 : decode cL_law 913 = .ok (.iconst 1, 1) := by decide +kernel
theorem dL_law_914 : decode cL_law 914 = .ok (.iadd, 1) := by decide +kernel
theorem dL_law_915 : decode cL_law 915 = .ok (.iaload, 1) := by decide +kernel
theorem dL_law_916 : decode cL_law 916 = .ok (.aload_n 0, 1) := by decide +kernel
theorem dL_law_917 : decode cL_law 917 = .ok (.iload_n 3, 1) := by decide +kernel
theorem dL_law_918 : decode cL_law 918 = .ok (.iconst 2, 1) := by decide +kernel
theorem dL_law_919 : decode cL_law 919 = .ok (.iadd, 1) := by decide +kernel
theorem dL_law_920 : decode cL_law 920 = .ok (.iaload, 1) := by decide +kernel
theorem dL_law_921 : decode cL_law 921 = .ok (.aload_n 0, 1) := by decide +kernel
theorem dL_law_922 : decode cL_law 922 = .ok (.iload_n 3, 1) := by decide +kernel
theorem dL_law_923 : decode cL_law 923 = .ok (.iconst 3, 1) := by decide +kernel
theorem dL_law_924 : decode cL_law 924 = .ok (.iadd, 1) := by decide +kernel
theorem dL_law_925 : decode cL_law 925 = .ok (.iaload, 1) := by decide +kernel
theorem dL_law_926 : decode cL_law 926 = .ok (.invokevirtual 124, 3) := by decide +kernel
theorem dL_law_929 : decode cL_law 929 = .ok (.if_icmp .eq 224, 3) := by decide +kernel
theorem dL_law_932 : decode cL_law 932 = .ok (.iconst 0, 1) := by decide +kernel
theorem dL_law_933 : decode cL_law 933 = .ok (.ireturn, 1) := by decide +kernel
theorem dL_law_934 : decode cL_law 934 = .ok (.aload_n 1, 1) := by decide +kernel
theorem dL_law_935 : decode cL_law 935 = .ok (.aload_n 0, 1) := by decide +kernel
theorem dL_law_936 : decode cL_law 936 = .ok (.iload_n 3, 1) := by decide +kernel
theorem dL_law_937 : decode cL_law 937 = .ok (.iconst 1, 1) := by decide +kernel
theorem dL_law_938 : decode cL_law 938 = .ok (.iadd, 1) := by decide +kernel
theorem dL_law_939 : decode cL_law 939 = .ok (.iaload, 1) := by decide +kernel
theorem dL_law_940 : decode cL_law 940 = .ok (.invokevirtual 125, 3) := by decide +kernel
theorem dL_law_943 : decode cL_law 943 = .ok (.aload_n 2, 1) := by decide +kernel
theorem dL_law_944 : decode cL_law 944 = .ok (.aload_n 0, 1) := by decide +kernel
theorem dL_law_945 : decode cL_law 945 = .ok (.iload_n 3, 1) := by decide +kernel
theorem dL_law_946 : decode cL_law 946 = .ok (.iconst 1, 1) := by decide +kernel
theorem dL_law_947 : decode cL_law 947 = .ok (.iadd, 1) := by decide +kernel
theorem dL_law_948 : decode cL_law 948 = .ok (.iaload, 1) := by decide +kernel
theorem dL_law_949 : decode cL_law 949 = .ok (.invokevirtual 128, 3) := by decide +kernel
theorem dL_law_952 : decode cL_law 952 = .ok (.if_icmp .eq 201, 3) := by decide +kernel
theorem dL_law_955 : decode cL_law 955 = .ok (.iconst 0, 1) := by decide +kernel
theorem dL_law_956 : decode cL_law 956 = .ok (.ireturn, 1) := by decide +kernel
theorem dL_law_957 : decode cL_law 957 = .ok (.aload_n 1, 1) := by decide +kernel
theorem dL_law_958 : decode cL_law 958 = .ok (.aload_n 0, 1) := by decide +kernel
theorem dL_law_959 : decode cL_law 959 = .ok (.iload_n 3, 1) := by decide +kernel
theorem dL_law_960 : decode cL_law 960 = .ok (.iconst 1, 1) := by decide +kernel
theorem dL_law_961 : decode cL_law 961 = .ok (.iadd, 1) := by decide +kernel
theorem dL_law_962 : decode cL_law 962 = .ok (.iaload, 1) := by decide +kernel
theorem dL_law_963 : decode cL_law 963 = .ok (.aload_n 0, 1) := by decide +kernel
theorem dL_law_964 : decode cL_law 964 = .ok (.iload_n 3, 1) := by decide +kernel
theorem dL_law_965 : decode cL_law 965 = .ok (.iconst 2, 1) := by decide +kernel
theorem dL_law_966 : decode cL_law 966 = .ok (.iadd, 1) := by decide +kernel
theorem dL_law_967 : decode cL_law 967 = .ok (.iaload, 1) := by decide +kernel
theorem dL_law_968 : decode cL_law 968 = .ok (.aload_n 0, 1) := by decide +kernel
theorem dL_law_969 : decode cL_law 969 = .ok (.iload_n 3, 1) := by decide +kernel
theorem dL_law_970 : decode cL_law 970 = .ok (.iconst 3, 1) := by decide +kernel
theorem dL_law_971 : decode cL_law 971 = .ok (.iadd, 1) := by decide +kernel
theorem dL_law_972 : decode cL_law 972 = .ok (.iaload, 1) := by decide +kernel
theorem dL_law_973 : decode cL_law 973 = .ok (.aload_n 0, 1) := by decide +kernel
theorem dL_law_974 : decode cL_law 974 = .ok (.iload_n 3, 1) := by decide +kernel
theorem dL_law_975 : decode cL_law 975 = .ok (.iconst 4, 1) := by decide +kernel
theorem dL_law_976 : decode cL_law 976 = .ok (.iadd, 1) := by decide +kernel
theorem dL_law_977 : decode cL_law 977 = .ok (.iaload, 1) := by decide +kernel
theorem dL_law_978 : decode cL_law 978 = .ok (.invokevirtual 129, 3) := by decide +kernel
theorem dL_law_981 : decode cL_law 981 = .ok (.aload_n 2, 1) := by decide +kernel
theorem dL_law_982 : decode cL_law 982 = .ok (.aload_n 0, 1) := by decide +kernel
theorem dL_law_983 : decode cL_law 983 = .ok (.iload_n 3, 1) := by decide +kernel
theorem dL_law_984 : decode cL_law 984 = .ok (.iconst 1, 1) := by decide +kernel
theorem dL_law_985 : decode cL_law 985 = .ok (.iadd, 1) := by decide +kernel
theorem dL_law_986 : decode cL_law 986 = .ok (.iaload, 1) := by decide +kernel
theorem dL_law_987 : decode cL_law 987 = .ok (.aload_n 0, 1) := by decide +kernel
theorem dL_law_988 : decode cL_law 988 = .ok (.iload_n 3, 1) := by decide +kernel
theorem dL_law_989 : decode cL_law 989 = .ok (.iconst 2, 1) := by decide +kernel
theorem dL_law_990 : decode cL_law 990 = .ok (.iadd, 1) := by decide +kernel
theorem dL_law_991 : decode cL_law 991 = .ok (.iaload, 1) := by decide +kernel
theorem dL_law_992 : decode cL_law 992 = .ok (.aload_n 0, 1) := by decide +kernel
theorem dL_law_993 : decode cL_law 993 = .ok (.iload_n 3, 1) := by decide +kernel
theorem dL_law_994 : decode cL_law 994 = .ok (.iconst 3, 1) := by decide +kernel
theorem dL_law_995 : decode cL_law 995 = .ok (.iadd, 1) := by decide +kernel
theorem dL_law_996 : decode cL_law 996 = .ok (.iaload, 1) := by decide +kernel
theorem dL_law_997 : decode cL_law 997 = .ok (.aload_n 0, 1) := by decide +kernel
theorem dL_law_998 : decode cL_law 998 = .ok (.iload_n 3, 1) := by decide +kernel
theorem dL_law_999 : decode cL_law 999 = .ok (.iconst 4, 1) := by decide +kernel
theorem dL_law_1000 : decode cL_law 1000 = .ok (.iadd, 1) := by decide +kernel
theorem dL_law_1001 : decode cL_law 1001 = .ok (.iaload, 1) := by decide +kernel
theorem dL_law_1002 : decode cL_law 1002 = .ok (.invokevirtual 132, 3) := by decide +kernel
theorem dL_law_1005 : decode cL_law 1005 = .ok (.if_icmp .eq 148, 3) := by decide +kernel
theorem dL_law_1008 : decode cL_law 1008 = .ok (.iconst 0, 1) := by decide +kernel
theorem dL_law_1009 : decode cL_law 1009 = .ok (.ireturn, 1) := by decide +kernel
theorem dL_law_1010 : decode cL_law 1010 = .ok (.aload_n 1, 1) := by decide +kernel
theorem dL_law_1011 : decode cL_law 1011 = .ok (.aload_n 0, 1) := by decide +kernel
theorem dL_law_1012 : decode cL_law 1012 = .ok (.iload_n 3, 1) := by decide +kernel
theorem dL_law_1013 : decode cL_law 1013 = .ok (.iconst 1, 1) := by decide +kernel
theorem dL_law_1014 : decode cL_law 1014 = .ok (.iadd, 1) := by decide +kernel
theorem dL_law_1015 : decode cL_law 1015 = .ok (.iaload, 1) := by decide +kernel
theorem dL_law_1016 : decode cL_law 1016 = .ok (.aload_n 0, 1) := by decide +kernel
theorem dL_law_1017 : decode cL_law 1017 = .ok (.iload_n 3, 1) := by decide +kernel
theorem dL_law_1018 : decode cL_law 1018 = .ok (.iconst 2, 1) := by decide +kernel
theorem dL_law_1019 : decode cL_law 1019 = .ok (.iadd, 1) := by decide +kernel
theorem dL_law_1020 : decode cL_law 1020 = .ok (.iaload, 1) := by decide +kernel
theorem dL_law_1021 : decode cL_law 1021 = .ok (.aload_n 0, 1) := by decide +kernel
theorem dL_law_1022 : decode cL_law 1022 = .ok (.iload_n 3, 1) := by decide +kernel
theorem dL_law_1023 : decode cL_law 1023 = .ok (.iconst 3, 1) := by decide +kernel
theorem dL_law_1024 : decode cL_law 1024 = .ok (.iadd, 1) := by decide +kernel
theorem dL_law_1025 : decode cL_law 1025 = .ok (.iaload, 1) := by decide +kernel
theorem dL_law_1026 : decode cL_law 1026 = .ok (.invokevirtual 133, 3) := by decide +kernel
theorem dL_law_1029 : decode cL_law 1029 = .ok (.aload_n 2, 1) := by decide +kernel
theorem dL_law_1030 : decode cL_law 1030 = .ok (.aload_n 0, 1) := by decide +kernel
theorem dL_law_1031 : decode cL_law 1031 = .ok (.iload_n 3, 1) := by decide +kernel
theorem dL_law_1032 : decode cL_law 1032 = .ok (.iconst 1, 1) := by decide +kernel
theorem dL_law_1033 : decode cL_law 1033 = .ok (.iadd, 1) := by decide +kernel
theorem dL_law_1034 : decode cL_law 1034 = .ok (.iaload, 1) := by decide +kernel
theorem dL_law_1035 : decode cL_law 1035 = .ok (.aload_n 0, 1) := by decide +kernel
theorem dL_law_1036 : decode cL_law 1036 = .ok (.iload_n 3, 1) := by decide +kernel
theorem dL_law_1037 : decode cL_law 1037 = .ok (.iconst 2, 1) := by decide +kernel
theorem dL_law_1038 : decode cL_law 1038 = .ok (.iadd, 1) := by decide +kernel
theorem dL_law_1039 : decode cL_law 1039 = .ok (.iaload, 1) := by decide +kernel
theorem dL_law_1040 : decode cL_law 1040 = .ok (.aload_n 0, 1) := by decide +kernel
theorem dL_law_1041 : decode cL_law 1041 = .ok (.iload_n 3, 1) := by decide +kernel
theorem dL_law_1042 : decode cL_law 1042 = .ok (.iconst 3, 1) := by decide +kernel
theorem dL_law_1043 : decode cL_law 1043 = .ok (.iadd, 1) := by decide +kernel
theorem dL_law_1044 : decode cL_law 1044 = .ok (.iaload, 1) := by decide +kernel
theorem dL_law_1045 : decode cL_law 1045 = .ok (.invokevirtual 136, 3) := by decide +kernel
theorem dL_law_1048 : decode cL_law 1048 = .ok (.if_icmp .eq 105, 3) := by decide +kernel
theorem dL_law_1051 : decode cL_law 1051 = .ok (.iconst 0, 1) := by decide +kernel
theorem dL_law_1052 : decode cL_law 1052 = .ok (.ireturn, 1) := by decide +kernel
theorem dL_law_1053 : decode cL_law 1053 = .ok (.aload_n 1, 1) := by decide +kernel
theorem dL_law_1054 : decode cL_law 1054 = .ok (.aload_n 0, 1) := by decide +kernel
theorem dL_law_1055 : decode cL_law 1055 = .ok (.iload_n 3, 1) := by decide +kernel
theorem dL_law_1056 : decode cL_law 1056 = .ok (.iconst 1, 1) := by decide +kernel
theorem dL_law_1057 : decode cL_law 1057 = .ok (.iadd, 1) := by decide +kernel
theorem dL_law_1058 : decode cL_law 1058 = .ok (.iaload, 1) := by decide +kernel
theorem dL_law_1059 : decode cL_law 1059 = .ok (.aload_n 0, 1) := by decide +kernel
theorem dL_law_1060 : decode cL_law 1060 = .ok (.iload_n 3, 1) := by decide +kernel
theorem dL_law_1061 : decode cL_law 1061 = .ok (.iconst 2, 1) := by decide +kernel
theorem dL_law_1062 : decode cL_law 1062 = .ok (.iadd, 1) := by decide +kernel
theorem dL_law_1063 : decode cL_law 1063 = .ok (.iaload, 1) := by decide +kernel
theorem dL_law_1064 : decode cL_law 1064 = .ok (.aload_n 0, 1) := by decide +kernel
theorem dL_law_1065 : decode cL_law 1065 = .ok (.iload_n 3, 1) := by decide +kernel
theorem dL_law_1066 : decode cL_law 1066 = .ok (.iconst 3, 1) := by decide +kernel
theorem dL_law_1067 : decode cL_law 1067 = .ok (.iadd, 1) := by decide +kernel
theorem dL_law_1068 : decode cL_law 1068 = .ok (.iaload, 1) := by decide +kernel
theorem dL_law_1069 : decode cL_law 1069 = .ok (.aload_n 0, 1) := by decide +kernel
theorem dL_law_1070 : decode cL_law 1070 = .ok (.iload_n 3, 1) := by decide +kernel
theorem dL_law_1071 : decode cL_law 1071 = .ok (.iconst 4, 1) := by decide +kernel
theorem dL_law_1072 : decode cL_law 1072 = .ok (.iadd, 1) := by decide +kernel
theorem dL_law_1073 : decode cL_law 1073 = .ok (.iaload, 1) := by decide +kernel
theorem dL_law_1074 : decode cL_law 1074 = .ok (.aload_n 0, 1) := by decide +kernel
theorem dL_law_1075 : decode cL_law 1075 = .ok (.iload_n 3, 1) := by decide +kernel
theorem dL_law_1076 : decode cL_law 1076 = .ok (.iconst 5, 1) := by decide +kernel
theorem dL_law_1077 : decode cL_law 1077 = .ok (.iadd, 1) := by decide +kernel
theorem dL_law_1078 : decode cL_law 1078 = .ok (.iaload, 1) := by decide +kernel
theorem dL_law_1079 : decode cL_law 1079 = .ok (.invokevirtual 137, 3) := by decide +kernel
theorem dL_law_1082 : decode cL_law 1082 = .ok (.aload_n 2, 1) := by decide +kernel
theorem dL_law_1083 : decode cL_law 1083 = .ok (.aload_n 0, 1) := by decide +kernel
theorem dL_law_1084 : decode cL_law 1084 = .ok (.iload_n 3, 1) := by decide +kernel
theorem dL_law_1085 : decode cL_law 1085 = .ok (.iconst 1, 1) := by decide +kernel
theorem dL_law_1086 : decode cL_law 1086 = .ok (.iadd, 1) := by decide +kernel
theorem dL_law_1087 : decode cL_law 1087 = .ok (.iaload, 1) := by decide +kernel
theorem dL_law_1088 : decode cL_law 1088 = .ok (.aload_n 0, 1) := by decide +kernel
theorem dL_law_1089 : decode cL_law 1089 = .ok (.iload_n 3, 1) := by decide +kernel
theorem dL_law_1090 : decode cL_law 1090 = .ok (.iconst 2, 1) := by decide +kernel
theorem dL_law_1091 : decode cL_law 1091 = .ok (.iadd, 1) := by decide +kernel
theorem dL_law_1092 : decode cL_law 1092 = .ok (.iaload, 1) := by decide +kernel
theorem dL_law_1093 : decode cL_law 1093 = .ok (.aload_n 0, 1) := by decide +kernel
theorem dL_law_1094 : decode cL_law 1094 = .ok (.iload_n 3, 1) := by decide +kernel
theorem dL_law_1095 : decode cL_law 1095 = .ok (.iconst 3, 1) := by decide +kernel
theorem dL_law_1096 : decode cL_law 1096 = .ok (.iadd, 1) := by decide +kernel
theorem dL_law_1097 : decode cL_law 1097 = .ok (.iaload, 1) := by decide +kernel
theorem dL_law_1098 : decode cL_law 1098 = .ok (.aload_n 0, 1) := by decide +kernel
theorem dL_law_1099 : decode cL_law 1099 = .ok (.iload_n 3, 1) := by decide +kernel
theorem dL_law_1100 : decode cL_law 1100 = .ok (.iconst 4, 1) := by decide +kernel
theorem dL_law_1101 : decode cL_law 1101 = .ok (.iadd, 1) := by decide +kernel
theorem dL_law_1102 : decode cL_law 1102 = .ok (.iaload, 1) := by decide +kernel
theorem dL_law_1103 : decode cL_law 1103 = .ok (.aload_n 0, 1) := by decide +kernel
theorem dL_law_1104 : decode cL_law 1104 = .ok (.iload_n 3, 1) := by decide +kernel
theorem dL_law_1105 : decode cL_law 1105 = .ok (.iconst 5, 1) := by decide +kernel
theorem dL_law_1106 : decode cL_law 1106 = .ok (.iadd, 1) := by decide +kernel
theorem dL_law_1107 : decode cL_law 1107 = .ok (.iaload, 1) := by decide +kernel
theorem dL_law_1108 : decode cL_law 1108 = .ok (.invokevirtual 141, 3) := by decide +kernel
theorem dL_law_1111 : decode cL_law 1111 = .ok (.if_icmp .eq 42, 3) := by decide +kernel
theorem dL_law_1114 : decode cL_law 1114 = .ok (.iconst 0, 1) := by decide +kernel
theorem dL_law_1115 : decode cL_law 1115 = .ok (.ireturn, 1) := by decide +kernel
theorem dL_law_1116 : decode cL_law 1116 = .ok (.aload_n 1, 1) := by decide +kernel
theorem dL_law_1117 : decode cL_law 1117 = .ok (.aload_n 0, 1) := by decide +kernel
theorem dL_law_1118 : decode cL_law 1118 = .ok (.iload_n 3, 1) := by decide +kernel
theorem dL_law_1119 : decode cL_law 1119 = .ok (.iconst 1, 1) := by decide +kernel
theorem dL_law_1120 : decode cL_law 1120 = .ok (.iadd, 1) := by decide +kernel
theorem dL_law_1121 : decode cL_law 1121 = .ok (.iaload, 1) := by decide +kernel
theorem dL_law_1122 : decode cL_law 1122 = .ok (.invokevirtual 142, 3) := by decide +kernel
theorem dL_law_1125 : decode cL_law 1125 = .ok (.aload_n 2, 1) := by decide +kernel
theorem dL_law_1126 : decode cL_law 1126 = .ok (.aload_n 0, 1) := by decide +kernel
theorem dL_law_1127 : decode cL_law 1127 = .ok (.iload_n 3, 1) := by decide +kernel
theorem dL_law_1128 : decode cL_law 1128 = .ok (.iconst 1, 1) := by decide +kernel
theorem dL_law_1129 : decode cL_law 1129 = .ok (.iadd, 1) := by decide +kernel
theorem dL_law_1130 : decode cL_law 1130 = .ok (.iaload, 1) := by decide +kernel
theorem dL_law_1131 : decode cL_law 1131 = .ok (.invokevirtual 145, 3) := by decide +kernel
theorem dL_law_1134 : decode cL_law 1134 = .ok (.if_icmp .eq 19, 3) := by decide +kernel
theorem dL_law_1137 : decode cL_law 1137 = .ok (.iconst 0, 1) := by decide +kernel
theorem dL_law_1138 : decode cL_law 1138 = .ok (.ireturn, 1) := by decide +kernel
theorem dL_law_1139 : decode cL_law 1139 = .ok (.aload_n 1, 1) := by decide +kernel
theorem dL_law_1140 : decode cL_law 1140 = .ok (.invokevirtual 146, 3) := by decide +kernel
theorem dL_law_1143 : decode cL_law 1143 = .ok (.aload_n 2, 1) := by decide +kernel
theorem dL_law_1144 : decode cL_law 1144 = .ok (.invokevirtual 150, 3) := by decide +kernel
theorem dL_law_1147 : decode cL_law 1147 = .ok (.lcmp, 1) := by decide +kernel
theorem dL_law_1148 : decode cL_law 1148 = .ok (.ifCond .eq 5, 3) := by decide +kernel
theorem dL_law_1151 : decode cL_law 1151 = .ok (.iconst 0, 1) := by decide +kernel
theorem dL_law_1152 : decode cL_law 1152 = .ok (.ireturn, 1) := by decide +kernel
theorem dL_law_1153 : decode cL_law 1153 = .ok (.iinc 3 6, 3) := by decide +kernel
theorem dL_law_1156 : decode cL_law 1156 = .ok (.goto (-1138), 3) := by decide +kernel
theorem dL_law_1159 : decode cL_law 1159 = .ok (.iconst 1, 1) := by decide +kernel
theorem dL_law_1160 : decode cL_law 1160 = .ok (.ireturn, 1) := by decide +kernel
end
