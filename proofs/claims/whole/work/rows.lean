section
-- ===== PART A: goes FIRST, ahead of the names: the tables' words, and 'selects' of the private methods out of them =====
/-- a private method of a class that the tables say can be made, by its rows of tables_1 -/
def lw_okq (q : MethodName × Nat) : Prop := (q.1.cls ≠ "java/lang/invoke/MethodHandle" ∧ q.1.cls ≠ "java/lang/invoke/VarHandle") ∧ Cond.instantiable q.1.cls q.2 ∈ tables_1 ∧ Cond.privateMethod q.1 ∈ tables_1 ∧ Cond.instanceMethod q.1 ∈ tables_1
theorem lw_p0 : lw_okq (⟨"java/lang/Throwable", "fillInStackTrace", "(I)Ljava/lang/Throwable;"⟩, 6) := ⟨⟨by decide +kernel, by decide +kernel⟩, List.mem_of_getElem? (i := 128) (by decide +kernel), List.mem_of_getElem? (i := 126) (by decide +kernel), List.mem_of_getElem? (i := 127) (by decide +kernel)⟩
theorem lw_p1 : lw_okq (⟨"java/util/ArrayList", "add", "(Ljava/lang/Object;[Ljava/lang/Object;I)V"⟩, 3) := ⟨⟨by decide +kernel, by decide +kernel⟩, List.mem_of_getElem? (i := 34) (by decide +kernel), List.mem_of_getElem? (i := 316) (by decide +kernel), List.mem_of_getElem? (i := 317) (by decide +kernel)⟩
theorem lw_p2 : lw_okq (⟨"java/util/ArrayList", "grow", "()[Ljava/lang/Object;"⟩, 3) := ⟨⟨by decide +kernel, by decide +kernel⟩, List.mem_of_getElem? (i := 34) (by decide +kernel), List.mem_of_getElem? (i := 320) (by decide +kernel), List.mem_of_getElem? (i := 321) (by decide +kernel)⟩
theorem lw_p3 : lw_okq (⟨"java/util/ArrayList", "grow", "(I)[Ljava/lang/Object;"⟩, 3) := ⟨⟨by decide +kernel, by decide +kernel⟩, List.mem_of_getElem? (i := 34) (by decide +kernel), List.mem_of_getElem? (i := 324) (by decide +kernel), List.mem_of_getElem? (i := 325) (by decide +kernel)⟩
theorem lw_p4 : lw_okq (⟨"Detentionbureau", "shipNumbered", "(I)LDetentionbureau$Ship;"⟩, 6) := ⟨⟨by decide +kernel, by decide +kernel⟩, List.mem_of_getElem? (i := 26) (by decide +kernel), List.mem_of_getElem? (i := 379) (by decide +kernel), List.mem_of_getElem? (i := 380) (by decide +kernel)⟩
theorem lw_p5 : lw_okq (⟨"Detentionbureau", "isSuspended", "(I)Z"⟩, 6) := ⟨⟨by decide +kernel, by decide +kernel⟩, List.mem_of_getElem? (i := 26) (by decide +kernel), List.mem_of_getElem? (i := 446) (by decide +kernel), List.mem_of_getElem? (i := 447) (by decide +kernel)⟩
theorem lw_p6 : lw_okq (⟨"Detentionbureau", "familiesNotGood", "(LDetentionbureau$Ship;)I"⟩, 6) := ⟨⟨by decide +kernel, by decide +kernel⟩, List.mem_of_getElem? (i := 26) (by decide +kernel), List.mem_of_getElem? (i := 453) (by decide +kernel), List.mem_of_getElem? (i := 454) (by decide +kernel)⟩
theorem lw_p7 : lw_okq (⟨"Detentionbureau", "isBanned", "(LDetentionbureau$Ship;)Z"⟩, 6) := ⟨⟨by decide +kernel, by decide +kernel⟩, List.mem_of_getElem? (i := 26) (by decide +kernel), List.mem_of_getElem? (i := 527) (by decide +kernel), List.mem_of_getElem? (i := 528) (by decide +kernel)⟩
theorem lw_p8 : lw_okq (⟨"Detentionbureau", "priorityOf", "(LDetentionbureau$Ship;)I"⟩, 6) := ⟨⟨by decide +kernel, by decide +kernel⟩, List.mem_of_getElem? (i := 26) (by decide +kernel), List.mem_of_getElem? (i := 532) (by decide +kernel), List.mem_of_getElem? (i := 533) (by decide +kernel)⟩
theorem lw_p9 : lw_okq (⟨"Detentionbureau", "riskOf", "(LDetentionbureau$Ship;)I"⟩, 6) := ⟨⟨by decide +kernel, by decide +kernel⟩, List.mem_of_getElem? (i := 26) (by decide +kernel), List.mem_of_getElem? (i := 536) (by decide +kernel), List.mem_of_getElem? (i := 537) (by decide +kernel)⟩
theorem lw_p10 : lw_okq (⟨"Detentionbureau", "pointsOf", "(LDetentionbureau$Ship;)I"⟩, 6) := ⟨⟨by decide +kernel, by decide +kernel⟩, List.mem_of_getElem? (i := 26) (by decide +kernel), List.mem_of_getElem? (i := 540) (by decide +kernel), List.mem_of_getElem? (i := 541) (by decide +kernel)⟩
theorem lw_p11 : lw_okq (⟨"Detentionbureau", "isOfLatest", "(I)Z"⟩, 6) := ⟨⟨by decide +kernel, by decide +kernel⟩, List.mem_of_getElem? (i := 26) (by decide +kernel), List.mem_of_getElem? (i := 545) (by decide +kernel), List.mem_of_getElem? (i := 546) (by decide +kernel)⟩
theorem lw_p12 : lw_okq (⟨"Detentionbureau", "pointsOfMake", "(II)I"⟩, 6) := ⟨⟨by decide +kernel, by decide +kernel⟩, List.mem_of_getElem? (i := 26) (by decide +kernel), List.mem_of_getElem? (i := 549) (by decide +kernel), List.mem_of_getElem? (i := 550) (by decide +kernel)⟩
theorem lw_p13 : lw_okq (⟨"Detentionbureau", "isOld", "(I)Z"⟩, 6) := ⟨⟨by decide +kernel, by decide +kernel⟩, List.mem_of_getElem? (i := 26) (by decide +kernel), List.mem_of_getElem? (i := 553) (by decide +kernel), List.mem_of_getElem? (i := 554) (by decide +kernel)⟩
theorem lw_p14 : lw_okq (⟨"Detentionbureau", "pointsOfBelonging", "(II)I"⟩, 6) := ⟨⟨by decide +kernel, by decide +kernel⟩, List.mem_of_getElem? (i := 26) (by decide +kernel), List.mem_of_getElem? (i := 557) (by decide +kernel), List.mem_of_getElem? (i := 558) (by decide +kernel)⟩
theorem lw_p15 : lw_okq (⟨"Detentionbureau", "listOf", "(I)I"⟩, 6) := ⟨⟨by decide +kernel, by decide +kernel⟩, List.mem_of_getElem? (i := 26) (by decide +kernel), List.mem_of_getElem? (i := 561) (by decide +kernel), List.mem_of_getElem? (i := 562) (by decide +kernel)⟩
def lw_privs_1 : List (MethodName × Nat) := [(⟨"java/lang/Throwable", "fillInStackTrace", "(I)Ljava/lang/Throwable;"⟩, 6), (⟨"java/util/ArrayList", "add", "(Ljava/lang/Object;[Ljava/lang/Object;I)V"⟩, 3), (⟨"java/util/ArrayList", "grow", "()[Ljava/lang/Object;"⟩, 3), (⟨"java/util/ArrayList", "grow", "(I)[Ljava/lang/Object;"⟩, 3), (⟨"Detentionbureau", "shipNumbered", "(I)LDetentionbureau$Ship;"⟩, 6), (⟨"Detentionbureau", "isSuspended", "(I)Z"⟩, 6), (⟨"Detentionbureau", "familiesNotGood", "(LDetentionbureau$Ship;)I"⟩, 6), (⟨"Detentionbureau", "isBanned", "(LDetentionbureau$Ship;)Z"⟩, 6), (⟨"Detentionbureau", "priorityOf", "(LDetentionbureau$Ship;)I"⟩, 6), (⟨"Detentionbureau", "riskOf", "(LDetentionbureau$Ship;)I"⟩, 6), (⟨"Detentionbureau", "pointsOf", "(LDetentionbureau$Ship;)I"⟩, 6), (⟨"Detentionbureau", "isOfLatest", "(I)Z"⟩, 6), (⟨"Detentionbureau", "pointsOfMake", "(II)I"⟩, 6), (⟨"Detentionbureau", "isOld", "(I)Z"⟩, 6), (⟨"Detentionbureau", "pointsOfBelonging", "(II)I"⟩, 6), (⟨"Detentionbureau", "listOf", "(I)I"⟩, 6)]
theorem lw_r1 : ∀ q ∈ lw_privs_1, lw_okq q := List.forall_mem_cons.mpr ⟨lw_p0, List.forall_mem_cons.mpr ⟨lw_p1, List.forall_mem_cons.mpr ⟨lw_p2, List.forall_mem_cons.mpr ⟨lw_p3, List.forall_mem_cons.mpr ⟨lw_p4, List.forall_mem_cons.mpr ⟨lw_p5, List.forall_mem_cons.mpr ⟨lw_p6, List.forall_mem_cons.mpr ⟨lw_p7, List.forall_mem_cons.mpr ⟨lw_p8, List.forall_mem_cons.mpr ⟨lw_p9, List.forall_mem_cons.mpr ⟨lw_p10, List.forall_mem_cons.mpr ⟨lw_p11, List.forall_mem_cons.mpr ⟨lw_p12, List.forall_mem_cons.mpr ⟨lw_p13, List.forall_mem_cons.mpr ⟨lw_p14, List.forall_mem_cons.mpr ⟨lw_p15, fun _ h => absurd h List.not_mem_nil⟩⟩⟩⟩⟩⟩⟩⟩⟩⟩⟩⟩⟩⟩⟩⟩
theorem lw_p16 : lw_okq (⟨"Detentionbureau", "detentionsThatCount", "(LDetentionbureau$Ship;)I"⟩, 6) := ⟨⟨by decide +kernel, by decide +kernel⟩, List.mem_of_getElem? (i := 26) (by decide +kernel), List.mem_of_getElem? (i := 572) (by decide +kernel), List.mem_of_getElem? (i := 573) (by decide +kernel)⟩
theorem lw_p17 : lw_okq (⟨"Detentionbureau", "isCounted", "(LDetentionbureau$Visit;LDetentionbureau$Ship;)Z"⟩, 6) := ⟨⟨by decide +kernel, by decide +kernel⟩, List.mem_of_getElem? (i := 26) (by decide +kernel), List.mem_of_getElem? (i := 576) (by decide +kernel), List.mem_of_getElem? (i := 577) (by decide +kernel)⟩
theorem lw_p18 : lw_okq (⟨"Detentionbureau", "depthOfNext", "(LDetentionbureau$Ship;)I"⟩, 6) := ⟨⟨by decide +kernel, by decide +kernel⟩, List.mem_of_getElem? (i := 26) (by decide +kernel), List.mem_of_getElem? (i := 607) (by decide +kernel), List.mem_of_getElem? (i := 608) (by decide +kernel)⟩
theorem lw_p19 : lw_okq (⟨"Detentionbureau", "hasPutOffUnmended", "(LDetentionbureau$Ship;)Z"⟩, 6) := ⟨⟨by decide +kernel, by decide +kernel⟩, List.mem_of_getElem? (i := 26) (by decide +kernel), List.mem_of_getElem? (i := 611) (by decide +kernel), List.mem_of_getElem? (i := 612) (by decide +kernel)⟩
theorem lw_p20 : lw_okq (⟨"Detentionbureau", "visitNumbered", "(I)LDetentionbureau$Visit;"⟩, 6) := ⟨⟨by decide +kernel, by decide +kernel⟩, List.mem_of_getElem? (i := 26) (by decide +kernel), List.mem_of_getElem? (i := 682) (by decide +kernel), List.mem_of_getElem? (i := 683) (by decide +kernel)⟩
theorem lw_p21 : lw_okq (⟨"Detentionbureau", "isGroundToday", "(LDetentionbureau$Ship;I)Z"⟩, 6) := ⟨⟨by decide +kernel, by decide +kernel⟩, List.mem_of_getElem? (i := 26) (by decide +kernel), List.mem_of_getElem? (i := 691) (by decide +kernel), List.mem_of_getElem? (i := 692) (by decide +kernel)⟩
theorem lw_p22 : lw_okq (⟨"Detentionbureau", "isDetainable", "(LDetentionbureau$Visit;)Z"⟩, 6) := ⟨⟨by decide +kernel, by decide +kernel⟩, List.mem_of_getElem? (i := 26) (by decide +kernel), List.mem_of_getElem? (i := 752) (by decide +kernel), List.mem_of_getElem? (i := 753) (by decide +kernel)⟩
theorem lw_p23 : lw_okq (⟨"Detentionbureau", "lookForBan", "(LDetentionbureau$Ship;)V"⟩, 6) := ⟨⟨by decide +kernel, by decide +kernel⟩, List.mem_of_getElem? (i := 26) (by decide +kernel), List.mem_of_getElem? (i := 761) (by decide +kernel), List.mem_of_getElem? (i := 762) (by decide +kernel)⟩
theorem lw_p24 : lw_okq (⟨"Detentionbureau", "ban", "(LDetentionbureau$Ship;)V"⟩, 6) := ⟨⟨by decide +kernel, by decide +kernel⟩, List.mem_of_getElem? (i := 26) (by decide +kernel), List.mem_of_getElem? (i := 773) (by decide +kernel), List.mem_of_getElem? (i := 774) (by decide +kernel)⟩
theorem lw_p25 : lw_okq (⟨"Detentionbureau", "pointsByFile", "(Ljava/util/ArrayList;)I"⟩, 6) := ⟨⟨by decide +kernel, by decide +kernel⟩, List.mem_of_getElem? (i := 26) (by decide +kernel), List.mem_of_getElem? (i := 812) (by decide +kernel), List.mem_of_getElem? (i := 813) (by decide +kernel)⟩
theorem lw_p26 : lw_okq (⟨"DetentionbureauModel", "isShip", "(I)Z"⟩, 44) := ⟨⟨by decide +kernel, by decide +kernel⟩, List.mem_of_getElem? (i := 865) (by decide +kernel), List.mem_of_getElem? (i := 1030) (by decide +kernel), List.mem_of_getElem? (i := 1031) (by decide +kernel)⟩
theorem lw_p27 : lw_okq (⟨"DetentionbureauModel", "hangsOnLapsed", "(II)Z"⟩, 44) := ⟨⟨by decide +kernel, by decide +kernel⟩, List.mem_of_getElem? (i := 865) (by decide +kernel), List.mem_of_getElem? (i := 1046) (by decide +kernel), List.mem_of_getElem? (i := 1047) (by decide +kernel)⟩
theorem lw_p28 : lw_okq (⟨"DetentionbureauModel", "isLapsed", "(II)Z"⟩, 44) := ⟨⟨by decide +kernel, by decide +kernel⟩, List.mem_of_getElem? (i := 865) (by decide +kernel), List.mem_of_getElem? (i := 1050) (by decide +kernel), List.mem_of_getElem? (i := 1051) (by decide +kernel)⟩
theorem lw_p29 : lw_okq (⟨"DetentionbureauModel", "lapsedAlone", "(I)Z"⟩, 44) := ⟨⟨by decide +kernel, by decide +kernel⟩, List.mem_of_getElem? (i := 865) (by decide +kernel), List.mem_of_getElem? (i := 1057) (by decide +kernel), List.mem_of_getElem? (i := 1058) (by decide +kernel)⟩
theorem lw_p30 : lw_okq (⟨"DetentionbureauModel", "isOver", "(I)Z"⟩, 44) := ⟨⟨by decide +kernel, by decide +kernel⟩, List.mem_of_getElem? (i := 865) (by decide +kernel), List.mem_of_getElem? (i := 1061) (by decide +kernel), List.mem_of_getElem? (i := 1062) (by decide +kernel)⟩
theorem lw_p31 : lw_okq (⟨"DetentionbureauModel", "anniversary", "(I)I"⟩, 44) := ⟨⟨by decide +kernel, by decide +kernel⟩, List.mem_of_getElem? (i := 865) (by decide +kernel), List.mem_of_getElem? (i := 1072) (by decide +kernel), List.mem_of_getElem? (i := 1073) (by decide +kernel)⟩
def lw_privs_2 : List (MethodName × Nat) := [(⟨"Detentionbureau", "detentionsThatCount", "(LDetentionbureau$Ship;)I"⟩, 6), (⟨"Detentionbureau", "isCounted", "(LDetentionbureau$Visit;LDetentionbureau$Ship;)Z"⟩, 6), (⟨"Detentionbureau", "depthOfNext", "(LDetentionbureau$Ship;)I"⟩, 6), (⟨"Detentionbureau", "hasPutOffUnmended", "(LDetentionbureau$Ship;)Z"⟩, 6), (⟨"Detentionbureau", "visitNumbered", "(I)LDetentionbureau$Visit;"⟩, 6), (⟨"Detentionbureau", "isGroundToday", "(LDetentionbureau$Ship;I)Z"⟩, 6), (⟨"Detentionbureau", "isDetainable", "(LDetentionbureau$Visit;)Z"⟩, 6), (⟨"Detentionbureau", "lookForBan", "(LDetentionbureau$Ship;)V"⟩, 6), (⟨"Detentionbureau", "ban", "(LDetentionbureau$Ship;)V"⟩, 6), (⟨"Detentionbureau", "pointsByFile", "(Ljava/util/ArrayList;)I"⟩, 6), (⟨"DetentionbureauModel", "isShip", "(I)Z"⟩, 44), (⟨"DetentionbureauModel", "hangsOnLapsed", "(II)Z"⟩, 44), (⟨"DetentionbureauModel", "isLapsed", "(II)Z"⟩, 44), (⟨"DetentionbureauModel", "lapsedAlone", "(I)Z"⟩, 44), (⟨"DetentionbureauModel", "isOver", "(I)Z"⟩, 44), (⟨"DetentionbureauModel", "anniversary", "(I)I"⟩, 44)]
theorem lw_r2 : ∀ q ∈ lw_privs_2, lw_okq q := List.forall_mem_cons.mpr ⟨lw_p16, List.forall_mem_cons.mpr ⟨lw_p17, List.forall_mem_cons.mpr ⟨lw_p18, List.forall_mem_cons.mpr ⟨lw_p19, List.forall_mem_cons.mpr ⟨lw_p20, List.forall_mem_cons.mpr ⟨lw_p21, List.forall_mem_cons.mpr ⟨lw_p22, List.forall_mem_cons.mpr ⟨lw_p23, List.forall_mem_cons.mpr ⟨lw_p24, List.forall_mem_cons.mpr ⟨lw_p25, List.forall_mem_cons.mpr ⟨lw_p26, List.forall_mem_cons.mpr ⟨lw_p27, List.forall_mem_cons.mpr ⟨lw_p28, List.forall_mem_cons.mpr ⟨lw_p29, List.forall_mem_cons.mpr ⟨lw_p30, List.forall_mem_cons.mpr ⟨lw_p31, fun _ h => absurd h List.not_mem_nil⟩⟩⟩⟩⟩⟩⟩⟩⟩⟩⟩⟩⟩⟩⟩⟩
theorem lw_p32 : lw_okq (⟨"DetentionbureauModel", "isBanned", "(I)Z"⟩, 44) := ⟨⟨by decide +kernel, by decide +kernel⟩, List.mem_of_getElem? (i := 865) (by decide +kernel), List.mem_of_getElem? (i := 1086) (by decide +kernel), List.mem_of_getElem? (i := 1087) (by decide +kernel)⟩
theorem lw_p33 : lw_okq (⟨"DetentionbureauModel", "priorityOf", "(I)I"⟩, 44) := ⟨⟨by decide +kernel, by decide +kernel⟩, List.mem_of_getElem? (i := 865) (by decide +kernel), List.mem_of_getElem? (i := 1090) (by decide +kernel), List.mem_of_getElem? (i := 1091) (by decide +kernel)⟩
theorem lw_p34 : lw_okq (⟨"DetentionbureauModel", "riskOf", "(I)I"⟩, 44) := ⟨⟨by decide +kernel, by decide +kernel⟩, List.mem_of_getElem? (i := 865) (by decide +kernel), List.mem_of_getElem? (i := 1094) (by decide +kernel), List.mem_of_getElem? (i := 1095) (by decide +kernel)⟩
theorem lw_p35 : lw_okq (⟨"DetentionbureauModel", "pointsOf", "(I)I"⟩, 44) := ⟨⟨by decide +kernel, by decide +kernel⟩, List.mem_of_getElem? (i := 865) (by decide +kernel), List.mem_of_getElem? (i := 1098) (by decide +kernel), List.mem_of_getElem? (i := 1099) (by decide +kernel)⟩
theorem lw_p36 : lw_okq (⟨"DetentionbureauModel", "listOf", "(I)I"⟩, 44) := ⟨⟨by decide +kernel, by decide +kernel⟩, List.mem_of_getElem? (i := 865) (by decide +kernel), List.mem_of_getElem? (i := 1102) (by decide +kernel), List.mem_of_getElem? (i := 1103) (by decide +kernel)⟩
theorem lw_p37 : lw_okq (⟨"DetentionbureauModel", "isLatest", "(I)Z"⟩, 44) := ⟨⟨by decide +kernel, by decide +kernel⟩, List.mem_of_getElem? (i := 865) (by decide +kernel), List.mem_of_getElem? (i := 1106) (by decide +kernel), List.mem_of_getElem? (i := 1107) (by decide +kernel)⟩
theorem lw_p38 : lw_okq (⟨"DetentionbureauModel", "counts", "(I)Z"⟩, 44) := ⟨⟨by decide +kernel, by decide +kernel⟩, List.mem_of_getElem? (i := 865) (by decide +kernel), List.mem_of_getElem? (i := 1110) (by decide +kernel), List.mem_of_getElem? (i := 1111) (by decide +kernel)⟩
theorem lw_p39 : lw_okq (⟨"DetentionbureauModel", "isOld", "(I)Z"⟩, 44) := ⟨⟨by decide +kernel, by decide +kernel⟩, List.mem_of_getElem? (i := 865) (by decide +kernel), List.mem_of_getElem? (i := 1114) (by decide +kernel), List.mem_of_getElem? (i := 1115) (by decide +kernel)⟩
theorem lw_p40 : lw_okq (⟨"DetentionbureauModel", "hadMany", "(I)Z"⟩, 44) := ⟨⟨by decide +kernel, by decide +kernel⟩, List.mem_of_getElem? (i := 865) (by decide +kernel), List.mem_of_getElem? (i := 1118) (by decide +kernel), List.mem_of_getElem? (i := 1119) (by decide +kernel)⟩
theorem lw_p41 : lw_okq (⟨"DetentionbureauModel", "detentionsOf", "(I)I"⟩, 44) := ⟨⟨by decide +kernel, by decide +kernel⟩, List.mem_of_getElem? (i := 865) (by decide +kernel), List.mem_of_getElem? (i := 1122) (by decide +kernel), List.mem_of_getElem? (i := 1123) (by decide +kernel)⟩
theorem lw_p42 : lw_okq (⟨"DetentionbureauModel", "lapsedOf", "(I)I"⟩, 44) := ⟨⟨by decide +kernel, by decide +kernel⟩, List.mem_of_getElem? (i := 865) (by decide +kernel), List.mem_of_getElem? (i := 1134) (by decide +kernel), List.mem_of_getElem? (i := 1135) (by decide +kernel)⟩
theorem lw_p43 : lw_okq (⟨"DetentionbureauModel", "hasOff", "(I)Z"⟩, 44) := ⟨⟨by decide +kernel, by decide +kernel⟩, List.mem_of_getElem? (i := 865) (by decide +kernel), List.mem_of_getElem? (i := 1138) (by decide +kernel), List.mem_of_getElem? (i := 1139) (by decide +kernel)⟩
theorem lw_p44 : lw_okq (⟨"DetentionbureauModel", "isVisit", "(I)Z"⟩, 44) := ⟨⟨by decide +kernel, by decide +kernel⟩, List.mem_of_getElem? (i := 865) (by decide +kernel), List.mem_of_getElem? (i := 1146) (by decide +kernel), List.mem_of_getElem? (i := 1147) (by decide +kernel)⟩
theorem lw_p45 : lw_okq (⟨"DetentionbureauModel", "isHere", "(I)Z"⟩, 44) := ⟨⟨by decide +kernel, by decide +kernel⟩, List.mem_of_getElem? (i := 865) (by decide +kernel), List.mem_of_getElem? (i := 1150) (by decide +kernel), List.mem_of_getElem? (i := 1151) (by decide +kernel)⟩
theorem lw_p46 : lw_okq (⟨"DetentionbureauModel", "isGroundFor", "(II)Z"⟩, 44) := ⟨⟨by decide +kernel, by decide +kernel⟩, List.mem_of_getElem? (i := 865) (by decide +kernel), List.mem_of_getElem? (i := 1154) (by decide +kernel), List.mem_of_getElem? (i := 1155) (by decide +kernel)⟩
theorem lw_p47 : lw_okq (⟨"DetentionbureauModel", "isInForce", "(II)Z"⟩, 44) := ⟨⟨by decide +kernel, by decide +kernel⟩, List.mem_of_getElem? (i := 865) (by decide +kernel), List.mem_of_getElem? (i := 1158) (by decide +kernel), List.mem_of_getElem? (i := 1159) (by decide +kernel)⟩
def lw_privs_3 : List (MethodName × Nat) := [(⟨"DetentionbureauModel", "isBanned", "(I)Z"⟩, 44), (⟨"DetentionbureauModel", "priorityOf", "(I)I"⟩, 44), (⟨"DetentionbureauModel", "riskOf", "(I)I"⟩, 44), (⟨"DetentionbureauModel", "pointsOf", "(I)I"⟩, 44), (⟨"DetentionbureauModel", "listOf", "(I)I"⟩, 44), (⟨"DetentionbureauModel", "isLatest", "(I)Z"⟩, 44), (⟨"DetentionbureauModel", "counts", "(I)Z"⟩, 44), (⟨"DetentionbureauModel", "isOld", "(I)Z"⟩, 44), (⟨"DetentionbureauModel", "hadMany", "(I)Z"⟩, 44), (⟨"DetentionbureauModel", "detentionsOf", "(I)I"⟩, 44), (⟨"DetentionbureauModel", "lapsedOf", "(I)I"⟩, 44), (⟨"DetentionbureauModel", "hasOff", "(I)Z"⟩, 44), (⟨"DetentionbureauModel", "isVisit", "(I)Z"⟩, 44), (⟨"DetentionbureauModel", "isHere", "(I)Z"⟩, 44), (⟨"DetentionbureauModel", "isGroundFor", "(II)Z"⟩, 44), (⟨"DetentionbureauModel", "isInForce", "(II)Z"⟩, 44)]
theorem lw_r3 : ∀ q ∈ lw_privs_3, lw_okq q := List.forall_mem_cons.mpr ⟨lw_p32, List.forall_mem_cons.mpr ⟨lw_p33, List.forall_mem_cons.mpr ⟨lw_p34, List.forall_mem_cons.mpr ⟨lw_p35, List.forall_mem_cons.mpr ⟨lw_p36, List.forall_mem_cons.mpr ⟨lw_p37, List.forall_mem_cons.mpr ⟨lw_p38, List.forall_mem_cons.mpr ⟨lw_p39, List.forall_mem_cons.mpr ⟨lw_p40, List.forall_mem_cons.mpr ⟨lw_p41, List.forall_mem_cons.mpr ⟨lw_p42, List.forall_mem_cons.mpr ⟨lw_p43, List.forall_mem_cons.mpr ⟨lw_p44, List.forall_mem_cons.mpr ⟨lw_p45, List.forall_mem_cons.mpr ⟨lw_p46, List.forall_mem_cons.mpr ⟨lw_p47, fun _ h => absurd h List.not_mem_nil⟩⟩⟩⟩⟩⟩⟩⟩⟩⟩⟩⟩⟩⟩⟩⟩
theorem lw_p48 : lw_okq (⟨"DetentionbureauModel", "openOf", "(I)I"⟩, 44) := ⟨⟨by decide +kernel, by decide +kernel⟩, List.mem_of_getElem? (i := 865) (by decide +kernel), List.mem_of_getElem? (i := 1166) (by decide +kernel), List.mem_of_getElem? (i := 1167) (by decide +kernel)⟩
theorem lw_p49 : lw_okq (⟨"DetentionbureauModel", "openWeights", "(I)I"⟩, 44) := ⟨⟨by decide +kernel, by decide +kernel⟩, List.mem_of_getElem? (i := 865) (by decide +kernel), List.mem_of_getElem? (i := 1174) (by decide +kernel), List.mem_of_getElem? (i := 1175) (by decide +kernel)⟩
theorem lw_p50 : lw_okq (⟨"DetentionbureauModel", "looksForBan", "(I)V"⟩, 44) := ⟨⟨by decide +kernel, by decide +kernel⟩, List.mem_of_getElem? (i := 865) (by decide +kernel), List.mem_of_getElem? (i := 1178) (by decide +kernel), List.mem_of_getElem? (i := 1179) (by decide +kernel)⟩
theorem lw_p51 : lw_okq (⟨"DetentionbureauModel", "decided", "(I)I"⟩, 44) := ⟨⟨by decide +kernel, by decide +kernel⟩, List.mem_of_getElem? (i := 865) (by decide +kernel), List.mem_of_getElem? (i := 1195) (by decide +kernel), List.mem_of_getElem? (i := 1196) (by decide +kernel)⟩
def lw_privs_4 : List (MethodName × Nat) := [(⟨"DetentionbureauModel", "openOf", "(I)I"⟩, 44), (⟨"DetentionbureauModel", "openWeights", "(I)I"⟩, 44), (⟨"DetentionbureauModel", "looksForBan", "(I)V"⟩, 44), (⟨"DetentionbureauModel", "decided", "(I)I"⟩, 44)]
theorem lw_r4 : ∀ q ∈ lw_privs_4, lw_okq q := List.forall_mem_cons.mpr ⟨lw_p48, List.forall_mem_cons.mpr ⟨lw_p49, List.forall_mem_cons.mpr ⟨lw_p50, List.forall_mem_cons.mpr ⟨lw_p51, fun _ h => absurd h List.not_mem_nil⟩⟩⟩⟩
def lw_privs : List (MethodName × Nat) := lw_privs_1 ++ (lw_privs_2 ++ (lw_privs_3 ++ (lw_privs_4)))
def lw_tbl : List Cond := k2_sels lw_privs ++ tables_1
theorem lw_privs_ok : ∀ q ∈ lw_privs, lw_okq q := by
  show ∀ q ∈ lw_privs_1 ++ (lw_privs_2 ++ (lw_privs_3 ++ (lw_privs_4))), lw_okq q
  exact List.forall_mem_append.mpr ⟨lw_r1, List.forall_mem_append.mpr ⟨lw_r2, List.forall_mem_append.mpr ⟨lw_r3, lw_r4⟩⟩⟩
-- ===== end of PART A; then your names; then what follows =====
end
section
/-! ===== BEGIN words of one list among another's, by their places ===== -/
theorem goodIn_r {big : List Cond} (ws : List Cond) (ps : List Nat) (hp : ws = ps.filterMap (fun i => big[i]?)) (h : ws.all goodWord = true) : GoodIn big ws := by
  intro w hw
  have h1 := List.all_eq_true.mp h w hw
  rw [hp] at hw
  obtain ⟨i, -, hi⟩ := List.mem_filterMap.mp hw
  have hm : w ∈ big := by first | exact List.mem_of_getElem? hi | exact List.getElem?_mem hi
  exact ⟨hm, good_of_word h1⟩
theorem goodIn_app {big a b : List Cond} (ha : GoodIn big a) (hb : GoodIn big b) : GoodIn big (a ++ b) := fun w h => (List.mem_append.mp h).elim (ha w) (hb w)
theorem goodIn_ca {big a b : List Cond} {c : Cond} (ha : GoodIn big (c :: a)) (hb : GoodIn big b) : GoodIn big (c :: (a ++ b)) := fun w h => (List.mem_cons.mp h).elim (fun e => ha w (List.mem_cons.mpr (Or.inl e))) (fun h => (List.mem_append.mp h).elim (fun h => ha w (List.mem_cons.mpr (Or.inr h))) (hb w))
theorem goodIn_sub {big ws : List Cond} (hm : ∀ w ∈ ws, w ∈ big) (h : ws.all goodWord = true) : GoodIn big ws := fun w hw => ⟨hm w hw, good_of_word (List.all_eq_true.mp h w hw)⟩
/-! ===== END ===== -/

/-! ===== BEGIN exceptions that leave a method, and their catching by the caller (launches without stack traces) ===== -/
section VXA
/-! The laws vx_back, vx_callV, vx_callS, vx_callSW, vx_throw0, vx_throwS follow proofs of the library, with one case more: JvmDerived/Free/Laws.lean (Back.of_free), Shelf42/LK1.lean (callV, callS), Shelf/KitTraced.lean (throwNew0V, throwNewS). -/
/-- where a method has thrown q: the class by its name, the cell, what was written, the world -/
def vx_T (XC : String → State → State → Prop) (st : State) (q : Addr) (t : State) (mc ms : Nat) (free : Addr → Prop) : Prop :=
  ∃ (E : String) (ce : Cell) (L : List Loc), XC E st t ∧ t.heap[q]? = some ce ∧ ce.vm = .none ∧ st.vm.findClass E = some ce.cls ∧ st.WarmedH t.vm ∧ st.sameButNew ({ t with vm := st.vm } : State) L mc ms ∧ ∀ z ∈ L, free z.base
def vx_Q (Qc : Array Value → State → Outcome → State → Prop) (XC : String → State → State → Prop) (mc ms : Nat) (free : Addr → Prop) : Array Value → State → Outcome → State → Prop := fun a st o t =>
  (Qc a st o t ∧ ∃ L, FrameEnd st o t L mc ms ∧ ∀ q ∈ L, free q.base) ∨ ∃ q, o = .threw q ∧ vx_T XC st q t mc ms free
/-- a callee that returns or throws -/
def vx_Met (l : Launch) (y : MethodName) (ws : List Cond) (rm : Room) (Pc : Array Value → State → Prop) (Qc : Array Value → State → Outcome → State → Prop) (XC : String → State → State → Prop) (mc ms : Nat) (free : Addr → Prop) : Prop :=
  MetFree l y (headSpec ws rm) Pc (fun _ _ _ _ _ => True) (vx_Q Qc XC mc ms free)
def vx_Post (XC : String → State → State → Prop) (mc ms : Nat) (free : Addr → Prop) : Pt → Array Value → Addr → Pt → Prop := fun A a q B =>
  ∃ (g : JFrame) (mk : MethodId) (t : State) (L : List Loc) (E : String) (ce : Cell), B.U.heap = t.heap ∧ B.U.vm = t.vm ∧ XC E (A.U.calling g mk a) t ∧ t.heap[q]? = some ce ∧ ce.vm = .none ∧ A.U.vm.findClass E = some ce.cls ∧ B.locs = A.locs ++ L ∧ (∀ z ∈ L, free z.base) ∧ B.cells = A.cells + mc ∧ B.slots = A.slots + ms
def vx_Back (l : Launch) (R : Room) (p : Program) (e : Env) (below : List Frame) (s : State) (sargs : Array Value) (y : MethodName) (len W9 : Nat)
    (Pre : Pt → Array Value → Prop) (Post : Pt → Array Value → Option Value → Pt → Prop) (PostX : Pt → Array Value → Addr → Pt → Prop) : Prop :=
  ∀ (m : MethodId) (meth : Method) (c : Code) (A : Pt) (g : JFrame) (ig : Instr) (mk : MethodId) (a : Array Value),
    Stand p l e R s m sargs below meth c A.U A.locs A.cells A.slots → g.method = m → g.locals.size = c.maxLocals → decode c.code g.pc = .ok (ig, len) →
    2 * g.monitorRoom + (g.stack.map fun v => v.category).sum ≤ W9 → A.U.methodNamed? y = some mk → Pre A a →
    (∃ (v : Option Value) (B : Pt), Stand p l e R s m sargs below meth c B.U B.locs B.cells B.slots ∧ Post A a v B ∧
      Steps p.tables e below (doInvoke e (A.U.setTop g) [] mk a).1 (B.U.setTop { g with pc := g.pc + len, stack := v.toList ++ g.stack })) ∨
    (∃ (q : Addr) (B : Pt), Stand p l e R s m sargs below meth c B.U B.locs B.cells B.slots ∧ PostX A a q B ∧
      Steps p.tables e below (doInvoke e (A.U.setTop g) [] mk a).1 ((B.U.setTop g).pushFrame (.throwing q)))
section Payer
variable {l : Launch} {R : Room} {p : Program} {e : Env} {below : List Frame} {s : State} {sargs : Array Value} {y : MethodName} {len W9 : Nat}
theorem vx_back {ws : List Cond} {rm : Room} {Pc : Array Value → State → Prop} {Qc : Array Value → State → Outcome → State → Prop} {XC : String → State → State → Prop} {mc ms : Nat} {free : Addr → Prop} {bytes : ByteArray} {maxL : Nat} {ret : Option FieldType}
    (hM : vx_Met l y ws rm Pc Qc XC mc ms free) (hblind : FrameBlind Pc) (hrc : rm.cells = mc) (hrs : rm.slots = ms)
    (hframes : rm.frames + 1 ≤ R.frames) (hlocals : W9 + (maxL + 11) + rm.locals ≤ R.locals)
    (hws : ∀ w ∈ ws, ∀ a' U, s.WarmedH U.vm → w.before a' U = true) (hcode : Cond.code y bytes maxL ret ∈ ws) (hinit : ∀ a' U, s.WarmedH U.vm → (Cond.initialized y.cls).before a' U = true) :
    vx_Back l R p e below s sargs y len W9 (PreOf R mc ms Pc) (PostOf Qc mc ms free) (vx_Post XC mc ms free) := by
  intro m meth c A g ig mk a X hg hsize hdg hW hn hp
  have h1 : (headSpec ws rm).pre.before a A.U = true := atoms_intro fun w hw => hws w hw _ _ X.warmed
  have h2 : (Cond.code y bytes maxL ret).before a A.U = true := hws _ hcode _ _ X.warmed
  have h3 : (Cond.initialized y.cls).before a A.U = true := hinit _ _ X.warmed
  have h4 : A.cells + (headSpec ws rm).room.cells ≤ R.cells := by rw [show (headSpec ws rm).room.cells = mc from hrc]; exact hp.1
  have h5 : A.slots + (headSpec ws rm).room.slots ≤ R.slots := by rw [show (headSpec ws rm).room.slots = ms from hrs]; exact hp.2.1
  have hPc : Pc a (A.U.calling g mk a) := hblind _ _ _ _ hp.2.2
  obtain ⟨U, Ls, c0, s0⟩ := A
  dsimp only [Pt.U, Pt.locs, Pt.cells, Pt.slots] at h1 h2 h3 h4 h5 X hn hPc ⊢
  obtain ⟨methY, cY, hmY, hcY, -, hlY, -, -, -, -⟩ := Cond.code_spec hn h2
  obtain ⟨kY, hkY, -⟩ := className_of_methodNamed hn
  have hinitY : kY.init = .initialized := Cond.initialized_spec (findClass_of_methodNamed hn) hkY h3
  have h : At U g.method c below := by rw [hg]; exact X.here
  have hlocals9 : W9 + (maxL + 11) + (headSpec ws rm).room.locals ≤ R.locals := hlocals
  have happ : (headSpec ws rm).appliesLoose y e.platform (U.calling g mk a) = true :=
    Spec.appliesLoose_calling (g := g) h hdg hn hkY hinitY
      (X.room_calling (g := g) (R' := (headSpec ws rm).room) hsize hmY hcY hframes (by rw [hlY]; omega) h4 h5) h1
  obtain ⟨mid, hmid⟩ := h.above
  have hfr : (U.setTop g).frames = (.java g :: mid) ++ below := by rw [State.frames_setTop' g h.top, hmid]; rfl
  obtain ⟨o, s₂, hsteps, -, hend, hq⟩ := Steps.callFree hM p X.admits X.cas X.clock (acts := []) hfr happ hPc trivial
  have hq' : vx_Q Qc XC mc ms free a (U.calling g mk a) o s₂ := hq
  rw [State.frames_setTop' g h.top] at hend
  obtain ⟨g₀, hg0⟩ := Option.isSome_iff_exists.mp h.top
  obtain ⟨r, hr⟩ := State.topJava?_eq_some.mp hg0
  have hr' : (({ U with heap := s₂.heap, slotsUsed := s₂.slotsUsed } : State).setVm s₂.vm).frames = .java g₀ :: r := hr
  rcases hq' with ⟨hqc, L, hfe, hL⟩ | ⟨q, rfl, E, ce, L, hx, hce, hcv, hcl, hW₂, hsm, hL⟩
  · obtain ⟨⟨v, rfl⟩, hW₂, e2, q2, q3, q4, q5, q6⟩ := id hfe
    have e3 : s₂ = ({ (U.calling g mk a).setFrames s₂.frames with heap := s₂.heap, slotsUsed := s₂.slotsUsed } : State).setVm s₂.vm := by
      have : s₂ = ({ s₂ with vm := (U.calling g mk a).vm } : State).setVm s₂.vm := rfl
      rw [e2] at this
      exact this
    obtain ⟨c₂, i₂, len₂, hc₂, hd₂, hf₂⟩ := hend
    have hW' : U.WarmedH s₂.vm := hW₂
    have hcc : c₂ = c := by
      have h1 : s₂.code? g.method = U.code? g.method := by
        rw [State.code?_eq, State.code?_eq, hW'.alike.method?]
      exact Option.some.inj (hc₂.symm.trans (h1.trans h.code))
    subst hcc
    have hlen : len₂ = len := by rw [hdg] at hd₂; cases hd₂; rfl
    subst hlen
    have hs₂ : s₂ = (({ U with heap := s₂.heap, slotsUsed := s₂.slotsUsed } : State).setVm s₂.vm).setTop { g with pc := g.pc + len₂, stack := v.toList ++ g.stack } := by
      refine e3.trans ?_
      rw [hf₂, State.calling_eq h.top, State.setFrames_setFrames, State.setTop_of_frames _ hr', hr]
      rfl
    have hsame : U.sameButNew ({ U with heap := s₂.heap, slotsUsed := s₂.slotsUsed } : State) L mc ms := by
      refine ⟨?_, q2, q3, q4, q5, q6⟩
      obtain ⟨t, ht, -⟩ := State.frames_cons hr
      show ({ U with heap := s₂.heap, slotsUsed := s₂.slotsUsed } : State) = { U.setFrames U.frames with heap := s₂.heap, slotsUsed := s₂.slotsUsed }
      rw [State.setFrames_self ht]
    subst hg
    refine Or.inl ⟨v, ⟨(({ U with heap := s₂.heap, slotsUsed := s₂.slotsUsed } : State).setVm s₂.vm), Ls ++ L, c0 + mc, s0 + ms⟩,
      ⟨X.admits, X.cas, X.clock, X.frames, X.room, X.hears, X.method, X.code, (X.here.setHeapUsed s₂.heap s₂.slotsUsed).setVm hW'.alike, X.tail, State.WarmedH.trans X.warmed hW', X.limits, X.bytes, X.same.trans (hsame.setVm s.vm)⟩,
      ⟨g, mk, s₂, L, rfl, rfl, hqc, rfl, hL, rfl, rfl⟩, ?_⟩
    show Steps p.tables e below _ ((({ U with heap := s₂.heap, slotsUsed := s₂.slotsUsed } : State).setVm s₂.vm).setTop { g with pc := g.pc + len₂, stack := v.toList ++ g.stack })
    rw [← hs₂]
    exact hsteps
  · obtain ⟨e2, q2, q3, q4, q5, q6⟩ := id hsm
    have e3 : s₂ = ({ (U.calling g mk a).setFrames s₂.frames with heap := s₂.heap, slotsUsed := s₂.slotsUsed } : State).setVm s₂.vm := by
      have : s₂ = ({ s₂ with vm := (U.calling g mk a).vm } : State).setVm s₂.vm := rfl
      rw [e2] at this
      exact this
    have hf₂ : s₂.frames = .throwing q :: .java g :: U.frames.tail := hend
    have hW' : U.WarmedH s₂.vm := hW₂
    have hs₂ : s₂ = ((({ U with heap := s₂.heap, slotsUsed := s₂.slotsUsed } : State).setVm s₂.vm).setTop g).pushFrame (.throwing q) := by
      refine e3.trans ?_
      rw [hf₂, State.calling_eq h.top, State.setFrames_setFrames, State.pushFrame, State.frames_setTop _ hr', State.setTop_of_frames _ hr', State.setFrames_setFrames, hr]
      rfl
    have hsame : U.sameButNew ({ U with heap := s₂.heap, slotsUsed := s₂.slotsUsed } : State) L mc ms := by
      refine ⟨?_, q2, q3, q4, q5, q6⟩
      obtain ⟨t, ht, -⟩ := State.frames_cons hr
      show ({ U with heap := s₂.heap, slotsUsed := s₂.slotsUsed } : State) = { U.setFrames U.frames with heap := s₂.heap, slotsUsed := s₂.slotsUsed }
      rw [State.setFrames_self ht]
    subst hg
    refine Or.inr ⟨q, ⟨(({ U with heap := s₂.heap, slotsUsed := s₂.slotsUsed } : State).setVm s₂.vm), Ls ++ L, c0 + mc, s0 + ms⟩,
      ⟨X.admits, X.cas, X.clock, X.frames, X.room, X.hears, X.method, X.code, (X.here.setHeapUsed s₂.heap s₂.slotsUsed).setVm hW'.alike, X.tail, State.WarmedH.trans X.warmed hW', X.limits, X.bytes, X.same.trans (hsame.setVm s.vm)⟩,
      ⟨g, mk, s₂, L, E, ce, rfl, rfl, hx, hce, hcv, hcl, rfl, hL, rfl, rfl⟩, ?_⟩
    show Steps p.tables e below _ (((({ U with heap := s₂.heap, slotsUsed := s₂.slotsUsed } : State).setVm s₂.vm).setTop g).pushFrame (.throwing q))
    rw [← hs₂]
    exact hsteps
end Payer
section Calls
variable {p : Program} {l : Launch} {e : Env} {R : Room} {s : State} {m : MethodId} {args : Array Value} {below : List Frame} {meth : Method} {c : Code} {T : State} {locs : List Loc} {cells slots : Nat}
theorem vx_callV (X : Stand p l e R s m args below meth c T locs cells slots) (hexec : p.tables.exec = Jvm.exec) {own C : String} {index : Nat} {y : MethodName} {bytes : ByteArray} {maxL : Nat} {ret : Option FieldType}
    (hown : s.vm.findClass own = some m.cls) (hlink : (Cond.methodLink own index y).before args s = true) (hinst : (Cond.instanceMethod y).before args s = true) (hsel : (Cond.selects C y y).before args s = true)
    (hcode : (Cond.code y bytes maxL ret).before args s = true) (hy : y.cls ≠ "java/lang/invoke/MethodHandle" ∧ y.cls ≠ "java/lang/invoke/VarHandle")
    {W9 : Nat} {Pre : Pt → Array Value → Prop} {Post : Pt → Array Value → Option Value → Pt → Prop} {PostX : Pt → Array Value → Addr → Pt → Prop} (hK : vx_Back l R p e below s args y 3 W9 Pre Post PostX)
    {b : Addr} {cellB : Cell} (hcell : T.heap[b]? = some cellB) (hobj : cellB.vm.isStatics = false) (hcls : s.vm.findClass C = some cellB.cls)
    {g : JFrame} (hg : g.method = m) (hsize : g.locals.size = c.maxLocals) {argsL rest : List Value} (hlen : ∀ sig, parseMethodDescriptor y.desc = some sig → argsL.length = sig.parameters.length)
    (hstack : g.stack = argsL.reverse ++ .ref b :: rest) (hW : 2 * g.monitorRoom + (rest.map fun v => v.category).sum ≤ W9) (hdg : decode c.code g.pc = .ok (.invokevirtual index, 3))
    (hpre : ∀ vm₁, s.WarmedH vm₁ → Pre ⟨T.setVm vm₁, locs, cells, slots⟩ (Value.ref b :: argsL).toArray) :
    (∃ (v : Option Value) (vm₁ : Vm) (B : Pt), s.WarmedH vm₁ ∧ Stand p l e R s m args below meth c B.U B.locs B.cells B.slots ∧ Post ⟨T.setVm vm₁, locs, cells, slots⟩ (Value.ref b :: argsL).toArray v B ∧
      ∀ target, Steps p.tables e below (B.U.setTop { g with pc := g.pc + 3, stack := v.toList ++ rest }) target → Steps p.tables e below (T.setTop g) target) ∨
    (∃ (q : Addr) (vm₁ : Vm) (B : Pt), s.WarmedH vm₁ ∧ Stand p l e R s m args below meth c B.U B.locs B.cells B.slots ∧ PostX ⟨T.setVm vm₁, locs, cells, slots⟩ (Value.ref b :: argsL).toArray q B ∧
      Steps p.tables e below (T.setTop g) ((B.U.setTop { g with stack := rest }).pushFrame (.throwing q))) := by
  obtain ⟨mk, methM, hnamed, hmethM, hstM, habM⟩ := Cond.instanceMethod_spec hinst
  obtain ⟨methM', cM, hmethM', -, -, -, -, -, -, hsigM⟩ := Cond.code_spec hnamed hcode
  cases hmethM.symm.trans hmethM'
  obtain ⟨c2, r2, m2, q1, q2, q3, q4, kP, hkP, hkPi⟩ := Cond.selects_spec hsel
  cases hcls.symm.trans q1
  cases (State.methodFound?_of_named hnamed hy).symm.trans q2
  cases hnamed.symm.trans q3
  have hselP : selectMethod e.platform s.vm cellB.cls mk = .method mk := by rw [Launch.admits_selectMethod X.admits]; exact q4
  obtain ⟨vm₁, X₁, hstep₁⟩ := X.invokevirtual hexec hown hlink hnamed hmethM hstM hkP hkPi hy (a := b) (cell := cellB) hcell
    (fun z h => by rw [h] at hobj; cases hobj) hselP hmethM habM hkP hkPi (g := g) hg (argsL := argsL) (rest := rest) (hlen _ hsigM) hstack hdg
  rcases hK m meth c ⟨T.setVm vm₁, locs, cells, slots⟩ { g with stack := rest } (.invokevirtual index) mk (Value.ref b :: argsL).toArray X₁ hg hsize hdg hW (X₁.named hnamed) (hpre vm₁ X₁.warmed) with ⟨v, B, X', hpost, hsteps⟩ | ⟨q, B, X', hpost, hsteps⟩
  · exact Or.inl ⟨v, vm₁, B, X₁.warmed, X', hpost, fun target h => hstep₁ _ fun acts => by rw [doInvoke_state]; exact hsteps.trans h⟩
  · exact Or.inr ⟨q, vm₁, B, X₁.warmed, X', hpost, hstep₁ _ fun acts => by rw [doInvoke_state]; exact hsteps⟩
theorem vx_callS (X : Stand p l e R s m args below meth c T locs cells slots) (hexec : p.tables.exec = Jvm.exec) {own : String} {index : Nat} {y : MethodName} {bytes : ByteArray} {maxL : Nat} {ret : Option FieldType}
    (hown : s.vm.findClass own = some m.cls) (hlink : (Cond.methodLink own index y).before args s = true) (hstat : (Cond.static y).before args s = true) (hinit : (Cond.initialized y.cls).before args s = true)
    (hcode : (Cond.code y bytes maxL ret).before args s = true) (hy : y.cls ≠ "java/lang/invoke/MethodHandle" ∧ y.cls ≠ "java/lang/invoke/VarHandle")
    {W9 : Nat} {Pre : Pt → Array Value → Prop} {Post : Pt → Array Value → Option Value → Pt → Prop} {PostX : Pt → Array Value → Addr → Pt → Prop} (hK : vx_Back l R p e below s args y 3 W9 Pre Post PostX)
    {g : JFrame} (hg : g.method = m) (hsize : g.locals.size = c.maxLocals) {argsL rest : List Value} (hlen : ∀ sig, parseMethodDescriptor y.desc = some sig → argsL.length = sig.parameters.length)
    (hstack : g.stack = argsL.reverse ++ rest) (hW : 2 * g.monitorRoom + (rest.map fun v => v.category).sum ≤ W9) (hdg : decode c.code g.pc = .ok (.invokestatic index, 3))
    (hpre : ∀ vm₁, s.WarmedH vm₁ → Pre ⟨T.setVm vm₁, locs, cells, slots⟩ argsL.toArray) :
    (∃ (v : Option Value) (vm₁ : Vm) (B : Pt), s.WarmedH vm₁ ∧ Stand p l e R s m args below meth c B.U B.locs B.cells B.slots ∧ Post ⟨T.setVm vm₁, locs, cells, slots⟩ argsL.toArray v B ∧
      ∀ target, Steps p.tables e below (B.U.setTop { g with pc := g.pc + 3, stack := v.toList ++ rest }) target → Steps p.tables e below (T.setTop g) target) ∨
    (∃ (q : Addr) (vm₁ : Vm) (B : Pt), s.WarmedH vm₁ ∧ Stand p l e R s m args below meth c B.U B.locs B.cells B.slots ∧ PostX ⟨T.setVm vm₁, locs, cells, slots⟩ argsL.toArray q B ∧
      Steps p.tables e below (T.setTop g) ((B.U.setTop { g with stack := rest }).pushFrame (.throwing q))) := by
  obtain ⟨mk, hnamed⟩ := Cond.code_named hcode
  obtain ⟨methM, cM, hmethM, -, -, -, -, -, -, hsigM⟩ := Cond.code_spec hnamed hcode
  have hstatic : methM.isStatic = true := Cond.static_spec hnamed hmethM hstat
  obtain ⟨kP, hkP, -⟩ := className_of_methodNamed hnamed
  have hinitP : kP.init = .initialized := Cond.initialized_spec (findClass_of_methodNamed hnamed) hkP hinit
  obtain ⟨vm₁, X₁, hstep₁⟩ := X.invokestatic hexec hown hlink hnamed hmethM hstatic hkP hinitP hy (g := g) hg (argsL := argsL) (rest := rest) (hlen _ hsigM) hstack hdg
  rcases hK m meth c ⟨T.setVm vm₁, locs, cells, slots⟩ { g with stack := rest } (.invokestatic index) mk argsL.toArray X₁ hg hsize hdg hW (X₁.named hnamed) (hpre vm₁ X₁.warmed) with ⟨v, B, X', hpost, hsteps⟩ | ⟨q, B, X', hpost, hsteps⟩
  · exact Or.inl ⟨v, vm₁, B, X₁.warmed, X', hpost, fun target h => hstep₁ _ fun acts => by rw [doInvoke_state]; exact hsteps.trans h⟩
  · exact Or.inr ⟨q, vm₁, B, X₁.warmed, X', hpost, hstep₁ _ fun acts => by rw [doInvoke_state]; exact hsteps⟩
end Calls
theorem vx_cls {s : State} {T : State} {vm₁ : Vm} {E : String} {k : ClassId} (hW : s.WarmedH vm₁) (h : (T.setVm vm₁).vm.findClass E = some k) : s.vm.findClass E = some k := by
  have h1 : vm₁.findClass E = some k := h
  rw [hW.alike.findClass] at h1
  exact h1
/-- the method's frame g, with q thrown over it -/
def vx_W (p : Program) (l : Launch) (e : Env) (R : Room) (s : State) (m : MethodId) (args : Array Value) (below : List Frame) (meth : Method) (c : Code) (H : Heap) (locs : List Loc) (cells slots : Nat) (Q : State → Prop) (g : JFrame) (q : Addr) : Prop :=
  ∀ T : State, T.heap = H → Stand p l e R s m args below meth c T locs cells slots → ∃ t, Steps p.tables e below ((T.setTop g).pushFrame (.throwing q)) t ∧ Q t
def vx_Run (p : Program) (l : Launch) (e : Env) (R : Room) (s : State) (m : MethodId) (args : Array Value) (below : List Frame) (meth : Method) (c : Code) (H : Heap) (locs : List Loc) (cells slots mc ms : Nat) (g : JFrame) (rest : List Value) (Qa : State → Outcome → State → Prop) (XC : String → State → State → Prop) (free : Addr → Prop) : Prop :=
  ∀ T : State, T.heap = H → Stand p l e R s m args below meth c T locs cells slots →
    (∃ (v : Option Value) (st₀ t T' : State) (L : List Loc), st₀.heap = H ∧ Stand p l e R s m args below meth c T' (locs ++ L) (cells + mc) (slots + ms) ∧ (∀ q ∈ L, free q.base) ∧ T'.heap = t.heap ∧ T'.vm = t.vm ∧ Qa st₀ (.returned v) t ∧
      Goes p e below T g T' { g with pc := g.pc + 3, stack := v.toList ++ rest }) ∨
    (∃ (q : Addr) (st₀ t T' : State) (L : List Loc) (E : String) (ce : Cell), st₀.heap = H ∧ Stand p l e R s m args below meth c T' (locs ++ L) (cells + mc) (slots + ms) ∧ (∀ z ∈ L, free z.base) ∧ T'.heap = t.heap ∧ T'.vm = t.vm ∧ XC E st₀ t ∧ t.heap[q]? = some ce ∧ ce.vm = .none ∧ s.vm.findClass E = some ce.cls ∧
      Steps p.tables e below (T.setTop g) ((T'.setTop { g with stack := rest }).pushFrame (.throwing q)))
def vx_X {S : Type} (px : S → Prop) (B : String → S → State → Prop) (A : Nat → Prop) : String → State → State → Prop := fun E st t => ∃ u : S, px u ∧ B E u t ∧ va_F A st t
section Runs
variable {p : Program} {l : Launch} {e : Env} {R : Room} {s : State} {m : MethodId} {args : Array Value} {below : List Frame} {meth : Method} {c : Code} {H : Heap} {locs : List Loc} {cells slots : Nat}
variable {y : MethodName} {bytes cc : ByteArray} {maxL nL mc ms n index : Nat} {ret : Option FieldType} {ws : List Cond} {rm : Room} {Pc : Array Value → State → Prop} {Qc : Array Value → State → Outcome → State → Prop} {XC : String → State → State → Prop} {free : Addr → Prop} {Ts : List Cond} {own C : String} {b : Addr} {As rest : List Value} {g : JFrame}
theorem vx_callBack (cb : CallB R s args own index y bytes maxL ret ws rm mc ms n) (hM : vx_Met l y ws rm Pc Qc XC mc ms free) (hbl : FrameBlind Pc) : vx_Back l R p e below s args y 3 8 (PreOf R mc ms Pc) (PostOf Qc mc ms free) (vx_Post XC mc ms free) := by
  obtain ⟨hrc, hrs, hfr, hlo, hws, hcw, -, hini, -⟩ := cb
  exact vx_back (bytes := bytes) (maxL := maxL) (ret := ret) hM hbl hrc hrs hfr hlo hws hcw (fun a' U hW => word_at hW (Or.inl (by first | rfl | simp [Cond.onTables, Cond.keeps, Cond.steady])) hini)
theorem vx_runV (S : CallFix p m c cc nL s args Ts own) (hM : vx_Met l y ws rm Pc Qc XC mc ms free) (cw : CallW R s args own C index y bytes maxL ret ws rm mc ms n) (hp : PreV s H C b Pc As)
    (hg : g.method = m) (hn : As.length = n) (hsize : g.locals.size = nL) (hstack : g.stack = As.reverse ++ .ref b :: rest) (hW : 2 * g.monitorRoom + (rest.map fun v => v.category).sum ≤ 8) (hdg : decode cc g.pc = .ok (.invokevirtual index, 3)) (hf : cells + mc ≤ R.cells ∧ slots + ms ≤ R.slots) :
    vx_Run p l e R s m args below meth c H locs cells slots mc ms g rest (Qc (Value.ref b :: As).toArray) XC free := by
  have hK : vx_Back l R p e below s args y 3 8 (PreOf R mc ms Pc) (PostOf Qc mc ms free) (vx_Post XC mc ms free) := vx_callBack cw.1 hM hp.1
  obtain ⟨⟨-, -, -, -, -, -, hcode, -, hy, hlen, hl⟩, hin, hse⟩ := cw
  obtain ⟨hx, hb, hml, ho, -⟩ := S
  obtain ⟨-, ⟨cellB, hcB, hoB, hclB⟩, hPc⟩ := hp
  intro T hT X
  rcases vx_callV X hx (C := C) (bytes := bytes) (maxL := maxL) (ret := ret) ho hl hin hse hcode hy hK (by rw [hT]; exact hcB) hoB hclB hg (hsize.trans hml.symm) (argsL := As) (rest := rest) (fun sig h => hn.trans (hlen sig h)) hstack hW (by rw [hb]; exact hdg)
    (fun vm₁ hW₁ => ⟨hf.1, hf.2, hPc (T.setVm vm₁) hT hW₁⟩) with ⟨v, vm₁, ⟨U', l2, c2, s2⟩, hW₁, X', ⟨g', mk, t, L, e1, e2, hq, h1, hL, h2, h3⟩, st⟩ | ⟨q, vm₁, ⟨U', l2, c2, s2⟩, hW₁, X', ⟨g', mk, t, L, E, ce, e1, e2, hq, hce, hcv, hcl, h1, hL, h2, h3⟩, st⟩
  · dsimp only [Pt.U, Pt.locs, Pt.cells, Pt.slots] at X' e1 e2 h1 h2 h3 st
    subst h1; subst h2; subst h3
    exact Or.inl ⟨v, (T.setVm vm₁).calling g' mk (Value.ref b :: As).toArray, t, U', L, hT, X', hL, e1, e2, hq, st⟩
  · dsimp only [Pt.U, Pt.locs, Pt.cells, Pt.slots] at X' e1 e2 h1 h2 h3 st hcl
    subst h1; subst h2; subst h3
    exact Or.inr ⟨q, (T.setVm vm₁).calling g' mk (Value.ref b :: As).toArray, t, U', L, E, ce, hT, X', hL, e1, e2, hq, hce, hcv, vx_cls hW₁ hcl, st⟩
theorem vx_runS (S : CallFix p m c cc nL s args Ts own) (hM : vx_Met l y ws rm Pc Qc XC mc ms free) (cw : CallB R s args own index y bytes maxL ret ws rm mc ms n ∧ (Cond.static y).before args s = true) (hp : PreS s H Pc As)
    (hg : g.method = m) (hn : As.length = n) (hsize : g.locals.size = nL) (hstack : g.stack = As.reverse ++ rest) (hW : 2 * g.monitorRoom + (rest.map fun v => v.category).sum ≤ 8) (hdg : decode cc g.pc = .ok (.invokestatic index, 3)) (hf : cells + mc ≤ R.cells ∧ slots + ms ≤ R.slots) :
    vx_Run p l e R s m args below meth c H locs cells slots mc ms g rest (Qc As.toArray) XC free := by
  have hK : vx_Back l R p e below s args y 3 8 (PreOf R mc ms Pc) (PostOf Qc mc ms free) (vx_Post XC mc ms free) := vx_callBack cw.1 hM hp.1
  obtain ⟨⟨-, -, -, -, -, -, hcode, hini, hy, hlen, hl⟩, hstt⟩ := cw
  obtain ⟨hx, hb, hml, ho, -⟩ := S
  intro T hT X
  rcases vx_callS X hx (bytes := bytes) (maxL := maxL) (ret := ret) ho hl hstt hini hcode hy hK hg (hsize.trans hml.symm) (argsL := As) (rest := rest) (fun sig h => hn.trans (hlen sig h)) hstack hW (by rw [hb]; exact hdg)
    (fun vm₁ hW₁ => ⟨hf.1, hf.2, hp.2 (T.setVm vm₁) hT hW₁⟩) with ⟨v, vm₁, ⟨U', l2, c2, s2⟩, hW₁, X', ⟨g', mk, t, L, e1, e2, hq, h1, hL, h2, h3⟩, st⟩ | ⟨q, vm₁, ⟨U', l2, c2, s2⟩, hW₁, X', ⟨g', mk, t, L, E, ce, e1, e2, hq, hce, hcv, hcl, h1, hL, h2, h3⟩, st⟩
  · dsimp only [Pt.U, Pt.locs, Pt.cells, Pt.slots] at X' e1 e2 h1 h2 h3 st
    subst h1; subst h2; subst h3
    exact Or.inl ⟨v, (T.setVm vm₁).calling g' mk As.toArray, t, U', L, hT, X', hL, e1, e2, hq, st⟩
  · dsimp only [Pt.U, Pt.locs, Pt.cells, Pt.slots] at X' e1 e2 h1 h2 h3 st hcl
    subst h1; subst h2; subst h3
    exact Or.inr ⟨q, (T.setVm vm₁).calling g' mk As.toArray, t, U', L, E, ce, hT, X', hL, e1, e2, hq, hce, hcv, vx_cls hW₁ hcl, st⟩
end Runs
section Rows
variable {p : Program} {l : Launch} {e : Env} {R : Room} {s : State} {m : MethodId} {args : Array Value} {below : List Frame} {meth : Method} {c : Code} {H : Heap} {locs : List Loc} {cells slots : Nat} {Q : State → Prop}
variable {mc ms : Nat} {free : Addr → Prop} {A0 A1 : Nat → Prop} {H0 : Heap} {a : Array Value} {pc : Nat} {ls : Array Slot} {st0 rest : List Value}
theorem vx_keep {st₀ t T' : State} {L : List Loc} (h0 : st₀.heap = H) (e1 : T'.heap = t.heap) (hS : va_S A0 H0 H locs) (hA : ∀ q, q < H.size → A1 q → A0 q) (hf : ∀ q, free q → A0 q) (hL : ∀ q ∈ L, free q.base) (hF : va_F A1 st₀ t) :
    H.size ≤ T'.heap.size ∧ (∀ q : Nat, q < H.size → ¬ A1 q → T'.heap[q]? = H[q]?) ∧ va_S A0 H0 T'.heap (locs ++ L) := by
  obtain ⟨hz, hk⟩ := hF
  rw [h0] at hz hk
  exact ⟨by rw [e1]; exact hz, fun q h1 h2 => by rw [e1]; exact hk q h1 h2,
    ⟨Nat.le_trans hS.1 (by rw [e1]; exact hz), fun q h1 h2 => by rw [e1, hk q (Nat.lt_of_lt_of_le h1 hS.1) (fun z => h2 (hA q (Nat.lt_of_lt_of_le h1 hS.1) z))]; exact hS.2.1 q h1 h2, fun q hq => by
      rcases List.mem_append.mp hq with h | h
      · exact hS.2.2 q h
      · exact hf _ (hL q h)⟩⟩
theorem vx_calli {S SX : Type} {post : Int32 → S → Prop} {px : SX → Prop} {B : S → State → Prop} {BX : String → SX → State → Prop} {AX : Nat → Prop} (hr : vx_Run p l e R s m args below meth c H locs cells slots mc ms (F0 m pc ls st0) rest (va_Qi post B A1 a) (vx_X px BX AX) free) (hS : va_S A0 H0 H locs) (hA : ∀ q, q < H.size → A1 q → A0 q) (hf : ∀ q, free q → A0 q) (hAX : ∀ q, q < H.size → AX q → A0 q)
    (kx : ∀ (E : String) (ce : Cell) (q9 : Addr) (u : SX) (t : State) (H1 : Heap) (locs1 : List Loc), t.heap = H1 → s.vm.Alike t.vm → px u → BX E u t → H.size ≤ H1.size → (∀ q : Nat, q < H.size → ¬ AX q → H1[q]? = H[q]?) → va_S A0 H0 H1 locs1 → H1[q9]? = some ce → ce.vm = .none → s.vm.findClass E = some ce.cls → vx_W p l e R s m args below meth c H1 locs1 (cells + mc) (slots + ms) Q (F0 m pc ls rest) q9)
    (kk : ∀ (r : Int32) (u : S) (t : State) (H1 : Heap) (locs1 : List Loc), t.heap = H1 → s.vm.Alike t.vm → post r u → B u t → H.size ≤ H1.size → (∀ q : Nat, q < H.size → ¬ A1 q → H1[q]? = H[q]?) → va_S A0 H0 H1 locs1 → W p l e R s m args below meth c H1 locs1 (cells + mc) (slots + ms) Q (F0 m (pc + 3) ls (.int r :: rest))) : W p l e R s m args below meth c H locs cells slots Q (F0 m pc ls st0) := by
  intro T hT X
  rcases hr T hT X with ⟨v, st₀, t, T', L, h0, X', hL, e1, e2, ⟨⟨r, u, hv, hp, hb⟩, hF⟩, st⟩ | ⟨q, st₀, t, T', L, E, ce, h0, X', hL, e1, e2, ⟨u, hp, hb, hF⟩, hce, hcv, hcl, st⟩
  · cases hv
    obtain ⟨k1, k2, k3⟩ := vx_keep h0 e1 hS hA hf hL hF
    obtain ⟨t2, a1, b1⟩ := kk r u t T'.heap (locs ++ L) e1.symm (by rw [← e2]; exact X'.warmed.alike) hp hb k1 k2 k3 T' rfl X'
    exact ⟨t2, st t2 a1, b1⟩
  · obtain ⟨k1, k2, k3⟩ := vx_keep h0 e1 hS hAX hf hL hF
    obtain ⟨t2, a1, b1⟩ := kx E ce q u t T'.heap (locs ++ L) e1.symm (by rw [← e2]; exact X'.warmed.alike) hp hb k1 k2 k3 (by rw [e1]; exact hce) hcv hcl T' rfl X'
    exact ⟨t2, st.trans a1, b1⟩
theorem vx_calll {S SX : Type} {post : Int64 → S → Prop} {px : SX → Prop} {B : S → State → Prop} {BX : String → SX → State → Prop} {AX : Nat → Prop} (hr : vx_Run p l e R s m args below meth c H locs cells slots mc ms (F0 m pc ls st0) rest (va_Ql post B A1 a) (vx_X px BX AX) free) (hS : va_S A0 H0 H locs) (hA : ∀ q, q < H.size → A1 q → A0 q) (hf : ∀ q, free q → A0 q) (hAX : ∀ q, q < H.size → AX q → A0 q)
    (kx : ∀ (E : String) (ce : Cell) (q9 : Addr) (u : SX) (t : State) (H1 : Heap) (locs1 : List Loc), t.heap = H1 → s.vm.Alike t.vm → px u → BX E u t → H.size ≤ H1.size → (∀ q : Nat, q < H.size → ¬ AX q → H1[q]? = H[q]?) → va_S A0 H0 H1 locs1 → H1[q9]? = some ce → ce.vm = .none → s.vm.findClass E = some ce.cls → vx_W p l e R s m args below meth c H1 locs1 (cells + mc) (slots + ms) Q (F0 m pc ls rest) q9)
    (kk : ∀ (r : Int64) (u : S) (t : State) (H1 : Heap) (locs1 : List Loc), t.heap = H1 → s.vm.Alike t.vm → post r u → B u t → H.size ≤ H1.size → (∀ q : Nat, q < H.size → ¬ A1 q → H1[q]? = H[q]?) → va_S A0 H0 H1 locs1 → W p l e R s m args below meth c H1 locs1 (cells + mc) (slots + ms) Q (F0 m (pc + 3) ls (.long r :: rest))) : W p l e R s m args below meth c H locs cells slots Q (F0 m pc ls st0) := by
  intro T hT X
  rcases hr T hT X with ⟨v, st₀, t, T', L, h0, X', hL, e1, e2, ⟨⟨r, u, hv, hp, hb⟩, hF⟩, st⟩ | ⟨q, st₀, t, T', L, E, ce, h0, X', hL, e1, e2, ⟨u, hp, hb, hF⟩, hce, hcv, hcl, st⟩
  · cases hv
    obtain ⟨k1, k2, k3⟩ := vx_keep h0 e1 hS hA hf hL hF
    obtain ⟨t2, a1, b1⟩ := kk r u t T'.heap (locs ++ L) e1.symm (by rw [← e2]; exact X'.warmed.alike) hp hb k1 k2 k3 T' rfl X'
    exact ⟨t2, st t2 a1, b1⟩
  · obtain ⟨k1, k2, k3⟩ := vx_keep h0 e1 hS hAX hf hL hF
    obtain ⟨t2, a1, b1⟩ := kx E ce q u t T'.heap (locs ++ L) e1.symm (by rw [← e2]; exact X'.warmed.alike) hp hb k1 k2 k3 (by rw [e1]; exact hce) hcv hcl T' rfl X'
    exact ⟨t2, st.trans a1, b1⟩
theorem vx_callf {S SX : Type} {post : UInt32 → S → Prop} {px : SX → Prop} {B : S → State → Prop} {BX : String → SX → State → Prop} {AX : Nat → Prop} (hr : vx_Run p l e R s m args below meth c H locs cells slots mc ms (F0 m pc ls st0) rest (va_Qf post B A1 a) (vx_X px BX AX) free) (hS : va_S A0 H0 H locs) (hA : ∀ q, q < H.size → A1 q → A0 q) (hf : ∀ q, free q → A0 q) (hAX : ∀ q, q < H.size → AX q → A0 q)
    (kx : ∀ (E : String) (ce : Cell) (q9 : Addr) (u : SX) (t : State) (H1 : Heap) (locs1 : List Loc), t.heap = H1 → s.vm.Alike t.vm → px u → BX E u t → H.size ≤ H1.size → (∀ q : Nat, q < H.size → ¬ AX q → H1[q]? = H[q]?) → va_S A0 H0 H1 locs1 → H1[q9]? = some ce → ce.vm = .none → s.vm.findClass E = some ce.cls → vx_W p l e R s m args below meth c H1 locs1 (cells + mc) (slots + ms) Q (F0 m pc ls rest) q9)
    (kk : ∀ (r : UInt32) (u : S) (t : State) (H1 : Heap) (locs1 : List Loc), t.heap = H1 → s.vm.Alike t.vm → post r u → B u t → H.size ≤ H1.size → (∀ q : Nat, q < H.size → ¬ A1 q → H1[q]? = H[q]?) → va_S A0 H0 H1 locs1 → W p l e R s m args below meth c H1 locs1 (cells + mc) (slots + ms) Q (F0 m (pc + 3) ls (.float r :: rest))) : W p l e R s m args below meth c H locs cells slots Q (F0 m pc ls st0) := by
  intro T hT X
  rcases hr T hT X with ⟨v, st₀, t, T', L, h0, X', hL, e1, e2, ⟨⟨r, u, hv, hp, hb⟩, hF⟩, st⟩ | ⟨q, st₀, t, T', L, E, ce, h0, X', hL, e1, e2, ⟨u, hp, hb, hF⟩, hce, hcv, hcl, st⟩
  · cases hv
    obtain ⟨k1, k2, k3⟩ := vx_keep h0 e1 hS hA hf hL hF
    obtain ⟨t2, a1, b1⟩ := kk r u t T'.heap (locs ++ L) e1.symm (by rw [← e2]; exact X'.warmed.alike) hp hb k1 k2 k3 T' rfl X'
    exact ⟨t2, st t2 a1, b1⟩
  · obtain ⟨k1, k2, k3⟩ := vx_keep h0 e1 hS hAX hf hL hF
    obtain ⟨t2, a1, b1⟩ := kx E ce q u t T'.heap (locs ++ L) e1.symm (by rw [← e2]; exact X'.warmed.alike) hp hb k1 k2 k3 (by rw [e1]; exact hce) hcv hcl T' rfl X'
    exact ⟨t2, st.trans a1, b1⟩
theorem vx_calld {S SX : Type} {post : UInt64 → S → Prop} {px : SX → Prop} {B : S → State → Prop} {BX : String → SX → State → Prop} {AX : Nat → Prop} (hr : vx_Run p l e R s m args below meth c H locs cells slots mc ms (F0 m pc ls st0) rest (va_Qd post B A1 a) (vx_X px BX AX) free) (hS : va_S A0 H0 H locs) (hA : ∀ q, q < H.size → A1 q → A0 q) (hf : ∀ q, free q → A0 q) (hAX : ∀ q, q < H.size → AX q → A0 q)
    (kx : ∀ (E : String) (ce : Cell) (q9 : Addr) (u : SX) (t : State) (H1 : Heap) (locs1 : List Loc), t.heap = H1 → s.vm.Alike t.vm → px u → BX E u t → H.size ≤ H1.size → (∀ q : Nat, q < H.size → ¬ AX q → H1[q]? = H[q]?) → va_S A0 H0 H1 locs1 → H1[q9]? = some ce → ce.vm = .none → s.vm.findClass E = some ce.cls → vx_W p l e R s m args below meth c H1 locs1 (cells + mc) (slots + ms) Q (F0 m pc ls rest) q9)
    (kk : ∀ (r : UInt64) (u : S) (t : State) (H1 : Heap) (locs1 : List Loc), t.heap = H1 → s.vm.Alike t.vm → post r u → B u t → H.size ≤ H1.size → (∀ q : Nat, q < H.size → ¬ A1 q → H1[q]? = H[q]?) → va_S A0 H0 H1 locs1 → W p l e R s m args below meth c H1 locs1 (cells + mc) (slots + ms) Q (F0 m (pc + 3) ls (.double r :: rest))) : W p l e R s m args below meth c H locs cells slots Q (F0 m pc ls st0) := by
  intro T hT X
  rcases hr T hT X with ⟨v, st₀, t, T', L, h0, X', hL, e1, e2, ⟨⟨r, u, hv, hp, hb⟩, hF⟩, st⟩ | ⟨q, st₀, t, T', L, E, ce, h0, X', hL, e1, e2, ⟨u, hp, hb, hF⟩, hce, hcv, hcl, st⟩
  · cases hv
    obtain ⟨k1, k2, k3⟩ := vx_keep h0 e1 hS hA hf hL hF
    obtain ⟨t2, a1, b1⟩ := kk r u t T'.heap (locs ++ L) e1.symm (by rw [← e2]; exact X'.warmed.alike) hp hb k1 k2 k3 T' rfl X'
    exact ⟨t2, st t2 a1, b1⟩
  · obtain ⟨k1, k2, k3⟩ := vx_keep h0 e1 hS hAX hf hL hF
    obtain ⟨t2, a1, b1⟩ := kx E ce q u t T'.heap (locs ++ L) e1.symm (by rw [← e2]; exact X'.warmed.alike) hp hb k1 k2 k3 (by rw [e1]; exact hce) hcv hcl T' rfl X'
    exact ⟨t2, st.trans a1, b1⟩
theorem vx_callv {S SX : Type} {post : S → Prop} {px : SX → Prop} {B : S → State → Prop} {BX : String → SX → State → Prop} {AX : Nat → Prop} (hr : vx_Run p l e R s m args below meth c H locs cells slots mc ms (F0 m pc ls st0) rest (va_Qv post B A1 a) (vx_X px BX AX) free) (hS : va_S A0 H0 H locs) (hA : ∀ q, q < H.size → A1 q → A0 q) (hf : ∀ q, free q → A0 q) (hAX : ∀ q, q < H.size → AX q → A0 q)
    (kx : ∀ (E : String) (ce : Cell) (q9 : Addr) (u : SX) (t : State) (H1 : Heap) (locs1 : List Loc), t.heap = H1 → s.vm.Alike t.vm → px u → BX E u t → H.size ≤ H1.size → (∀ q : Nat, q < H.size → ¬ AX q → H1[q]? = H[q]?) → va_S A0 H0 H1 locs1 → H1[q9]? = some ce → ce.vm = .none → s.vm.findClass E = some ce.cls → vx_W p l e R s m args below meth c H1 locs1 (cells + mc) (slots + ms) Q (F0 m pc ls rest) q9)
    (kk : ∀ (u : S) (t : State) (H1 : Heap) (locs1 : List Loc), t.heap = H1 → s.vm.Alike t.vm → post u → B u t → H.size ≤ H1.size → (∀ q : Nat, q < H.size → ¬ A1 q → H1[q]? = H[q]?) → va_S A0 H0 H1 locs1 → W p l e R s m args below meth c H1 locs1 (cells + mc) (slots + ms) Q (F0 m (pc + 3) ls (rest))) : W p l e R s m args below meth c H locs cells slots Q (F0 m pc ls st0) := by
  intro T hT X
  rcases hr T hT X with ⟨v, st₀, t, T', L, h0, X', hL, e1, e2, ⟨⟨u, hv, hp, hb⟩, hF⟩, st⟩ | ⟨q, st₀, t, T', L, E, ce, h0, X', hL, e1, e2, ⟨u, hp, hb, hF⟩, hce, hcv, hcl, st⟩
  · cases hv
    obtain ⟨k1, k2, k3⟩ := vx_keep h0 e1 hS hA hf hL hF
    obtain ⟨t2, a1, b1⟩ := kk u t T'.heap (locs ++ L) e1.symm (by rw [← e2]; exact X'.warmed.alike) hp hb k1 k2 k3 T' rfl X'
    exact ⟨t2, st t2 a1, b1⟩
  · obtain ⟨k1, k2, k3⟩ := vx_keep h0 e1 hS hAX hf hL hF
    obtain ⟨t2, a1, b1⟩ := kx E ce q u t T'.heap (locs ++ L) e1.symm (by rw [← e2]; exact X'.warmed.alike) hp hb k1 k2 k3 (by rw [e1]; exact hce) hcv hcl T' rfl X'
    exact ⟨t2, st.trans a1, b1⟩
/-- caught by the row x of this method's table; the rows ahead don't take it -/
theorem vx_catch {own name : String} {E : String} {ce : Cell} {q : Addr} (hown : s.vm.findClass own = some m.cls) (pre : List ExceptionTableEntry) (x : ExceptionTableEntry) (suf : List ExceptionTableEntry) (hsplit : c.exceptionTable.toList = pre ++ x :: suf)
    (hpass : ∀ z ∈ pre, covers z pc = false ∨ (z.catchType ≠ 0 ∧ ∃ nm : String, (Cond.classLink own z.catchType nm).before args s = true ∧ va_Nc E nm s)) (hx : covers x pc = true) (h0 : x.catchType ≠ 0)
    (hlink : (Cond.classLink own x.catchType name).before args s = true) (hcast : (Cond.castable E name).before args s = true) (hcell : H[q]? = some ce) (hv : ce.vm = .none) (hcl : s.vm.findClass E = some ce.cls)
    (kk : W p l e R s m args below meth c H locs cells slots Q (F0 m x.handlerPc ls [.ref q])) : vx_W p l e R s m args below meth c H locs cells slots Q (F0 m pc ls rest) q := by
  intro T hT X
  have hpl : e.platform.magicAccessors = ({} : Platform).magicAccessors := by rw [X.admits.platform]
  obtain ⟨c3, c4, hc3, hc4, hasg⟩ := Cond.castable_spec hcast
  cases Option.some.inj (hc3.symm.trans hcl)
  obtain ⟨c5, hc5, hcl5⟩ := Cond.classLink_spec hown hlink e.platform hpl
  cases Option.some.inj (hc4.symm.trans hc5)
  obtain ⟨vm', X', st⟩ := X.thenCaughtThrough q (g := F0 m pc ls rest) rfl (Steps.refl _) (by rw [hT]; exact hcell) (by rw [hv]; rfl) (by obtain ⟨k9, h9, -⟩ := Vm.findClass_spec hcl; exact ⟨k9, h9⟩) pre x suf hsplit
    (fun z hz => by
      rcases hpass z hz with h | ⟨hz0, nm, hl1, hn1⟩
      · exact Or.inl h
      · obtain ⟨c6, hc6, hcl6⟩ := Cond.classLink_spec hown hl1 e.platform hpl
        obtain ⟨a8, b8, h1, h2, h3⟩ := hn1
        cases Option.some.inj (h1.symm.trans hcl)
        cases Option.some.inj (h2.symm.trans hc6)
        exact Or.inr ⟨hz0, _, hcl6, h3⟩) hx (Or.inr ⟨h0, c4, hcl5, hasg⟩)
  obtain ⟨t, a1, b1⟩ := kk (T.setVm vm') hT X'
  exact ⟨t, st.trans a1, b1⟩
end Rows
section Ends
variable {p : Program} {l : Launch} {e : Env} {R : Room} {s : State} {m : MethodId} {args : Array Value} {below : List Frame} {meth : Method} {c : Code} {H : Heap} {locs : List Loc} {cells slots : Nat} {Q : State → Prop}
variable {mc ms : Nat} {free : Addr → Prop} {A0 A1 : Nat → Prop} {H0 : Heap} {a : Array Value} {ls : Array Slot} {st0 rest : List Value}
variable {Qc : Array Value → State → Outcome → State → Prop} {XC : String → State → State → Prop}
/-- what a body that may throw owes at its end -/
def vx_MQ (below : List Frame) (Qc : Array Value → State → Outcome → State → Prop) (XC : String → State → State → Prop) (a : Array Value) (s : State) (mc ms : Nat) (free : Addr → Prop) : State → Prop := fun t =>
  ∃ o, t.status = .running ∧ Ended t below o ∧ vx_Q Qc XC mc ms free a s o t
theorem vx_ret {g : JFrame} {mc ms : Nat} (k : W p l e R s m args below meth c H locs cells slots (MQ below Qc args s mc ms free) g) : W p l e R s m args below meth c H locs cells slots (vx_MQ below Qc XC args s mc ms free) g := by
  intro T hT X
  obtain ⟨t, a1, o, b1, b2, b3, b4⟩ := k T hT X
  exact ⟨t, a1, o, b1, b2, Or.inl ⟨b3, b4⟩⟩
/-- not caught here: it goes on to the caller -/
theorem vx_widen {g : JFrame} {q : Addr} {k n : Nat} (h1 : cells ≤ k) (h2 : slots ≤ n) (kk : vx_W p l e R s m args below meth c H locs k n Q g q) : vx_W p l e R s m args below meth c H locs cells slots Q g q := fun T hT X => kk T hT (stand_widen X h1 h2)
theorem vx_out {pc : Nat} {E : String} {ce : Cell} {q : Addr} {mc ms : Nat} (hout : ∀ x ∈ c.exceptionTable.toList, covers x pc = false) (hlocks : meth.locks = false) (hcell : H[q]? = some ce) (hv : ce.vm = .none) (hcl : s.vm.findClass E = some ce.cls)
    (hx : ∀ t : State, t.heap = H → s.vm.Alike t.vm → XC E s t) (hf : ∀ z ∈ locs, free z.base) (hc : cells ≤ mc) (hs : slots ≤ ms) :
    vx_W p l e R s m args below meth c H locs cells slots (vx_MQ below Qc XC args s mc ms free) (F0 m pc ls rest) q := by
  intro T hT X
  obtain ⟨st1, hrun, hend, hW, hsm⟩ := X.leaveThrown q (g := F0 m pc ls rest) rfl rfl rfl hout hlocks
  have hcell9 : (T.setFrames (.throwing q :: below)).heap[q]? = some ce := by
    show T.heap[q]? = some ce
    rw [hT]; exact hcell
  exact ⟨_, st1, .threw q, hrun, hend, Or.inr ⟨q, rfl, E, ce, locs, hx _ hT hW.alike, hcell9, hv, hcl, hW, hsm.mono hc hs, hf⟩⟩
theorem vx_frame {U : State} {k n : Nat} (h : s.sameButNew ({ U with vm := s.vm } : State) locs k n) : s.heap.size ≤ U.heap.size ∧ ∀ q : Nat, q < s.heap.size → (∀ z ∈ locs, z.base ≠ q) → U.heap[q]? = s.heap[q]? := by
  obtain ⟨-, h2, -, -, -, h6⟩ := h
  refine ⟨h2, fun q hq hz => ?_⟩
  obtain ⟨c9, e1, e2, e3, e4⟩ := h6 q _ (Array.getElem?_eq_getElem hq)
  have hs : c9.slots = (s.heap[q]).slots := Array.ext_getElem? fun i => e4 i fun hm => hz _ hm rfl
  have h9 : c9 = s.heap[q] := by
    rw [hs] at e2
    exact e2
  have e5 : U.heap[q]? = some c9 := e1
  rw [e5, h9, Array.getElem?_eq_getElem hq]
/-- the words of a throw but the four that speak of the heap -/
def vx_no (w : Cond) : Bool := decide (w ≠ .isRef (.static Bundle.tN "UNASSIGNED_STACK" Bundle.steD)) && decide (w ≠ .isRef (.static Bundle.tN "SUPPRESSED_SENTINEL" Bundle.listD)) && decide (w ≠ .laysStatic Bundle.tN "UNASSIGNED_STACK" Bundle.steD) && decide (w ≠ .laysStatic Bundle.tN "SUPPRESSED_SENTINEL" Bundle.listD)
def vx_at0 (own : String) (ic : Nat) (X : String) (names : List String) : List Cond := (Bundle.ownAtoms0 own ic X names).filter vx_no
def vx_atS (own : String) (ic : Nat) (X : String) (names : List String) : List Cond := (Bundle.ownAtoms own ic X names).filter vx_no
/-- a word that the tables alone decide, or a good one -/
def vx_ot (w : Cond) : Bool := w.onTables || goodWord w
theorem vx_ot_at {args a' : Array Value} {s U : State} {w : Cond} (hW : s.WarmedH U.vm) (hvm : s.vm = U.vm) (hg : vx_ot w = true) (h : w.before args s = true) : w.before a' U = true := by
  simp only [vx_ot, Bool.or_eq_true] at hg
  rcases hg with hg | hg
  · exact va_tabs hg hvm h
  · exact word_at hW (good_of_word hg) h
/-- a list's words: the good ones out of the method's own list, the others by premises of their own -/
theorem vx_hat {args : Array Value} {s : State} {L B : List Cond} (h1 : ∀ w ∈ L.filter goodWord, w.before args s = true) (h2 : ∀ w ∈ L.filter (fun w => !goodWord w), w ∈ B) (h3 : ∀ w ∈ B, w.before args s = true) : ∀ w ∈ L, w.before args s = true := by
  intro w hw
  by_cases g : goodWord w = true
  · exact h1 w (List.mem_filter.mpr ⟨hw, g⟩)
  · refine h3 w (h2 w (List.mem_filter.mpr ⟨hw, ?_⟩))
    show (!goodWord w) = true
    cases hgw : goodWord w
    · rfl
    · exact absurd hgw g
theorem vx_c {args : Array Value} {s : State} {w : Cond} {B : List Cond} (h : w.before args s = true) (t : ∀ w ∈ B, w.before args s = true) : ∀ w' ∈ w :: B, w'.before args s = true := fun w' h' => (List.mem_cons.mp h').elim (fun e => by rw [e]; exact h) (t w')
theorem vx_n {args : Array Value} {s : State} : ∀ w ∈ ([] : List Cond), w.before args s = true := fun _ h => nomatch h
theorem vx_own {args : Array Value} {s : State} {L : List Cond} (h1 : ∀ w ∈ L.filter vx_no, w.before args s = true)
    (hU : (Cond.isRef (.static Bundle.tN "UNASSIGNED_STACK" Bundle.steD)).before args s = true) (hN : (Cond.isRef (.static Bundle.tN "SUPPRESSED_SENTINEL" Bundle.listD)).before args s = true)
    (lU : (Cond.laysStatic Bundle.tN "UNASSIGNED_STACK" Bundle.steD).before args s = true) (lN : (Cond.laysStatic Bundle.tN "SUPPRESSED_SENTINEL" Bundle.listD).before args s = true) : ∀ w ∈ L, w.before args s = true := by
  intro w hw
  by_cases e1 : w = .isRef (.static Bundle.tN "UNASSIGNED_STACK" Bundle.steD)
  · rw [e1]; exact hU
  · by_cases e2 : w = .isRef (.static Bundle.tN "SUPPRESSED_SENTINEL" Bundle.listD)
    · rw [e2]; exact hN
    · by_cases e3 : w = .laysStatic Bundle.tN "UNASSIGNED_STACK" Bundle.steD
      · rw [e3]; exact lU
      · by_cases e4 : w = .laysStatic Bundle.tN "SUPPRESSED_SENTINEL" Bundle.listD
        · rw [e4]; exact lN
        · exact h1 w (List.mem_filter.mpr ⟨hw, by unfold vx_no; rw [decide_eq_true e1, decide_eq_true e2, decide_eq_true e3, decide_eq_true e4]; rfl⟩)
/-- where a static field lies, its class's statics cell in H -/
def vx_L (C n d : String) (A : Nat → Prop) (U : State) (H : Heap) : Prop := ∃ (c : ClassId) (k : Class) (i : Nat) (f : Field) (a : Nat) (cell : Cell), U.vm.findClass C = some c ∧ U.fieldFound? C n d = some (c, k, i, f) ∧ f.isStatic = true ∧ k.statics = some a ∧ H[a]? = some cell ∧ cell.vm.isStatics = true ∧ cell.cls = c ∧ f.slot < cell.slots.size ∧ k.staticTypes[f.slot]? = some f.type ∧ ¬ A a
theorem vx_L.moved {C n d : String} {A : Nat → Prop} {u U : State} {H : Heap} (hvm : u.vm.Alike U.vm) (h : vx_L C n d A u H) : vx_L C n d A U H := by
  obtain ⟨c, k, i, f, a, cell, h1, h2, h3, h4, h5, h6, h7, h8, h9, h10⟩ := h
  obtain ⟨k', hi', he⟩ := State.fieldFound?_setVm hvm h2
  exact ⟨c, k', i, f, a, cell, by rw [hvm.findClass]; exact h1, hi', h3, by rw [he]; exact h4, h5, h6, h7, h8, by rw [he]; exact h9, h10⟩
theorem vx_L.kept {C n d : String} {A : Nat → Prop} {U : State} {H H1 : Heap} (h : vx_L C n d A U H) (hq : ∀ a : Nat, a < H.size → ¬ A a → H1[a]? = H[a]?) : vx_L C n d A U H1 := by
  obtain ⟨c, k, i, f, a, cell, h1, h2, h3, h4, h5, h6, h7, h8, h9, h10⟩ := h
  exact ⟨c, k, i, f, a, cell, h1, h2, h3, h4, by rw [hq a (Array.getElem?_eq_some_iff.mp h5).1 h10]; exact h5, h6, h7, h8, h9, h10⟩
theorem vx_L.narrow {C n d : String} {A B : Nat → Prop} {U : State} {H : Heap} (h : vx_L C n d A U H) (hAB : ∀ q, B q → A q) : vx_L C n d B U H := by
  obtain ⟨c, k, i, f, a, cell, h1, h2, h3, h4, h5, h6, h7, h8, h9, h10⟩ := h
  exact ⟨c, k, i, f, a, cell, h1, h2, h3, h4, h5, h6, h7, h8, h9, fun z => h10 (hAB _ z)⟩
theorem vx_L.word {C n d : String} {A : Nat → Prop} {s : State} {args : Array Value} (h : vx_L C n d A s s.heap) : (Cond.laysStatic C n d).before args s = true := by
  obtain ⟨c, k, i, f, a, cell, h1, h2, h3, h4, h5, h6, h7, h8, h9, -⟩ := h
  show (Cond.laysStatic C n d).holds args s none s [] = true
  exact Cond.laysStatic_of h1 h2 h3 h4 h5 h6 h7 h8 h9
/-- .. and what it holds: null or some reference -/
def vx_Zq (C n d : String) (A : Nat → Prop) (U : State) (H : Heap) : Prop := va_Zq C n d A U H ∧ vx_L C n d A U H
theorem vx_Zq.moved {C n d : String} {A : Nat → Prop} {u U : State} {H : Heap} (hvm : u.vm.Alike U.vm) (h : vx_Zq C n d A u H) : vx_Zq C n d A U H := ⟨va_Zq.moved hvm h.1, vx_L.moved hvm h.2⟩
theorem vx_Zq.kept {C n d : String} {A : Nat → Prop} {U : State} {H H1 : Heap} (h : vx_Zq C n d A U H) (hq : ∀ a : Nat, a < H.size → ¬ A a → H1[a]? = H[a]?) : vx_Zq C n d A U H1 := ⟨va_Zq.kept h.1 hq, vx_L.kept h.2 hq⟩
theorem vx_Zq.narrow {C n d : String} {A B : Nat → Prop} {U : State} {H : Heap} (h : vx_Zq C n d A U H) (hAB : ∀ q, B q → A q) : vx_Zq C n d B U H := ⟨va_Zq.narrow h.1 hAB, vx_L.narrow h.2 hAB⟩
theorem vx_Zqof {args : Array Value} {s : State} {C n d : String} {A : Nat → Prop} (hl : (Cond.laysStatic C n d).before args s = true) (hini : (Cond.initialized C).before args s = true) (h : (Cond.isRef (.static C n d)).before args s = true) (hA : ∀ a : Nat, a < s.heap.size → ¬ A a) : vx_Zq C n d A s s.heap := by
  refine ⟨va_Zqof hl hini h hA, ?_⟩
  obtain ⟨c, k, i, f, a, cell, h1, h2, h3, h4, h5, h6, h7, h8, h9⟩ := Cond.laysStatic_spec hl
  exact ⟨c, k, i, f, a, cell, h1, h2, h3, h4, h5, h6, h7, h8, h9, hA a (Array.getElem?_eq_some_iff.mp h5).1⟩
theorem vx_isRef {C n d : String} {v : Value} {A : Nat → Prop} {s : State} {args : Array Value} (h : va_Z C n d v A s s.heap) (hv : v.isRef = true) : (Cond.isRef (.static C n d)).before args s = true := by
  obtain ⟨cf, kf, fi, f, a, cell, h1, h2, h3, h4, h5, h6, h7, -⟩ := h
  have he : (Term.static C n d).eval args s none [] s = some v := by
    simp [Term.eval, State.fieldNamed?, h1, h2, h4, h5, h6, h7]
  simp only [Cond.before, Cond.holds, Cond.value, he]
  cases v <;> simp_all [Value.isRef]
theorem vx_isRefq {C n d : String} {A : Nat → Prop} {s : State} {args : Array Value} (h : va_Zq C n d A s s.heap) : (Cond.isRef (.static C n d)).before args s = true := by
  rcases h with h | ⟨t, h⟩
  · exact vx_isRef h rfl
  · exact vx_isRef h rfl
/-- the same frame, seen from here: as if the method were called anew in this heap -/
theorem vx_rebase {T : State} (X : Stand p l e R s m args below meth c T locs cells slots) {R' : Room} (hf : R'.frames ≤ R.frames) (hl : R'.locals ≤ R.locals) (hc : cells + R'.cells ≤ R.cells) (hs : slots + R'.slots ≤ R.slots) :
    Stand p l e R' ((T.setVm s.vm).setFrames (.invoking m args :: below)) m args below meth c T [] 0 0 := by
  have htop : (T.setVm s.vm).topJava?.isSome := X.here.top
  have hF : ((T.setVm s.vm).setFrames (.invoking m args :: below)).frames = .invoking m args :: below := State.frames_setFrames _ (State.cur_lt_of_top htop)
  obtain ⟨g₀, hg0⟩ := Option.isSome_iff_exists.mp htop
  obtain ⟨r, hr⟩ := State.topJava?_eq_some.mp hg0
  have hl9 : e.platform.stackLimits (T.setVm s.vm).me = e.platform.stackLimits s.me := X.limits
  have hb9 : (T.setVm s.vm).me.stackBytes = s.me.stackBytes := X.bytes
  refine ⟨X.admits, X.cas, X.clock, hF, ?_, X.hears, X.method, X.code, X.here, X.tail, X.warmed, ?_, ?_, ?_⟩
  · have h := X.room
    have hU : ((T.setVm s.vm).setFrames (.invoking m args :: below)).localsInUse = s.localsInUse := by
      rw [State.localsInUse_invoking hF (meth := meth) (c := c) X.method X.code, State.localsInUse_invoking X.frames X.method X.code]
    simp only [State.hasRoom, Bool.and_eq_true, decide_eq_true_eq] at h ⊢
    obtain ⟨⟨⟨⟨h1, h2, h3, h4, h5, h6⟩, h7⟩, h8⟩, h9⟩ := h
    rw [X.frames, List.length_cons] at h2 h3
    have q1 := X.heapSize
    have q2 := X.used
    simp only [hF, hU, List.length_cons, State.stackLimits_setFrames, State.stackBytes_setFrames, hl9, hb9]
    refine ⟨⟨⟨⟨by omega, by omega, by omega, by omega, by omega, h6⟩, ?_⟩, ?_⟩, X.book⟩
    · show T.heap.size + R'.cells ≤ e.platform.maxCells
      omega
    · show T.slotsUsed + R'.slots ≤ e.platform.maxSlots
      omega
  · rw [State.stackLimits_setFrames]; rfl
  · rw [State.stackBytes_setFrames]; rfl
  · refine ⟨?_, Nat.le_refl _, Nat.le_refl _, ?_, ?_, fun a c9 h9 => ⟨c9, h9, rfl, rfl, fun _ _ => rfl⟩⟩
    · obtain ⟨t, ht, -⟩ := State.frames_cons hr
      show T.setVm s.vm = { ((T.setVm s.vm).setFrames (.invoking m args :: below)).setFrames (T.setVm s.vm).frames with heap := T.heap, slotsUsed := T.slotsUsed }
      rw [State.setFrames_setFrames, State.setFrames_self ht]
      rfl
    · show T.slotsUsed = T.slotsUsed + ((T.heap.toList.drop T.heap.size).map (·.slots.size)).sum
      rw [List.drop_eq_nil_of_le (Nat.le_of_eq Array.length_toList)]
      rfl
    · show ((T.heap.toList.drop T.heap.size).map (·.slots.size)).sum ≤ 0
      rw [List.drop_eq_nil_of_le (Nat.le_of_eq Array.length_toList)]
      exact Nat.le_refl _
/-- 'throw new E()': new; dup; invokespecial; athrow -/
theorem vx_throw0 {cc : ByteArray} {pc : Nat} (hexec : p.tables.exec = Jvm.exec) (hb : c.code = cc) (hl : l.stackTraces = false) {own cls : String} {names : List String} {ik ic mc ms : Nat} {A : Nat → Prop}
    (hown : s.vm.findClass own = some m.cls) (hcls : Bundle.fit cls = true) (hnames : ∀ n ∈ names, Bundle.fit n = true)
    (hk : (Cond.classLink own ik cls).before args s = true) (hini : (Cond.initialized cls).before args s = true) (hat : ∀ w ∈ vx_at0 own ic cls names, w.before args s = true)
    (hgood : ∀ w ∈ Cond.classLink own ik cls :: Cond.initialized cls :: vx_at0 own ic cls names, vx_ot w = true)
    (hU : vx_Zq Bundle.tN "UNASSIGNED_STACK" Bundle.steD A s s.heap) (hN : vx_Zq Bundle.tN "SUPPRESSED_SENTINEL" Bundle.listD A s s.heap) (hS : va_S A s.heap H locs) (hsize : ls.size = c.maxLocals)
    (d0 : decode cc pc = .ok (.new ik, 3)) (d3 : decode cc (pc + 3) = .ok (.dup, 1)) (d4 : decode cc (pc + 4) = .ok (.invokespecial ic, 3)) (d7 : decode cc (pc + 7) = .ok (.athrow, 1))
    (hout : ∀ x ∈ c.exceptionTable.toList, covers x (pc + 7) = false)
    (hRframes : names.length + 3 < R.frames) (hRlocals : (rest.map fun v => v.category).sum + (13 * (names.length + 1) + 42) ≤ R.locals) (hRcells : cells + 1 ≤ R.cells) (hRslots : slots + 6 ≤ R.slots) (hlocks : meth.locks = false)
    (hx : ∀ t : State, s.vm.Alike t.vm → H.size ≤ t.heap.size → (∀ q : Nat, q < H.size → t.heap[q]? = H[q]?) → XC cls s t)
    (hf : ∀ z ∈ locs, free z.base) (hc : cells + 1 ≤ mc) (hs : slots + 6 ≤ ms) :
    W p l e R s m args below meth c H locs cells slots (vx_MQ below Qc XC args s mc ms free) (F0 m pc ls rest) := by
  intro T hT X
  have htr : e.platform.stackTraces = false := (show e.platform.stackTraces = l.stackTraces by rw [X.admits.platform]).trans hl
  have Y := vx_rebase X (R' := { frames := R.frames, locals := R.locals, cells := 1, slots := 6 }) (Nat.le_refl _) (Nat.le_refl _) hRcells hRslots
  obtain ⟨s', hA⟩ : ∃ z, z = (T.setVm s.vm).setFrames (.invoking m args :: below) := ⟨_, rfl⟩
  rw [← hA] at Y
  have hvm : s'.vm = s.vm := by rw [hA]; rfl
  have hhp : s'.heap = H := by rw [hA]; exact hT
  have hW0 : s.WarmedH s'.vm := by rw [hvm]; exact State.WarmedH.refl s
  have hat' : ∀ w ∈ vx_at0 own ic cls names, w.before args s' = true := fun w hw => vx_ot_at hW0 hvm.symm (hgood w (List.mem_cons_of_mem _ (List.mem_cons_of_mem _ hw))) (hat w hw)
  have hk' : (Cond.classLink own ik cls).before args s' = true := vx_ot_at hW0 hvm.symm (hgood _ List.mem_cons_self) hk
  have hini' : (Cond.initialized cls).before args s' = true := vx_ot_at hW0 hvm.symm (hgood _ (List.mem_cons_of_mem _ List.mem_cons_self)) hini
  have hU' : vx_Zq Bundle.tN "UNASSIGNED_STACK" Bundle.steD A s' s'.heap := by rw [hhp]; exact vx_Zq.moved hW0.alike (hU.kept hS.2.1)
  have hN' : vx_Zq Bundle.tN "SUPPRESSED_SENTINEL" Bundle.listD A s' s'.heap := by rw [hhp]; exact vx_Zq.moved hW0.alike (hN.kept hS.2.1)
  have h : ∀ w ∈ Bundle.ownAtoms0 own ic cls names, w.before args s' = true := vx_own hat' (vx_isRefq hU'.1) (vx_isRefq hN'.1) hU'.2.word hN'.2.word
  have hown' : s'.vm.findClass own = some m.cls := by rw [hvm]; exact hown
  have hins : (Cond.instantiable cls 6).before args s' = true := h _ (by simp [Bundle.ownAtoms0])
  obtain ⟨vm₁, cX, kX, hfX, hkX, -, -, X₁, st1⟩ := Y.newCold hexec (own := own) (C := cls) (index := ik) (n := 6) hown' hk' hins hini'
    (g := F0 m pc ls rest) rfl (by rw [hb]; exact d0) (Nat.le_refl _) (Nat.le_refl _)
  generalize hT1 : (T.setVm vm₁).pushCell { cls := cX, slots := kX.instanceTypes.map defaultValue, vm := .none } = T1 at X₁ st1
  have hcat : (Value.ref T.heap.size).category = 1 := rfl
  have hcellA : T1.heap[T.heap.size]? = some (freshCell cX kX) := by rw [← hT1]; exact State.heap_pushCell_size _ _
  have d3' : decode c.code (pc + 3) = .ok (.dup, 1) := by rw [hb]; exact d3
  obtain ⟨U, hsteps, hrun, hend, hW, hsame, ce, hce, hO⟩ := X₁.ctorThrow0 hexec htr (own := own) (cls := cls) (names := names) (ic := ic) hown' hcls hnames h (fun x hx => nomatch hx) hfX hkX hcellA (by rw [hhp, hT]; exact Nat.le_refl _)
    (g := { method := m, pc := pc + 4, locals := ls, stack := .ref T.heap.size :: .ref T.heap.size :: rest, locked := none }) rfl hsize rfl rfl (rest := rest) rfl
    (by rw [hb]; exact d4) (by rw [hb]; exact d7) hout hRframes (by simp only [List.map_cons, List.sum_cons, hcat]; omega) hlocks
  obtain ⟨f1, f2⟩ := vx_frame hsame
  rw [hhp] at f1 f2
  have hWs : s.WarmedH U.vm := State.WarmedH.trans hW0 hW
  have hcl : s.vm.findClass cls = some ce.cls := by
    have h9 := hO.cls
    rw [hvm] at h9
    exact h9
  have hall : s.sameButNew ({ U with vm := s.vm } : State) locs mc ms := by
    subst hA
    obtain ⟨e1, e2⟩ := hsame
    rw [State.setFrames_setFrames] at e1
    have h2 : (T.setVm s.vm).sameButNew ({ U with vm := s.vm } : State) [] (0 + 1) (0 + 6) := ⟨e1, e2⟩
    have h3 := X.same.trans h2
    rw [List.append_nil] at h3
    exact h3.mono hc hs
  refine ⟨U, ?_, .threw T.heap.size, hrun, hend, Or.inr ⟨T.heap.size, rfl, cls, ce, locs, hx U hWs.alike f1 (fun q hq => f2 q hq (fun z hz => nomatch hz)), hce, hO.vm, hcl, hWs, hall, hf⟩⟩
  refine st1 _ ?_
  show Steps p.tables e below (T1.setTop { method := m, pc := pc + 3, locals := ls, stack := .ref T.heap.size :: rest, locked := none }) _
  jvm_step X₁.here [X₁.here.top, hexec, d3', Value.category]
  exact hsteps
/-- 'throw new E("text")': new; dup; ldc; invokespecial; athrow -/
theorem vx_throwS {cc : ByteArray} {pc : Nat} (hexec : p.tables.exec = Jvm.exec) (hb : c.code = cc) (hl : l.stackTraces = false) {own cls text : String} {names : List String} {ik is ic mc ms sa : Nat} {A : Nat → Prop}
    (hown : s.vm.findClass own = some m.cls) (hcls : Bundle.fit cls = true) (hnames : ∀ n ∈ names, Bundle.fit n = true)
    (hk : (Cond.classLink own ik cls).before args s = true) (hini : (Cond.initialized cls).before args s = true) (hstr : vk_R own is text sa s) (hat : ∀ w ∈ vx_atS own ic cls names, w.before args s = true)
    (hgood : ∀ w ∈ Cond.classLink own ik cls :: Cond.initialized cls :: vx_atS own ic cls names, vx_ot w = true)
    (hU : vx_Zq Bundle.tN "UNASSIGNED_STACK" Bundle.steD A s s.heap) (hN : vx_Zq Bundle.tN "SUPPRESSED_SENTINEL" Bundle.listD A s s.heap) (hS : va_S A s.heap H locs) (hsize : ls.size = c.maxLocals)
    (d0 : decode cc pc = .ok (.new ik, 3)) (d3 : decode cc (pc + 3) = .ok (.dup, 1)) (d4 : decode cc (pc + 4) = .ok (.ldc is, 2)) (d6 : decode cc (pc + 6) = .ok (.invokespecial ic, 3)) (d9 : decode cc (pc + 9) = .ok (.athrow, 1))
    (hout : ∀ x ∈ c.exceptionTable.toList, covers x (pc + 9) = false)
    (hRframes : names.length + 3 < R.frames) (hRlocals : (rest.map fun v => v.category).sum + (13 * (names.length + 1) + 43) ≤ R.locals) (hRcells : cells + 1 ≤ R.cells) (hRslots : slots + 6 ≤ R.slots) (hlocks : meth.locks = false)
    (hx : ∀ t : State, s.vm.Alike t.vm → H.size ≤ t.heap.size → (∀ q : Nat, q < H.size → t.heap[q]? = H[q]?) → XC cls s t)
    (hf : ∀ z ∈ locs, free z.base) (hc : cells + 1 ≤ mc) (hs : slots + 6 ≤ ms) :
    W p l e R s m args below meth c H locs cells slots (vx_MQ below Qc XC args s mc ms free) (F0 m pc ls rest) := by
  intro T hT X
  have htr : e.platform.stackTraces = false := (show e.platform.stackTraces = l.stackTraces by rw [X.admits.platform]).trans hl
  have Y := vx_rebase X (R' := { frames := R.frames, locals := R.locals, cells := 1, slots := 6 }) (Nat.le_refl _) (Nat.le_refl _) hRcells hRslots
  obtain ⟨s', hA⟩ : ∃ z, z = (T.setVm s.vm).setFrames (.invoking m args :: below) := ⟨_, rfl⟩
  rw [← hA] at Y
  have hvm : s'.vm = s.vm := by rw [hA]; rfl
  have hhp : s'.heap = H := by rw [hA]; exact hT
  have hW0 : s.WarmedH s'.vm := by rw [hvm]; exact State.WarmedH.refl s
  have hat' : ∀ w ∈ vx_atS own ic cls names, w.before args s' = true := fun w hw => vx_ot_at hW0 hvm.symm (hgood w (List.mem_cons_of_mem _ (List.mem_cons_of_mem _ hw))) (hat w hw)
  have hk' : (Cond.classLink own ik cls).before args s' = true := vx_ot_at hW0 hvm.symm (hgood _ List.mem_cons_self) hk
  have hini' : (Cond.initialized cls).before args s' = true := vx_ot_at hW0 hvm.symm (hgood _ (List.mem_cons_of_mem _ List.mem_cons_self)) hini
  have hU' : vx_Zq Bundle.tN "UNASSIGNED_STACK" Bundle.steD A s' s'.heap := by rw [hhp]; exact vx_Zq.moved hW0.alike (hU.kept hS.2.1)
  have hN' : vx_Zq Bundle.tN "SUPPRESSED_SENTINEL" Bundle.listD A s' s'.heap := by rw [hhp]; exact vx_Zq.moved hW0.alike (hN.kept hS.2.1)
  have h : ∀ w ∈ Bundle.ownAtoms own ic cls names, w.before args s' = true := vx_own hat' (vx_isRefq hU'.1) (vx_isRefq hN'.1) hU'.2.word hN'.2.word
  have hown' : s'.vm.findClass own = some m.cls := by rw [hvm]; exact hown
  have hins : (Cond.instantiable cls 6).before args s' = true := h _ (by simp [Bundle.ownAtoms])
  obtain ⟨vm₁, cX, kX, hfX, hkX, -, -, X₁, st1⟩ := Y.newCold hexec (own := own) (C := cls) (index := ik) (n := 6) hown' hk' hins hini'
    (g := F0 m pc ls rest) rfl (by rw [hb]; exact d0) (Nat.le_refl _) (Nat.le_refl _)
  generalize hT1 : (T.setVm vm₁).pushCell { cls := cX, slots := kX.instanceTypes.map defaultValue, vm := .none } = T1 at X₁ st1
  have hcat : (Value.ref T.heap.size).category = 1 := rfl
  have hcellA : T1.heap[T.heap.size]? = some (freshCell cX kX) := by rw [← hT1]; exact State.heap_pushCell_size _ _
  have d3' : decode c.code (pc + 3) = .ok (.dup, 1) := by rw [hb]; exact d3
  have d4' : decode c.code (pc + 4) = .ok (.ldc is, 2) := by rw [hb]; exact d4
  have hstr' : vk_R own is text sa s' := vk_R.warm hW0 hstr
  obtain ⟨U, hsteps, hrun, hend, hW, hsame, ce, hce, hO⟩ := X₁.ctorThrowS hexec htr (own := own) (cls := cls) (names := names) (ic := ic) hown' hcls hnames h (fun x hx => nomatch hx) hfX hkX hcellA (by rw [hhp, hT]; exact Nat.le_refl _) (msg := .ref sa) rfl
    (g := { method := m, pc := pc + 6, locals := ls, stack := .ref sa :: .ref T.heap.size :: .ref T.heap.size :: rest, locked := none }) rfl hsize rfl rfl (rest := rest) rfl
    (by rw [hb]; exact d6) (by rw [hb]; exact d9) hout hRframes (by simp only [List.map_cons, List.sum_cons, hcat]; omega) hlocks
  obtain ⟨f1, f2⟩ := vx_frame hsame
  rw [hhp] at f1 f2
  have hWs : s.WarmedH U.vm := State.WarmedH.trans hW0 hW
  have hcl : s.vm.findClass cls = some ce.cls := by
    have h9 := hO.cls
    rw [hvm] at h9
    exact h9
  have hall : s.sameButNew ({ U with vm := s.vm } : State) locs mc ms := by
    subst hA
    obtain ⟨e1, e2⟩ := hsame
    rw [State.setFrames_setFrames] at e1
    have h2 : (T.setVm s.vm).sameButNew ({ U with vm := s.vm } : State) [] (0 + 1) (0 + 6) := ⟨e1, e2⟩
    have h3 := X.same.trans h2
    rw [List.append_nil] at h3
    exact h3.mono hc hs
  refine ⟨U, ?_, .threw T.heap.size, hrun, hend, Or.inr ⟨T.heap.size, rfl, cls, ce, locs, hx U hWs.alike f1 (fun q hq => f2 q hq (fun z hz => nomatch hz)), hce, hO.vm, hcl, hWs, hall, hf⟩⟩
  refine st1 _ ?_
  show Steps p.tables e below (T1.setTop { method := m, pc := pc + 3, locals := ls, stack := .ref T.heap.size :: rest, locked := none }) _
  jvm_step X₁.here [X₁.here.top, hexec, d3', Value.category]
  exact X₁.ldcString hexec (own := own) (text := text) (index := is) (a := sa) hown' hstr'.1 hstr'.2
    (g := { method := m, pc := pc + 4, locals := ls, stack := .ref T.heap.size :: .ref T.heap.size :: rest, locked := none }) rfl d4' _ hsteps
/-- 'throw new E("text")', the text by a wide index -/
theorem vx_throwSW {cc : ByteArray} {pc : Nat} (hexec : p.tables.exec = Jvm.exec) (hb : c.code = cc) (hl : l.stackTraces = false) {own cls text : String} {names : List String} {ik is ic mc ms sa : Nat} {A : Nat → Prop}
    (hown : s.vm.findClass own = some m.cls) (hcls : Bundle.fit cls = true) (hnames : ∀ n ∈ names, Bundle.fit n = true)
    (hk : (Cond.classLink own ik cls).before args s = true) (hini : (Cond.initialized cls).before args s = true) (hstr : vk_R own is text sa s) (hat : ∀ w ∈ vx_atS own ic cls names, w.before args s = true)
    (hgood : ∀ w ∈ Cond.classLink own ik cls :: Cond.initialized cls :: vx_atS own ic cls names, vx_ot w = true)
    (hU : vx_Zq Bundle.tN "UNASSIGNED_STACK" Bundle.steD A s s.heap) (hN : vx_Zq Bundle.tN "SUPPRESSED_SENTINEL" Bundle.listD A s s.heap) (hS : va_S A s.heap H locs) (hsize : ls.size = c.maxLocals)
    (d0 : decode cc pc = .ok (.new ik, 3)) (d3 : decode cc (pc + 3) = .ok (.dup, 1)) (d4 : decode cc (pc + 4) = .ok (.ldc_w is, 3)) (d7 : decode cc (pc + 7) = .ok (.invokespecial ic, 3)) (d10 : decode cc (pc + 10) = .ok (.athrow, 1))
    (hout : ∀ x ∈ c.exceptionTable.toList, covers x (pc + 10) = false)
    (hRframes : names.length + 3 < R.frames) (hRlocals : (rest.map fun v => v.category).sum + (13 * (names.length + 1) + 43) ≤ R.locals) (hRcells : cells + 1 ≤ R.cells) (hRslots : slots + 6 ≤ R.slots) (hlocks : meth.locks = false)
    (hx : ∀ t : State, s.vm.Alike t.vm → H.size ≤ t.heap.size → (∀ q : Nat, q < H.size → t.heap[q]? = H[q]?) → XC cls s t)
    (hf : ∀ z ∈ locs, free z.base) (hc : cells + 1 ≤ mc) (hs : slots + 6 ≤ ms) :
    W p l e R s m args below meth c H locs cells slots (vx_MQ below Qc XC args s mc ms free) (F0 m pc ls rest) := by
  intro T hT X
  have htr : e.platform.stackTraces = false := (show e.platform.stackTraces = l.stackTraces by rw [X.admits.platform]).trans hl
  have Y := vx_rebase X (R' := { frames := R.frames, locals := R.locals, cells := 1, slots := 6 }) (Nat.le_refl _) (Nat.le_refl _) hRcells hRslots
  obtain ⟨s', hA⟩ : ∃ z, z = (T.setVm s.vm).setFrames (.invoking m args :: below) := ⟨_, rfl⟩
  rw [← hA] at Y
  have hvm : s'.vm = s.vm := by rw [hA]; rfl
  have hhp : s'.heap = H := by rw [hA]; exact hT
  have hW0 : s.WarmedH s'.vm := by rw [hvm]; exact State.WarmedH.refl s
  have hat' : ∀ w ∈ vx_atS own ic cls names, w.before args s' = true := fun w hw => vx_ot_at hW0 hvm.symm (hgood w (List.mem_cons_of_mem _ (List.mem_cons_of_mem _ hw))) (hat w hw)
  have hk' : (Cond.classLink own ik cls).before args s' = true := vx_ot_at hW0 hvm.symm (hgood _ List.mem_cons_self) hk
  have hini' : (Cond.initialized cls).before args s' = true := vx_ot_at hW0 hvm.symm (hgood _ (List.mem_cons_of_mem _ List.mem_cons_self)) hini
  have hU' : vx_Zq Bundle.tN "UNASSIGNED_STACK" Bundle.steD A s' s'.heap := by rw [hhp]; exact vx_Zq.moved hW0.alike (hU.kept hS.2.1)
  have hN' : vx_Zq Bundle.tN "SUPPRESSED_SENTINEL" Bundle.listD A s' s'.heap := by rw [hhp]; exact vx_Zq.moved hW0.alike (hN.kept hS.2.1)
  have h : ∀ w ∈ Bundle.ownAtoms own ic cls names, w.before args s' = true := vx_own hat' (vx_isRefq hU'.1) (vx_isRefq hN'.1) hU'.2.word hN'.2.word
  have hown' : s'.vm.findClass own = some m.cls := by rw [hvm]; exact hown
  have hins : (Cond.instantiable cls 6).before args s' = true := h _ (by simp [Bundle.ownAtoms])
  obtain ⟨vm₁, cX, kX, hfX, hkX, -, -, X₁, st1⟩ := Y.newCold hexec (own := own) (C := cls) (index := ik) (n := 6) hown' hk' hins hini'
    (g := F0 m pc ls rest) rfl (by rw [hb]; exact d0) (Nat.le_refl _) (Nat.le_refl _)
  generalize hT1 : (T.setVm vm₁).pushCell { cls := cX, slots := kX.instanceTypes.map defaultValue, vm := .none } = T1 at X₁ st1
  have hcat : (Value.ref T.heap.size).category = 1 := rfl
  have hcellA : T1.heap[T.heap.size]? = some (freshCell cX kX) := by rw [← hT1]; exact State.heap_pushCell_size _ _
  have d3' : decode c.code (pc + 3) = .ok (.dup, 1) := by rw [hb]; exact d3
  have d4' : decode c.code (pc + 4) = .ok (.ldc_w is, 3) := by rw [hb]; exact d4
  have hstr' : vk_R own is text sa s' := vk_R.warm hW0 hstr
  obtain ⟨U, hsteps, hrun, hend, hW, hsame, ce, hce, hO⟩ := X₁.ctorThrowS hexec htr (own := own) (cls := cls) (names := names) (ic := ic) hown' hcls hnames h (fun x hx => nomatch hx) hfX hkX hcellA (by rw [hhp, hT]; exact Nat.le_refl _) (msg := .ref sa) rfl
    (g := { method := m, pc := pc + 7, locals := ls, stack := .ref sa :: .ref T.heap.size :: .ref T.heap.size :: rest, locked := none }) rfl hsize rfl rfl (rest := rest) rfl
    (by rw [hb]; exact d7) (by rw [hb]; exact d10) hout hRframes (by simp only [List.map_cons, List.sum_cons, hcat]; omega) hlocks
  obtain ⟨f1, f2⟩ := vx_frame hsame
  rw [hhp] at f1 f2
  have hWs : s.WarmedH U.vm := State.WarmedH.trans hW0 hW
  have hcl : s.vm.findClass cls = some ce.cls := by
    have h9 := hO.cls
    rw [hvm] at h9
    exact h9
  have hall : s.sameButNew ({ U with vm := s.vm } : State) locs mc ms := by
    subst hA
    obtain ⟨e1, e2⟩ := hsame
    rw [State.setFrames_setFrames] at e1
    have h2 : (T.setVm s.vm).sameButNew ({ U with vm := s.vm } : State) [] (0 + 1) (0 + 6) := ⟨e1, e2⟩
    have h3 := X.same.trans h2
    rw [List.append_nil] at h3
    exact h3.mono hc hs
  refine ⟨U, ?_, .threw T.heap.size, hrun, hend, Or.inr ⟨T.heap.size, rfl, cls, ce, locs, hx U hWs.alike f1 (fun q hq => f2 q hq (fun z hz => nomatch hz)), hce, hO.vm, hcl, hWs, hall, hf⟩⟩
  refine st1 _ ?_
  show Steps p.tables e below (T1.setTop { method := m, pc := pc + 3, locals := ls, stack := .ref T.heap.size :: rest, locked := none }) _
  jvm_step X₁.here [X₁.here.top, hexec, d3', Value.category]
  exact X₁.ldcStringW hexec (own := own) (text := text) (index := is) (a := sa) hown' hstr'.1 hstr'.2
    (g := { method := m, pc := pc + 4, locals := ls, stack := .ref T.heap.size :: .ref T.heap.size :: rest, locked := none }) rfl d4' _ hsteps
end Ends
section Bodies
variable {l : Launch}
theorem vx_ofW {y : MethodName} {ws ws' : List Cond} {rm : Room} {Pc : Array Value → State → Prop} {Qc : Array Value → State → Outcome → State → Prop} {XC : String → State → State → Prop} {mc ms : Nat} {free : Addr → Prop} {cc : ByteArray} {maxL : Nat} {ret : Option FieldType}
    (hy : plainName y.cls = true) (hw : ws = Cond.code y cc maxL ret :: ws')
    (body : ∀ p e s m args below meth c s₁, BodyLoose p l y (headSpec ws rm) cc maxL ret e s m args below meth c s₁ → c.maxLocals = maxL → (∀ x ∈ c.exceptionTable.toList, False) → Pc args s →
      W p l e (headSpec ws rm).room s m args below meth c s.heap [] 0 0 (vx_MQ below Qc XC args s mc ms free) (entryFrame m args maxL)) : vx_Met l y ws rm Pc Qc XC mc ms free := by
  refine MetFree.of_bodyS (code := cc) (maxLocals := maxL) (ret := ret) hy ?_ ?_
  · intro args s m h hn
    obtain ⟨meth, c, h1, h2, h3, h4, h5, h6, -, -⟩ := Cond.code_spec hn (atoms_spec (ws := ws) h _ (by rw [hw]; exact List.mem_cons_self))
    exact ⟨meth, c, h1, h2, h3, h4, h5, h6⟩
  · intro p e s m args below meth c s₁ B hml hP _
    have hh0 : s₁.heap = s.heap := by rw [B.state]; rfl
    have ht : ∀ x ∈ c.exceptionTable.toList, False := by
      obtain ⟨meth9, c9, h1, h2, -, -, -, -, h7, -⟩ := Cond.code_spec B.named (atoms_spec (ws := ws) B.pre _ (by rw [hw]; exact List.mem_cons_self))
      cases Option.some.inj (h1.symm.trans B.method)
      cases Option.some.inj (h2.symm.trans (Stand.of_body B).code)
      intro x hx
      rw [Array.isEmpty_iff.mp h7] at hx
      cases hx
    obtain ⟨t, a1, o, b1, b2, b3⟩ := body p e s m args below meth c s₁ B hml ht hP s₁ hh0 (Stand.of_body B)
    exact ⟨t, o, a1, b1, b2, b3⟩
/-- the table of a body with handlers -/
theorem vx_table {p : Program} {x y : MethodName} {S : Spec} {cc bytes : ByteArray} {maxL maxL' : Nat} {ret ret' : Option FieldType} {e : Env} {s s₁ : State} {m : MethodId} {args : Array Value} {below : List Frame} {meth : Method} {c : Code} {hh : List (Nat × Nat × Nat × Nat)}
    (B : BodyLoose p l y S cc maxL ret e s m args below meth c s₁) (h : (Cond.codeWith y bytes maxL' ret' hh).before args s = true) : c.exceptionTable.toList = tableOf hh := by
  obtain ⟨m9, meth9, c9, hn9, h1, h2, -, -, h6, -⟩ := Cond.codeWith_spec h
  cases Option.some.inj (hn9.symm.trans B.named)
  cases Option.some.inj (h1.symm.trans B.method)
  cases Option.some.inj (h2.symm.trans (Stand.of_body B).code)
  rw [← h6, table_eq]
end Bodies
end VXA
/-! ===== END ===== -/
/-! ===== BEGIN a static call of a method with an exception table ===== -/
section VXS
variable {p : Program} {l : Launch} {e : Env} {R : Room} {s : State} {m : MethodId} {args : Array Value} {below : List Frame} {meth : Method} {c : Code} {T : State} {H : Heap} {locs : List Loc} {cells slots : Nat}
abbrev vx_CSW (R : Room) (s : State) (args : Array Value) (own : String) (index : Nat) (y : MethodName) (bytes : ByteArray) (maxL : Nat) (ret : Option FieldType) (hh : List (Nat × Nat × Nat × Nat)) (ws : List Cond) (rm : Room) (mc ms n : Nat) : Prop :=
  (rm.cells = mc ∧ rm.slots = ms ∧ rm.frames + 1 ≤ R.frames ∧ 8 + (maxL + 11) + rm.locals ≤ R.locals ∧ (∀ w ∈ ws, ∀ (a' : Array Value) (U : State), s.WarmedH U.vm → w.before a' U = true) ∧ Cond.codeWith y bytes maxL ret hh ∈ ws) ∧
  (Cond.codeWith y bytes maxL ret hh).before args s = true ∧ (Cond.initialized y.cls).before args s = true ∧ (y.cls ≠ "java/lang/invoke/MethodHandle" ∧ y.cls ≠ "java/lang/invoke/VarHandle") ∧
  (∀ sig, parseMethodDescriptor y.desc = some sig → n = sig.parameters.length) ∧ (Cond.methodLink own index y).before args s = true ∧ (Cond.static y).before args s = true
theorem vx_cwSW {own : String} {index maxL mc ms : Nat} {y : MethodName} {bytes : ByteArray} {ret : Option FieldType} {hh : List (Nat × Nat × Nat × Nat)} {Ts ws ws' : List Cond} {rm : Room} (n : Nat) (ht : ∀ w ∈ Ts, w.before args s = true) (hT : GoodIn Ts (va_wsS own index y ws)) (hw : ws = Cond.codeWith y bytes maxL ret hh :: ws') (hrc : rm.cells = mc) (hrs : rm.slots = ms)
    (hd : y.cls ≠ "java/lang/invoke/MethodHandle" ∧ y.cls ≠ "java/lang/invoke/VarHandle" ∧ (parseMethodDescriptor y.desc).map (fun d => d.parameters.length) = some n) (hR : rm.frames + 1 ≤ R.frames ∧ 8 + (maxL + 11) + rm.locals ≤ R.locals) :
    vx_CSW R s args own index y bytes maxL ret hh ws rm mc ms n := by
  have ok : ∀ w ∈ va_wsS own index y ws, w.before args s = true := fun w h => ht w (hT w h).1
  have hG : GoodIn Ts ws := fun w h => hT w (by unfold va_wsS; exact List.mem_append_right _ h)
  have hc : Cond.codeWith y bytes maxL ret hh ∈ ws := by rw [hw]; exact List.mem_cons_self
  refine ⟨⟨hrc, hrs, hR.1, hR.2, pay_in ht hG, hc⟩, ht _ (hG _ hc).1, ok _ (by simp [va_wsS]), ⟨hd.1, hd.2.1⟩, fun sig h => ?_, ok _ (by simp [va_wsS]), ok _ (by simp [va_wsS])⟩
  have h2 := hd.2.2
  rw [h] at h2
  exact (Option.some.inj h2).symm
theorem vx_callSW (X : Stand p l e R s m args below meth c T locs cells slots) (hexec : p.tables.exec = Jvm.exec) {own : String} {index : Nat} {y : MethodName} {bytes : ByteArray} {maxL : Nat} {ret : Option FieldType} {hh : List (Nat × Nat × Nat × Nat)}
    (hown : s.vm.findClass own = some m.cls) (hlink : (Cond.methodLink own index y).before args s = true) (hstat : (Cond.static y).before args s = true) (hinit : (Cond.initialized y.cls).before args s = true)
    (hcode : (Cond.codeWith y bytes maxL ret hh).before args s = true) (hy : y.cls ≠ "java/lang/invoke/MethodHandle" ∧ y.cls ≠ "java/lang/invoke/VarHandle")
    {W9 : Nat} {Pre : Pt → Array Value → Prop} {Post : Pt → Array Value → Option Value → Pt → Prop} (hK : Back l R p e below s args y 3 W9 Pre Post)
    {g : JFrame} (hg : g.method = m) (hsize : g.locals.size = c.maxLocals) {argsL rest : List Value} (hlen : ∀ sig, parseMethodDescriptor y.desc = some sig → argsL.length = sig.parameters.length)
    (hstack : g.stack = argsL.reverse ++ rest) (hW : 2 * g.monitorRoom + (rest.map fun v => v.category).sum ≤ W9) (hdg : decode c.code g.pc = .ok (.invokestatic index, 3))
    (hpre : ∀ vm₁, s.WarmedH vm₁ → Pre ⟨T.setVm vm₁, locs, cells, slots⟩ argsL.toArray) :
    ∃ (v : Option Value) (vm₁ : Vm) (B : Pt), s.WarmedH vm₁ ∧ Stand p l e R s m args below meth c B.U B.locs B.cells B.slots ∧ Post ⟨T.setVm vm₁, locs, cells, slots⟩ argsL.toArray v B ∧
      ∀ target, Steps p.tables e below (B.U.setTop { g with pc := g.pc + 3, stack := v.toList ++ rest }) target → Steps p.tables e below (T.setTop g) target := by
  obtain ⟨mk, methM, cM, hnamed, hmethM, -, -, -, -, -, -, hsigM⟩ := Cond.codeWith_spec hcode
  have hstatic : methM.isStatic = true := Cond.static_spec hnamed hmethM hstat
  obtain ⟨kP, hkP, -⟩ := className_of_methodNamed hnamed
  have hinitP : kP.init = .initialized := Cond.initialized_spec (findClass_of_methodNamed hnamed) hkP hinit
  obtain ⟨vm₁, X₁, hstep₁⟩ := X.invokestatic hexec hown hlink hnamed hmethM hstatic hkP hinitP hy (g := g) hg (argsL := argsL) (rest := rest) (hlen _ hsigM) hstack hdg
  obtain ⟨v, B, X', hpost, hsteps⟩ := hK m meth c ⟨T.setVm vm₁, locs, cells, slots⟩ { g with stack := rest } (.invokestatic index) mk argsL.toArray X₁ hg hsize hdg hW (X₁.named hnamed) (hpre vm₁ X₁.warmed)
  exact ⟨v, vm₁, B, X₁.warmed, X', hpost, fun target h => hstep₁ _ fun acts => by rw [doInvoke_state]; exact hsteps.trans h⟩
theorem vx_runSW {y : MethodName} {bytes cc : ByteArray} {maxL nL mc ms n index : Nat} {ret : Option FieldType} {hh : List (Nat × Nat × Nat × Nat)} {ws : List Cond} {rm : Room} {Pc : Array Value → State → Prop} {Qc : Array Value → State → Outcome → State → Prop} {free : Addr → Prop} {Ts : List Cond} {own : String} {As rest : List Value} {g : JFrame}
    (S : CallFix p m c cc nL s args Ts own) (hM : Met l y ws rm Pc Qc mc ms free) (cw : vx_CSW R s args own index y bytes maxL ret hh ws rm mc ms n) (hp : PreS s H Pc As)
    (hg : g.method = m) (hn : As.length = n) (hsize : g.locals.size = nL) (hstack : g.stack = As.reverse ++ rest) (hW : 2 * g.monitorRoom + (rest.map fun v => v.category).sum ≤ 8) (hdg : decode cc g.pc = .ok (.invokestatic index, 3)) (hf : cells + mc ≤ R.cells ∧ slots + ms ≤ R.slots) :
    va_Run p l e R s m args below meth c H locs cells slots mc ms g rest (Qc As.toArray) (free) := by
  obtain ⟨⟨hrc, hrs, hfr, hlo, hws, hcw⟩, hcode, hini, hy, hlen, hl, hstt⟩ := cw
  have hK : Back l R p e below s args y 3 8 (PreOf R mc ms Pc) (PostOf Qc mc ms free) := va_backW (hh := hh) (bytes := bytes) (maxL := maxL) (ret := ret) hM hp.1 hrc hrs hfr hlo hws hcw (fun a' U hW => word_at hW (Or.inl (by first | rfl | simp [Cond.onTables, Cond.keeps, Cond.steady])) hini)
  obtain ⟨hx, hb, hml, ho, -⟩ := S
  intro T hT X
  obtain ⟨v, vm₁, ⟨U', l2, c2, s2⟩, hW₁, X', ⟨g', mk, t, L, e1, e2, hq, h1, hL, h2, h3⟩, st⟩ := vx_callSW X hx (hh := hh) (bytes := bytes) (maxL := maxL) (ret := ret) ho hl hstt hini hcode hy hK hg (hsize.trans hml.symm) (argsL := As) (rest := rest) (fun sig h => hn.trans (hlen sig h)) hstack hW (by rw [hb]; exact hdg)
    (fun vm₁ hW₁ => ⟨hf.1, hf.2, hp.2 (T.setVm vm₁) hT hW₁⟩)
  dsimp only [Pt.U, Pt.locs, Pt.cells, Pt.slots] at X' e1 e2 h1 h2 h3 st
  subst h1; subst h2; subst h3
  exact ⟨v, (T.setVm vm₁).calling g' mk As.toArray, t, U', L, hT, X', hL, e1, e2, hq, st⟩
/-- not caught here, past rows that name other classes: it goes on to the caller -/
theorem vx_outP {p : Program} {l : Launch} {e : Env} {R : Room} {s : State} {m : MethodId} {args : Array Value} {below : List Frame} {meth : Method} {c : Code} {H : Heap} {locs : List Loc} {cells slots : Nat} {free : Addr → Prop} {ls : Array Slot} {rest : List Value} {Qc : Array Value → State → Outcome → State → Prop} {XC : String → State → State → Prop}
    {pc : Nat} {own E : String} {ce : Cell} {q : Addr} {mc ms : Nat} (hown : s.vm.findClass own = some m.cls) (hlocks : meth.locks = false)
    (hpass : ∀ z ∈ c.exceptionTable.toList, covers z pc = false ∨ (z.catchType ≠ 0 ∧ ∃ nm : String, (Cond.classLink own z.catchType nm).before args s = true ∧ va_Nc E nm s)) (hcell : H[q]? = some ce) (hv : ce.vm = .none) (hcl : s.vm.findClass E = some ce.cls)
    (hx : ∀ t : State, t.heap = H → s.vm.Alike t.vm → XC E s t) (hf : ∀ z ∈ locs, free z.base) (hc : cells ≤ mc) (hs : slots ≤ ms) :
    vx_W p l e R s m args below meth c H locs cells slots (vx_MQ below Qc XC args s mc ms free) (F0 m pc ls rest) q := by
  intro T hT X
  have hpl : e.platform.magicAccessors = ({} : Platform).magicAccessors := by rw [X.admits.platform]
  obtain ⟨vm', hW', X', st⟩ := X.outThrough hlocks q (g := F0 m pc ls rest) rfl rfl rfl (cell := ce) (by rw [hT]; exact hcell) (by rw [hv]; rfl)
    (by obtain ⟨k9, h9, -⟩ := Vm.findClass_spec hcl; exact ⟨k9, h9⟩) (fun z hz => by
      rcases hpass z hz with h | ⟨hz0, nm, hl1, hn1⟩
      · exact Or.inl h
      · obtain ⟨c6, hc6, hcl6⟩ := Cond.classLink_spec hown hl1 e.platform hpl
        obtain ⟨a8, b8, h1, h2, h3⟩ := hn1
        cases Option.some.inj (h1.symm.trans hcl)
        cases Option.some.inj (h2.symm.trans hc6)
        exact Or.inr ⟨hz0, _, hcl6, h3⟩)
  obtain ⟨g₀, hfr⟩ := X'.frames_eq
  have hcell9 : ((T.setVm vm').setFrames (.throwing q :: below)).heap[q]? = some ce := by
    show T.heap[q]? = some ce
    rw [hT]; exact hcell
  have hend : Ended ((T.setVm vm').setFrames (.throwing q :: below)) below (.threw q) := State.frames_setFrames _ (State.cur_lt_of_frames hfr)
  refine ⟨(T.setVm vm').setFrames (.throwing q :: below), ?_, .threw q, X'.here.running, hend, Or.inr ⟨q, rfl, E, ce, locs, hx _ hT (X'.ends _).1.alike, hcell9, hv, hcl, (X'.ends _).1, (X'.ends _).2.mono hc hs, hf⟩⟩
  rw [X.pushThrowing_eq]
  exact st
/-- a thing of a world lies in the heap -/
theorem vx_lt {D : va_G} {cl : List vw_C} {ws : va_W} {H1 : Heap} (h : va_P D cl ws H1) {k : Nat} {q : Nat × va_E} (hk : ws[k]? = some q) : q.1 < H1.size := (h k q hk).lt
end VXS
/-! ===== END ===== -/
/-! ===== BEGIN methods with a table of their own: called by a name, returning or throwing ===== -/
section VXH
/-! vx_backW, vx_callVX, vx_callSX, vx_callVW, vx_runVW, vx_runVX, vx_runSX, vx_ofWH follow the same proofs as their sisters above (Free/Laws.lean, Shelf42/LK1.lean); vx_outP calls Shelf42/NT130.lean (outThrough). -/
section
variable {l : Launch} {R : Room} {p : Program} {e : Env} {below : List Frame} {s : State} {sargs : Array Value} {y : MethodName} {len W9 : Nat}
theorem vx_backW {ws : List Cond} {rm : Room} {Pc : Array Value → State → Prop} {Qc : Array Value → State → Outcome → State → Prop} {XC : String → State → State → Prop} {mc ms : Nat} {free : Addr → Prop} {bytes : ByteArray} {maxL : Nat} {ret : Option FieldType} {hh : List (Nat × Nat × Nat × Nat)}
    (hM : vx_Met l y ws rm Pc Qc XC mc ms free) (hblind : FrameBlind Pc) (hrc : rm.cells = mc) (hrs : rm.slots = ms)
    (hframes : rm.frames + 1 ≤ R.frames) (hlocals : W9 + (maxL + 11) + rm.locals ≤ R.locals)
    (hws : ∀ w ∈ ws, ∀ a' U, s.WarmedH U.vm → w.before a' U = true) (hcode : Cond.codeWith y bytes maxL ret hh ∈ ws) (hinit : ∀ a' U, s.WarmedH U.vm → (Cond.initialized y.cls).before a' U = true) :
    vx_Back l R p e below s sargs y len W9 (PreOf R mc ms Pc) (PostOf Qc mc ms free) (vx_Post XC mc ms free) := by
  intro m meth c A g ig mk a X hg hsize hdg hW hn hp
  have h1 : (headSpec ws rm).pre.before a A.U = true := atoms_intro fun w hw => hws w hw _ _ X.warmed
  have h2 : (Cond.codeWith y bytes maxL ret hh).before a A.U = true := hws _ hcode _ _ X.warmed
  have h3 : (Cond.initialized y.cls).before a A.U = true := hinit _ _ X.warmed
  have h4 : A.cells + (headSpec ws rm).room.cells ≤ R.cells := by rw [show (headSpec ws rm).room.cells = mc from hrc]; exact hp.1
  have h5 : A.slots + (headSpec ws rm).room.slots ≤ R.slots := by rw [show (headSpec ws rm).room.slots = ms from hrs]; exact hp.2.1
  have hPc : Pc a (A.U.calling g mk a) := hblind _ _ _ _ hp.2.2
  obtain ⟨U, Ls, c0, s0⟩ := A
  dsimp only [Pt.U, Pt.locs, Pt.cells, Pt.slots] at h1 h2 h3 h4 h5 X hn hPc ⊢
  obtain ⟨m9, methY, cY, hn9, hmY, hcY, -, hlY, -⟩ := Cond.codeWith_spec h2
  cases Option.some.inj (hn9.symm.trans hn)
  obtain ⟨kY, hkY, -⟩ := className_of_methodNamed hn
  have hinitY : kY.init = .initialized := Cond.initialized_spec (findClass_of_methodNamed hn) hkY h3
  have h : At U g.method c below := by rw [hg]; exact X.here
  have hlocals9 : W9 + (maxL + 11) + (headSpec ws rm).room.locals ≤ R.locals := hlocals
  have happ : (headSpec ws rm).appliesLoose y e.platform (U.calling g mk a) = true :=
    Spec.appliesLoose_calling (g := g) h hdg hn hkY hinitY
      (X.room_calling (g := g) (R' := (headSpec ws rm).room) hsize hmY hcY hframes (by rw [hlY]; omega) h4 h5) h1
  obtain ⟨mid, hmid⟩ := h.above
  have hfr : (U.setTop g).frames = (.java g :: mid) ++ below := by rw [State.frames_setTop' g h.top, hmid]; rfl
  obtain ⟨o, s₂, hsteps, -, hend, hq⟩ := Steps.callFree hM p X.admits X.cas X.clock (acts := []) hfr happ hPc trivial
  have hq' : vx_Q Qc XC mc ms free a (U.calling g mk a) o s₂ := hq
  rw [State.frames_setTop' g h.top] at hend
  obtain ⟨g₀, hg0⟩ := Option.isSome_iff_exists.mp h.top
  obtain ⟨r, hr⟩ := State.topJava?_eq_some.mp hg0
  have hr' : (({ U with heap := s₂.heap, slotsUsed := s₂.slotsUsed } : State).setVm s₂.vm).frames = .java g₀ :: r := hr
  rcases hq' with ⟨hqc, L, hfe, hL⟩ | ⟨q, rfl, E, ce, L, hx, hce, hcv, hcl, hW₂, hsm, hL⟩
  · obtain ⟨⟨v, rfl⟩, hW₂, e2, q2, q3, q4, q5, q6⟩ := id hfe
    have e3 : s₂ = ({ (U.calling g mk a).setFrames s₂.frames with heap := s₂.heap, slotsUsed := s₂.slotsUsed } : State).setVm s₂.vm := by
      have : s₂ = ({ s₂ with vm := (U.calling g mk a).vm } : State).setVm s₂.vm := rfl
      rw [e2] at this
      exact this
    obtain ⟨c₂, i₂, len₂, hc₂, hd₂, hf₂⟩ := hend
    have hW' : U.WarmedH s₂.vm := hW₂
    have hcc : c₂ = c := by
      have h1 : s₂.code? g.method = U.code? g.method := by
        rw [State.code?_eq, State.code?_eq, hW'.alike.method?]
      exact Option.some.inj (hc₂.symm.trans (h1.trans h.code))
    subst hcc
    have hlen : len₂ = len := by rw [hdg] at hd₂; cases hd₂; rfl
    subst hlen
    have hs₂ : s₂ = (({ U with heap := s₂.heap, slotsUsed := s₂.slotsUsed } : State).setVm s₂.vm).setTop { g with pc := g.pc + len₂, stack := v.toList ++ g.stack } := by
      refine e3.trans ?_
      rw [hf₂, State.calling_eq h.top, State.setFrames_setFrames, State.setTop_of_frames _ hr', hr]
      rfl
    have hsame : U.sameButNew ({ U with heap := s₂.heap, slotsUsed := s₂.slotsUsed } : State) L mc ms := by
      refine ⟨?_, q2, q3, q4, q5, q6⟩
      obtain ⟨t, ht, -⟩ := State.frames_cons hr
      show ({ U with heap := s₂.heap, slotsUsed := s₂.slotsUsed } : State) = { U.setFrames U.frames with heap := s₂.heap, slotsUsed := s₂.slotsUsed }
      rw [State.setFrames_self ht]
    subst hg
    refine Or.inl ⟨v, ⟨(({ U with heap := s₂.heap, slotsUsed := s₂.slotsUsed } : State).setVm s₂.vm), Ls ++ L, c0 + mc, s0 + ms⟩,
      ⟨X.admits, X.cas, X.clock, X.frames, X.room, X.hears, X.method, X.code, (X.here.setHeapUsed s₂.heap s₂.slotsUsed).setVm hW'.alike, X.tail, State.WarmedH.trans X.warmed hW', X.limits, X.bytes, X.same.trans (hsame.setVm s.vm)⟩,
      ⟨g, mk, s₂, L, rfl, rfl, hqc, rfl, hL, rfl, rfl⟩, ?_⟩
    show Steps p.tables e below _ ((({ U with heap := s₂.heap, slotsUsed := s₂.slotsUsed } : State).setVm s₂.vm).setTop { g with pc := g.pc + len₂, stack := v.toList ++ g.stack })
    rw [← hs₂]
    exact hsteps
  · obtain ⟨e2, q2, q3, q4, q5, q6⟩ := id hsm
    have e3 : s₂ = ({ (U.calling g mk a).setFrames s₂.frames with heap := s₂.heap, slotsUsed := s₂.slotsUsed } : State).setVm s₂.vm := by
      have : s₂ = ({ s₂ with vm := (U.calling g mk a).vm } : State).setVm s₂.vm := rfl
      rw [e2] at this
      exact this
    have hf₂ : s₂.frames = .throwing q :: .java g :: U.frames.tail := hend
    have hW' : U.WarmedH s₂.vm := hW₂
    have hs₂ : s₂ = ((({ U with heap := s₂.heap, slotsUsed := s₂.slotsUsed } : State).setVm s₂.vm).setTop g).pushFrame (.throwing q) := by
      refine e3.trans ?_
      rw [hf₂, State.calling_eq h.top, State.setFrames_setFrames, State.pushFrame, State.frames_setTop _ hr', State.setTop_of_frames _ hr', State.setFrames_setFrames, hr]
      rfl
    have hsame : U.sameButNew ({ U with heap := s₂.heap, slotsUsed := s₂.slotsUsed } : State) L mc ms := by
      refine ⟨?_, q2, q3, q4, q5, q6⟩
      obtain ⟨t, ht, -⟩ := State.frames_cons hr
      show ({ U with heap := s₂.heap, slotsUsed := s₂.slotsUsed } : State) = { U.setFrames U.frames with heap := s₂.heap, slotsUsed := s₂.slotsUsed }
      rw [State.setFrames_self ht]
    subst hg
    refine Or.inr ⟨q, ⟨(({ U with heap := s₂.heap, slotsUsed := s₂.slotsUsed } : State).setVm s₂.vm), Ls ++ L, c0 + mc, s0 + ms⟩,
      ⟨X.admits, X.cas, X.clock, X.frames, X.room, X.hears, X.method, X.code, (X.here.setHeapUsed s₂.heap s₂.slotsUsed).setVm hW'.alike, X.tail, State.WarmedH.trans X.warmed hW', X.limits, X.bytes, X.same.trans (hsame.setVm s.vm)⟩,
      ⟨g, mk, s₂, L, E, ce, rfl, rfl, hx, hce, hcv, hcl, rfl, hL, rfl, rfl⟩, ?_⟩
    show Steps p.tables e below _ (((({ U with heap := s₂.heap, slotsUsed := s₂.slotsUsed } : State).setVm s₂.vm).setTop g).pushFrame (.throwing q))
    rw [← hs₂]
    exact hsteps
end
variable {p : Program} {l : Launch} {e : Env} {R : Room} {s : State} {m : MethodId} {args : Array Value} {below : List Frame} {meth : Method} {c : Code} {T : State} {H : Heap} {locs : List Loc} {cells slots : Nat}
theorem vx_callVX (X : Stand p l e R s m args below meth c T locs cells slots) (hexec : p.tables.exec = Jvm.exec) {own C : String} {index : Nat} {y : MethodName} {bytes : ByteArray} {maxL : Nat} {ret : Option FieldType} {hh : List (Nat × Nat × Nat × Nat)}
    (hown : s.vm.findClass own = some m.cls) (hlink : (Cond.methodLink own index y).before args s = true) (hinst : (Cond.instanceMethod y).before args s = true) (hsel : (Cond.selects C y y).before args s = true)
    (hcode : (Cond.codeWith y bytes maxL ret hh).before args s = true) (hy : y.cls ≠ "java/lang/invoke/MethodHandle" ∧ y.cls ≠ "java/lang/invoke/VarHandle")
    {W9 : Nat} {Pre : Pt → Array Value → Prop} {Post : Pt → Array Value → Option Value → Pt → Prop} {PostX : Pt → Array Value → Addr → Pt → Prop} (hK : vx_Back l R p e below s args y 3 W9 Pre Post PostX)
    {b : Addr} {cellB : Cell} (hcell : T.heap[b]? = some cellB) (hobj : cellB.vm.isStatics = false) (hcls : s.vm.findClass C = some cellB.cls)
    {g : JFrame} (hg : g.method = m) (hsize : g.locals.size = c.maxLocals) {argsL rest : List Value} (hlen : ∀ sig, parseMethodDescriptor y.desc = some sig → argsL.length = sig.parameters.length)
    (hstack : g.stack = argsL.reverse ++ .ref b :: rest) (hW : 2 * g.monitorRoom + (rest.map fun v => v.category).sum ≤ W9) (hdg : decode c.code g.pc = .ok (.invokevirtual index, 3))
    (hpre : ∀ vm₁, s.WarmedH vm₁ → Pre ⟨T.setVm vm₁, locs, cells, slots⟩ (Value.ref b :: argsL).toArray) :
    (∃ (v : Option Value) (vm₁ : Vm) (B : Pt), s.WarmedH vm₁ ∧ Stand p l e R s m args below meth c B.U B.locs B.cells B.slots ∧ Post ⟨T.setVm vm₁, locs, cells, slots⟩ (Value.ref b :: argsL).toArray v B ∧
      ∀ target, Steps p.tables e below (B.U.setTop { g with pc := g.pc + 3, stack := v.toList ++ rest }) target → Steps p.tables e below (T.setTop g) target) ∨
    (∃ (q : Addr) (vm₁ : Vm) (B : Pt), s.WarmedH vm₁ ∧ Stand p l e R s m args below meth c B.U B.locs B.cells B.slots ∧ PostX ⟨T.setVm vm₁, locs, cells, slots⟩ (Value.ref b :: argsL).toArray q B ∧
      Steps p.tables e below (T.setTop g) ((B.U.setTop { g with stack := rest }).pushFrame (.throwing q))) := by
  obtain ⟨mk, methM, hnamed, hmethM, hstM, habM⟩ := Cond.instanceMethod_spec hinst
  obtain ⟨m8, methM', cM, hn8, hmethM', -, -, -, -, -, -, hsigM⟩ := Cond.codeWith_spec hcode
  cases Option.some.inj (hn8.symm.trans hnamed)
  cases hmethM.symm.trans hmethM'
  obtain ⟨c2, r2, m2, q1, q2, q3, q4, kP, hkP, hkPi⟩ := Cond.selects_spec hsel
  cases hcls.symm.trans q1
  cases (State.methodFound?_of_named hnamed hy).symm.trans q2
  cases hnamed.symm.trans q3
  have hselP : selectMethod e.platform s.vm cellB.cls mk = .method mk := by rw [Launch.admits_selectMethod X.admits]; exact q4
  obtain ⟨vm₁, X₁, hstep₁⟩ := X.invokevirtual hexec hown hlink hnamed hmethM hstM hkP hkPi hy (a := b) (cell := cellB) hcell
    (fun z h => by rw [h] at hobj; cases hobj) hselP hmethM habM hkP hkPi (g := g) hg (argsL := argsL) (rest := rest) (hlen _ hsigM) hstack hdg
  rcases hK m meth c ⟨T.setVm vm₁, locs, cells, slots⟩ { g with stack := rest } (.invokevirtual index) mk (Value.ref b :: argsL).toArray X₁ hg hsize hdg hW (X₁.named hnamed) (hpre vm₁ X₁.warmed) with ⟨v, B, X', hpost, hsteps⟩ | ⟨q, B, X', hpost, hsteps⟩
  · exact Or.inl ⟨v, vm₁, B, X₁.warmed, X', hpost, fun target h => hstep₁ _ fun acts => by rw [doInvoke_state]; exact hsteps.trans h⟩
  · exact Or.inr ⟨q, vm₁, B, X₁.warmed, X', hpost, hstep₁ _ fun acts => by rw [doInvoke_state]; exact hsteps⟩
theorem vx_callSX (X : Stand p l e R s m args below meth c T locs cells slots) (hexec : p.tables.exec = Jvm.exec) {own : String} {index : Nat} {y : MethodName} {bytes : ByteArray} {maxL : Nat} {ret : Option FieldType} {hh : List (Nat × Nat × Nat × Nat)}
    (hown : s.vm.findClass own = some m.cls) (hlink : (Cond.methodLink own index y).before args s = true) (hstat : (Cond.static y).before args s = true) (hinit : (Cond.initialized y.cls).before args s = true)
    (hcode : (Cond.codeWith y bytes maxL ret hh).before args s = true) (hy : y.cls ≠ "java/lang/invoke/MethodHandle" ∧ y.cls ≠ "java/lang/invoke/VarHandle")
    {W9 : Nat} {Pre : Pt → Array Value → Prop} {Post : Pt → Array Value → Option Value → Pt → Prop} {PostX : Pt → Array Value → Addr → Pt → Prop} (hK : vx_Back l R p e below s args y 3 W9 Pre Post PostX)
    {g : JFrame} (hg : g.method = m) (hsize : g.locals.size = c.maxLocals) {argsL rest : List Value} (hlen : ∀ sig, parseMethodDescriptor y.desc = some sig → argsL.length = sig.parameters.length)
    (hstack : g.stack = argsL.reverse ++ rest) (hW : 2 * g.monitorRoom + (rest.map fun v => v.category).sum ≤ W9) (hdg : decode c.code g.pc = .ok (.invokestatic index, 3))
    (hpre : ∀ vm₁, s.WarmedH vm₁ → Pre ⟨T.setVm vm₁, locs, cells, slots⟩ argsL.toArray) :
    (∃ (v : Option Value) (vm₁ : Vm) (B : Pt), s.WarmedH vm₁ ∧ Stand p l e R s m args below meth c B.U B.locs B.cells B.slots ∧ Post ⟨T.setVm vm₁, locs, cells, slots⟩ argsL.toArray v B ∧
      ∀ target, Steps p.tables e below (B.U.setTop { g with pc := g.pc + 3, stack := v.toList ++ rest }) target → Steps p.tables e below (T.setTop g) target) ∨
    (∃ (q : Addr) (vm₁ : Vm) (B : Pt), s.WarmedH vm₁ ∧ Stand p l e R s m args below meth c B.U B.locs B.cells B.slots ∧ PostX ⟨T.setVm vm₁, locs, cells, slots⟩ argsL.toArray q B ∧
      Steps p.tables e below (T.setTop g) ((B.U.setTop { g with stack := rest }).pushFrame (.throwing q))) := by
  obtain ⟨mk, methM, cM, hnamed, hmethM, -, -, -, -, -, -, hsigM⟩ := Cond.codeWith_spec hcode
  have hstatic : methM.isStatic = true := Cond.static_spec hnamed hmethM hstat
  obtain ⟨kP, hkP, -⟩ := className_of_methodNamed hnamed
  have hinitP : kP.init = .initialized := Cond.initialized_spec (findClass_of_methodNamed hnamed) hkP hinit
  obtain ⟨vm₁, X₁, hstep₁⟩ := X.invokestatic hexec hown hlink hnamed hmethM hstatic hkP hinitP hy (g := g) hg (argsL := argsL) (rest := rest) (hlen _ hsigM) hstack hdg
  rcases hK m meth c ⟨T.setVm vm₁, locs, cells, slots⟩ { g with stack := rest } (.invokestatic index) mk argsL.toArray X₁ hg hsize hdg hW (X₁.named hnamed) (hpre vm₁ X₁.warmed) with ⟨v, B, X', hpost, hsteps⟩ | ⟨q, B, X', hpost, hsteps⟩
  · exact Or.inl ⟨v, vm₁, B, X₁.warmed, X', hpost, fun target h => hstep₁ _ fun acts => by rw [doInvoke_state]; exact hsteps.trans h⟩
  · exact Or.inr ⟨q, vm₁, B, X₁.warmed, X', hpost, hstep₁ _ fun acts => by rw [doInvoke_state]; exact hsteps⟩
theorem vx_callVW (X : Stand p l e R s m args below meth c T locs cells slots) (hexec : p.tables.exec = Jvm.exec) {own C : String} {index : Nat} {y : MethodName} {bytes : ByteArray} {maxL : Nat} {ret : Option FieldType} {hh : List (Nat × Nat × Nat × Nat)}
    (hown : s.vm.findClass own = some m.cls) (hlink : (Cond.methodLink own index y).before args s = true) (hinst : (Cond.instanceMethod y).before args s = true) (hsel : (Cond.selects C y y).before args s = true)
    (hcode : (Cond.codeWith y bytes maxL ret hh).before args s = true) (hy : y.cls ≠ "java/lang/invoke/MethodHandle" ∧ y.cls ≠ "java/lang/invoke/VarHandle")
    {W9 : Nat} {Pre : Pt → Array Value → Prop} {Post : Pt → Array Value → Option Value → Pt → Prop} (hK : Back l R p e below s args y 3 W9 Pre Post)
    {b : Addr} {cellB : Cell} (hcell : T.heap[b]? = some cellB) (hobj : cellB.vm.isStatics = false) (hcls : s.vm.findClass C = some cellB.cls)
    {g : JFrame} (hg : g.method = m) (hsize : g.locals.size = c.maxLocals) {argsL rest : List Value} (hlen : ∀ sig, parseMethodDescriptor y.desc = some sig → argsL.length = sig.parameters.length)
    (hstack : g.stack = argsL.reverse ++ .ref b :: rest) (hW : 2 * g.monitorRoom + (rest.map fun v => v.category).sum ≤ W9) (hdg : decode c.code g.pc = .ok (.invokevirtual index, 3))
    (hpre : ∀ vm₁, s.WarmedH vm₁ → Pre ⟨T.setVm vm₁, locs, cells, slots⟩ (Value.ref b :: argsL).toArray) :
    ∃ (v : Option Value) (vm₁ : Vm) (B : Pt), s.WarmedH vm₁ ∧ Stand p l e R s m args below meth c B.U B.locs B.cells B.slots ∧ Post ⟨T.setVm vm₁, locs, cells, slots⟩ (Value.ref b :: argsL).toArray v B ∧
      ∀ target, Steps p.tables e below (B.U.setTop { g with pc := g.pc + 3, stack := v.toList ++ rest }) target → Steps p.tables e below (T.setTop g) target := by
  obtain ⟨mk, methM, hnamed, hmethM, hstM, habM⟩ := Cond.instanceMethod_spec hinst
  obtain ⟨m8, methM', cM, hn8, hmethM', -, -, -, -, -, -, hsigM⟩ := Cond.codeWith_spec hcode
  cases Option.some.inj (hn8.symm.trans hnamed)
  cases hmethM.symm.trans hmethM'
  obtain ⟨c2, r2, m2, q1, q2, q3, q4, kP, hkP, hkPi⟩ := Cond.selects_spec hsel
  cases hcls.symm.trans q1
  cases (State.methodFound?_of_named hnamed hy).symm.trans q2
  cases hnamed.symm.trans q3
  have hselP : selectMethod e.platform s.vm cellB.cls mk = .method mk := by rw [Launch.admits_selectMethod X.admits]; exact q4
  obtain ⟨vm₁, X₁, hstep₁⟩ := X.invokevirtual hexec hown hlink hnamed hmethM hstM hkP hkPi hy (a := b) (cell := cellB) hcell
    (fun z h => by rw [h] at hobj; cases hobj) hselP hmethM habM hkP hkPi (g := g) hg (argsL := argsL) (rest := rest) (hlen _ hsigM) hstack hdg
  obtain ⟨v, B, X', hpost, hsteps⟩ := hK m meth c ⟨T.setVm vm₁, locs, cells, slots⟩ { g with stack := rest } (.invokevirtual index) mk (Value.ref b :: argsL).toArray X₁ hg hsize hdg hW (X₁.named hnamed) (hpre vm₁ X₁.warmed)
  exact ⟨v, vm₁, B, X₁.warmed, X', hpost, fun target h => hstep₁ _ fun acts => by rw [doInvoke_state]; exact hsteps.trans h⟩
abbrev vx_CVW (R : Room) (s : State) (args : Array Value) (own C : String) (index : Nat) (y : MethodName) (bytes : ByteArray) (maxL : Nat) (ret : Option FieldType) (hh : List (Nat × Nat × Nat × Nat)) (ws : List Cond) (rm : Room) (mc ms n : Nat) : Prop :=
  (rm.cells = mc ∧ rm.slots = ms ∧ rm.frames + 1 ≤ R.frames ∧ 8 + (maxL + 11) + rm.locals ≤ R.locals ∧ (∀ w ∈ ws, ∀ (a' : Array Value) (U : State), s.WarmedH U.vm → w.before a' U = true) ∧ Cond.codeWith y bytes maxL ret hh ∈ ws) ∧
  (Cond.codeWith y bytes maxL ret hh).before args s = true ∧ (Cond.initialized y.cls).before args s = true ∧ (y.cls ≠ "java/lang/invoke/MethodHandle" ∧ y.cls ≠ "java/lang/invoke/VarHandle") ∧
  (∀ sig, parseMethodDescriptor y.desc = some sig → n = sig.parameters.length) ∧ (Cond.methodLink own index y).before args s = true ∧ (Cond.instanceMethod y).before args s = true ∧ (Cond.selects C y y).before args s = true
theorem vx_cwVW {own C : String} {index maxL mc ms : Nat} {y : MethodName} {bytes : ByteArray} {ret : Option FieldType} {hh : List (Nat × Nat × Nat × Nat)} {Ts ws ws' : List Cond} {rm : Room} (n : Nat) (ht : ∀ w ∈ Ts, w.before args s = true) (hT : GoodIn Ts (wsV own index C y ws)) (hw : ws = Cond.codeWith y bytes maxL ret hh :: ws') (hrc : rm.cells = mc) (hrs : rm.slots = ms)
    (hd : y.cls = C ∧ y.cls ≠ "java/lang/invoke/MethodHandle" ∧ y.cls ≠ "java/lang/invoke/VarHandle" ∧ (parseMethodDescriptor y.desc).map (fun d => d.parameters.length) = some n) (hR : rm.frames + 1 ≤ R.frames ∧ 8 + (maxL + 11) + rm.locals ≤ R.locals) :
    vx_CVW R s args own C index y bytes maxL ret hh ws rm mc ms n := by
  obtain ⟨hC, hd⟩ := hd
  subst hC
  have ok : ∀ w ∈ wsV own index y.cls y ws, w.before args s = true := fun w h => ht w (hT w h).1
  have hG : GoodIn Ts ws := fun w h => hT w (by unfold wsV; exact List.mem_append_right _ h)
  have hc : Cond.codeWith y bytes maxL ret hh ∈ ws := by rw [hw]; exact List.mem_cons_self
  refine ⟨⟨hrc, hrs, hR.1, hR.2, pay_in ht hG, hc⟩, ht _ (hG _ hc).1, ok _ (by simp [wsV]), ⟨hd.1, hd.2.1⟩, fun sig h => ?_, ok _ (by simp [wsV]), ok _ (by simp [wsV]), ok _ (by simp [wsV])⟩
  have h2 := hd.2.2
  rw [h] at h2
  exact (Option.some.inj h2).symm
theorem vx_runVW {y : MethodName} {bytes cc : ByteArray} {maxL nL mc ms n index : Nat} {ret : Option FieldType} {hh : List (Nat × Nat × Nat × Nat)} {ws : List Cond} {rm : Room} {Pc : Array Value → State → Prop} {Qc : Array Value → State → Outcome → State → Prop} {free : Addr → Prop} {Ts : List Cond} {own C : String} {b : Addr} {As rest : List Value} {g : JFrame}
    (S : CallFix p m c cc nL s args Ts own) (hM : Met l y ws rm Pc Qc mc ms free) (cw : vx_CVW R s args own C index y bytes maxL ret hh ws rm mc ms n) (hp : PreV s H C b Pc As)
    (hg : g.method = m) (hn : As.length = n) (hsize : g.locals.size = nL) (hstack : g.stack = As.reverse ++ .ref b :: rest) (hW : 2 * g.monitorRoom + (rest.map fun v => v.category).sum ≤ 8) (hdg : decode cc g.pc = .ok (.invokevirtual index, 3)) (hf : cells + mc ≤ R.cells ∧ slots + ms ≤ R.slots) :
    va_Run p l e R s m args below meth c H locs cells slots mc ms g rest (Qc (Value.ref b :: As).toArray) free := by
  obtain ⟨⟨hrc, hrs, hfr, hlo, hws, hcw⟩, hcode, hini, hy, hlen, hl, hin, hse⟩ := cw
  have hK : Back l R p e below s args y 3 8 (PreOf R mc ms Pc) (PostOf Qc mc ms free) := va_backW (hh := hh) (bytes := bytes) (maxL := maxL) (ret := ret) hM hp.1 hrc hrs hfr hlo hws hcw (fun a' U hW => word_at hW (Or.inl (by first | rfl | simp [Cond.onTables, Cond.keeps, Cond.steady])) hini)
  obtain ⟨hx, hb, hml, ho, -⟩ := S
  obtain ⟨-, ⟨cellB, hcB, hoB, hclB⟩, hPc⟩ := hp
  intro T hT X
  obtain ⟨v, vm₁, ⟨U', l2, c2, s2⟩, hW₁, X', ⟨g', mk, t, L, e1, e2, hq, h1, hL, h2, h3⟩, st⟩ := vx_callVW X hx (C := C) (hh := hh) (bytes := bytes) (maxL := maxL) (ret := ret) ho hl hin hse hcode hy hK (by rw [hT]; exact hcB) hoB hclB hg (hsize.trans hml.symm) (argsL := As) (rest := rest) (fun sig h => hn.trans (hlen sig h)) hstack hW (by rw [hb]; exact hdg)
    (fun vm₁ hW₁ => ⟨hf.1, hf.2, hPc (T.setVm vm₁) hT hW₁⟩)
  dsimp only [Pt.U, Pt.locs, Pt.cells, Pt.slots] at X' e1 e2 h1 h2 h3 st
  subst h1; subst h2; subst h3
  exact ⟨v, (T.setVm vm₁).calling g' mk (Value.ref b :: As).toArray, t, U', L, hT, X', hL, e1, e2, hq, st⟩
section
variable {y : MethodName} {bytes cc : ByteArray} {maxL nL mc ms n index : Nat} {ret : Option FieldType} {ws : List Cond} {rm : Room} {Pc : Array Value → State → Prop} {Qc : Array Value → State → Outcome → State → Prop} {XC : String → State → State → Prop} {free : Addr → Prop} {Ts : List Cond} {own C : String} {b : Addr} {As rest : List Value} {g : JFrame}
theorem vx_runVX {hh : List (Nat × Nat × Nat × Nat)} (S : CallFix p m c cc nL s args Ts own) (hM : vx_Met l y ws rm Pc Qc XC mc ms free) (cw : vx_CVW R s args own C index y bytes maxL ret hh ws rm mc ms n) (hp : PreV s H C b Pc As)
    (hg : g.method = m) (hn : As.length = n) (hsize : g.locals.size = nL) (hstack : g.stack = As.reverse ++ .ref b :: rest) (hW : 2 * g.monitorRoom + (rest.map fun v => v.category).sum ≤ 8) (hdg : decode cc g.pc = .ok (.invokevirtual index, 3)) (hf : cells + mc ≤ R.cells ∧ slots + ms ≤ R.slots) :
    vx_Run p l e R s m args below meth c H locs cells slots mc ms g rest (Qc (Value.ref b :: As).toArray) XC free := by
  obtain ⟨⟨hrc, hrs, hfr, hlo, hws, hcw⟩, hcode, hini, hy, hlen, hl, hin, hse⟩ := cw
  have hK : vx_Back l R p e below s args y 3 8 (PreOf R mc ms Pc) (PostOf Qc mc ms free) (vx_Post XC mc ms free) := vx_backW (hh := hh) (bytes := bytes) (maxL := maxL) (ret := ret) hM hp.1 hrc hrs hfr hlo hws hcw (fun a' U hW => word_at hW (Or.inl (by first | rfl | simp [Cond.onTables, Cond.keeps, Cond.steady])) hini)
  obtain ⟨hx, hb, hml, ho, -⟩ := S
  obtain ⟨-, ⟨cellB, hcB, hoB, hclB⟩, hPc⟩ := hp
  intro T hT X
  rcases vx_callVX X hx (C := C) (hh := hh) (bytes := bytes) (maxL := maxL) (ret := ret) ho hl hin hse hcode hy hK (by rw [hT]; exact hcB) hoB hclB hg (hsize.trans hml.symm) (argsL := As) (rest := rest) (fun sig h => hn.trans (hlen sig h)) hstack hW (by rw [hb]; exact hdg)
    (fun vm₁ hW₁ => ⟨hf.1, hf.2, hPc (T.setVm vm₁) hT hW₁⟩) with ⟨v, vm₁, ⟨U', l2, c2, s2⟩, hW₁, X', ⟨g', mk, t, L, e1, e2, hq, h1, hL, h2, h3⟩, st⟩ | ⟨q, vm₁, ⟨U', l2, c2, s2⟩, hW₁, X', ⟨g', mk, t, L, E, ce, e1, e2, hq, hce, hcv, hcl, h1, hL, h2, h3⟩, st⟩
  · dsimp only [Pt.U, Pt.locs, Pt.cells, Pt.slots] at X' e1 e2 h1 h2 h3 st
    subst h1; subst h2; subst h3
    exact Or.inl ⟨v, (T.setVm vm₁).calling g' mk (Value.ref b :: As).toArray, t, U', L, hT, X', hL, e1, e2, hq, st⟩
  · dsimp only [Pt.U, Pt.locs, Pt.cells, Pt.slots] at X' e1 e2 h1 h2 h3 st hcl
    subst h1; subst h2; subst h3
    exact Or.inr ⟨q, (T.setVm vm₁).calling g' mk (Value.ref b :: As).toArray, t, U', L, E, ce, hT, X', hL, e1, e2, hq, hce, hcv, vx_cls hW₁ hcl, st⟩
theorem vx_runSX {hh : List (Nat × Nat × Nat × Nat)} (S : CallFix p m c cc nL s args Ts own) (hM : vx_Met l y ws rm Pc Qc XC mc ms free) (cw : vx_CSW R s args own index y bytes maxL ret hh ws rm mc ms n) (hp : PreS s H Pc As)
    (hg : g.method = m) (hn : As.length = n) (hsize : g.locals.size = nL) (hstack : g.stack = As.reverse ++ rest) (hW : 2 * g.monitorRoom + (rest.map fun v => v.category).sum ≤ 8) (hdg : decode cc g.pc = .ok (.invokestatic index, 3)) (hf : cells + mc ≤ R.cells ∧ slots + ms ≤ R.slots) :
    vx_Run p l e R s m args below meth c H locs cells slots mc ms g rest (Qc As.toArray) XC free := by
  obtain ⟨⟨hrc, hrs, hfr, hlo, hws, hcw⟩, hcode, hini, hy, hlen, hl, hstt⟩ := cw
  have hK : vx_Back l R p e below s args y 3 8 (PreOf R mc ms Pc) (PostOf Qc mc ms free) (vx_Post XC mc ms free) := vx_backW (hh := hh) (bytes := bytes) (maxL := maxL) (ret := ret) hM hp.1 hrc hrs hfr hlo hws hcw (fun a' U hW => word_at hW (Or.inl (by first | rfl | simp [Cond.onTables, Cond.keeps, Cond.steady])) hini)
  obtain ⟨hx, hb, hml, ho, -⟩ := S
  intro T hT X
  rcases vx_callSX X hx (hh := hh) (bytes := bytes) (maxL := maxL) (ret := ret) ho hl hstt hini hcode hy hK hg (hsize.trans hml.symm) (argsL := As) (rest := rest) (fun sig h => hn.trans (hlen sig h)) hstack hW (by rw [hb]; exact hdg)
    (fun vm₁ hW₁ => ⟨hf.1, hf.2, hp.2 (T.setVm vm₁) hT hW₁⟩) with ⟨v, vm₁, ⟨U', l2, c2, s2⟩, hW₁, X', ⟨g', mk, t, L, e1, e2, hq, h1, hL, h2, h3⟩, st⟩ | ⟨q, vm₁, ⟨U', l2, c2, s2⟩, hW₁, X', ⟨g', mk, t, L, E, ce, e1, e2, hq, hce, hcv, hcl, h1, hL, h2, h3⟩, st⟩
  · dsimp only [Pt.U, Pt.locs, Pt.cells, Pt.slots] at X' e1 e2 h1 h2 h3 st
    subst h1; subst h2; subst h3
    exact Or.inl ⟨v, (T.setVm vm₁).calling g' mk As.toArray, t, U', L, hT, X', hL, e1, e2, hq, st⟩
  · dsimp only [Pt.U, Pt.locs, Pt.cells, Pt.slots] at X' e1 e2 h1 h2 h3 st hcl
    subst h1; subst h2; subst h3
    exact Or.inr ⟨q, (T.setVm vm₁).calling g' mk As.toArray, t, U', L, E, ce, hT, X', hL, e1, e2, hq, hce, hcv, vx_cls hW₁ hcl, st⟩
end
end VXH
theorem vx_ofWH {l : Launch} {y : MethodName} {ws ws' : List Cond} {rm : Room} {Pc : Array Value → State → Prop} {Qc : Array Value → State → Outcome → State → Prop} {XC : String → State → State → Prop} {mc ms : Nat} {free : Addr → Prop} {cc : ByteArray} {maxL : Nat} {ret : Option FieldType} {hh : List (Nat × Nat × Nat × Nat)}
    (hy : plainName y.cls = true) (hw : ws = Cond.codeWith y cc maxL ret hh :: ws')
    (body : ∀ p e s m args below meth c s₁, BodyLoose p l y (headSpec ws rm) cc maxL ret e s m args below meth c s₁ → c.maxLocals = maxL → Pc args s →
      W p l e (headSpec ws rm).room s m args below meth c s.heap [] 0 0 (vx_MQ below Qc XC args s mc ms free) (entryFrame m args maxL)) : vx_Met l y ws rm Pc Qc XC mc ms free := by
  refine MetFree.of_bodyS (code := cc) (maxLocals := maxL) (ret := ret) hy ?_ ?_
  · intro args s m h hn
    obtain ⟨m9, meth, c, hn9, h1, h2, h3, h4, -, h5, h6, -⟩ := Cond.codeWith_spec (atoms_spec (ws := ws) h _ (by rw [hw]; exact List.mem_cons_self))
    cases hn.symm.trans hn9
    exact ⟨meth, c, h1, h2, h3, h4, h5, h6⟩
  · intro p e s m args below meth c s₁ B hml hP _
    have hh0 : s₁.heap = s.heap := by rw [B.state]; rfl
    obtain ⟨t, a1, o, b1, b2, b3⟩ := body p e s m args below meth c s₁ B hml hP s₁ hh0 (Stand.of_body B)
    exact ⟨t, o, a1, b1, b2, b3⟩
/-! ===== END ===== -/
end
section
/-! ===== BEGIN printed: names, fields, word lists, decode rows ===== -/
def RX0 : String := "Detentionbureau$Certificate"
def TX0 : u_T := fun k => match k with
  | 0 => ("Detentionbureau$Certificate", "body", "I", true)
  | 1 => ("Detentionbureau$Certificate", "issuedOn", "I", true)
  | 2 => ("Detentionbureau$Certificate", "lastDay", "I", true)
  | _ => ("Detentionbureau$Certificate", "endorsed", "I", false)
def tyX0 : Nat → FieldType := fun k => match k with
  | 0 => .int
  | 1 => .int
  | 2 => .int
  | _ => .int
abbrev wsX00 : List Cond := u_ws RX0 TX0 4
theorem nmX0 : ∀ a, a < 4 → ∀ b, b < 4 → a ≠ b → (TX0 a).2.1 ≠ (TX0 b).2.1 := by decide +kernel
theorem tyX0_ok : ∀ k, k < 4 → parseFieldDescriptor (TX0 k).2.2.1 = some (tyX0 k) := by decide +kernel
abbrev cX0_init : ByteArray := prog_2_method_1_code
def yX0_init : MethodName := ⟨RX0, "<init>", "(III)V"⟩
abbrev cX0_anniversaries : ByteArray := prog_2_method_2_code
def yX0_anniversaries : MethodName := ⟨RX0, "anniversaries", "()I"⟩
abbrev cX0_anniversaryDay : ByteArray := prog_2_method_3_code
def yX0_anniversaryDay : MethodName := ⟨RX0, "anniversaryDay", "(I)I"⟩
abbrev cX0_anniversaryToEndorse : ByteArray := prog_2_method_4_code
def yX0_anniversaryToEndorse : MethodName := ⟨RX0, "anniversaryToEndorse", "(I)I"⟩
abbrev cX0_hasLapsedByItself : ByteArray := prog_2_method_5_code
def yX0_hasLapsedByItself : MethodName := ⟨RX0, "hasLapsedByItself", "(I)Z"⟩
def RX1 : String := "Detentionbureau$Finding"
def TX1 : u_T := fun k => match k with
  | 0 => ("Detentionbureau$Finding", "weight", "I", true)
  | 1 => ("Detentionbureau$Finding", "putOff", "Z", false)
  | _ => ("Detentionbureau$Finding", "mended", "Z", false)
def tyX1 : Nat → FieldType := fun k => match k with
  | 0 => .int
  | 1 => .boolean
  | _ => .boolean
abbrev wsX10 : List Cond := u_ws RX1 TX1 3
theorem nmX1 : ∀ a, a < 3 → ∀ b, b < 3 → a ≠ b → (TX1 a).2.1 ≠ (TX1 b).2.1 := by decide +kernel
theorem tyX1_ok : ∀ k, k < 3 → parseFieldDescriptor (TX1 k).2.2.1 = some (tyX1 k) := by decide +kernel
abbrev cX1_init : ByteArray := prog_3_method_1_code
def yX1_init : MethodName := ⟨RX1, "<init>", "(I)V"⟩
abbrev cX1_isOpen : ByteArray := prog_3_method_2_code
def yX1_isOpen : MethodName := ⟨RX1, "isOpen", "()Z"⟩
def RX2 : String := "Detentionbureau$Note"
def TX2 : u_T := fun k => match k with
  | 0 => ("Detentionbureau$Note", "what", "I", true)
  | 1 => ("Detentionbureau$Note", "visit", "I", true)
  | 2 => ("Detentionbureau$Note", "first", "I", true)
  | _ => ("Detentionbureau$Note", "second", "I", true)
def tyX2 : Nat → FieldType := fun k => match k with
  | 0 => .int
  | 1 => .int
  | 2 => .int
  | _ => .int
abbrev wsX20 : List Cond := u_ws RX2 TX2 4
theorem nmX2 : ∀ a, a < 4 → ∀ b, b < 4 → a ≠ b → (TX2 a).2.1 ≠ (TX2 b).2.1 := by decide +kernel
theorem tyX2_ok : ∀ k, k < 4 → parseFieldDescriptor (TX2 k).2.2.1 = some (tyX2 k) := by decide +kernel
abbrev cX2_init : ByteArray := prog_4_method_1_code
def yX2_init : MethodName := ⟨RX2, "<init>", "(IIII)V"⟩
def RX3 : String := "Detentionbureau$Rule"
def TX3 : u_T := fun k => match k with
  | 0 => ("Detentionbureau$Rule", "code", "I", true)
  | 1 => ("Detentionbureau$Rule", "size", "I", true)
  | 2 => ("Detentionbureau$Rule", "kinds", "I", true)
  | 3 => ("Detentionbureau$Rule", "from", "I", true)
  | _ => ("Detentionbureau$Rule", "delay", "I", true)
def tyX3 : Nat → FieldType := fun k => match k with
  | 0 => .int
  | 1 => .int
  | 2 => .int
  | 3 => .int
  | _ => .int
abbrev wsX30 : List Cond := u_ws RX3 TX3 5
theorem nmX3 : ∀ a, a < 5 → ∀ b, b < 5 → a ≠ b → (TX3 a).2.1 ≠ (TX3 b).2.1 := by decide +kernel
theorem tyX3_ok : ∀ k, k < 5 → parseFieldDescriptor (TX3 k).2.2.1 = some (tyX3 k) := by decide +kernel
abbrev cX3_init : ByteArray := prog_5_method_1_code
def yX3_init : MethodName := ⟨RX3, "<init>", "(IIIII)V"⟩
abbrev cX3_isInForce : ByteArray := prog_5_method_2_code
def yX3_isInForce : MethodName := ⟨RX3, "isInForce", "(LDetentionbureau$Ship;I)Z"⟩
def RX4 : String := "Detentionbureau$Ship"
def TX4 : u_T := fun k => match k with
  | 0 => ("Detentionbureau$Ship", "number", "I", true)
  | 1 => ("Detentionbureau$Ship", "built", "I", true)
  | 2 => ("Detentionbureau$Ship", "size", "I", true)
  | 3 => ("Detentionbureau$Ship", "kind", "I", true)
  | 4 => ("Detentionbureau$Ship", "certificates", "[LDetentionbureau$Certificate;", true)
  | 5 => ("Detentionbureau$Ship", "file", "Ljava/util/ArrayList;", true)
  | 6 => ("Detentionbureau$Ship", "flag", "I", false)
  | 7 => ("Detentionbureau$Ship", "body", "I", false)
  | 8 => ("Detentionbureau$Ship", "changed", "I", false)
  | 9 => ("Detentionbureau$Ship", "port", "I", false)
  | 10 => ("Detentionbureau$Ship", "visitHere", "LDetentionbureau$Visit;", false)
  | 11 => ("Detentionbureau$Ship", "latestVisit", "LDetentionbureau$Visit;", false)
  | 12 => ("Detentionbureau$Ship", "detainedBy", "LDetentionbureau$Visit;", false)
  | 13 => ("Detentionbureau$Ship", "isBanDue", "Z", false)
  | 14 => ("Detentionbureau$Ship", "bans", "I", false)
  | 15 => ("Detentionbureau$Ship", "bannedTo", "I", false)
  | _ => ("Detentionbureau$Ship", "fees", "I", false)
def tyX4 : Nat → FieldType := fun k => match k with
  | 0 => .int
  | 1 => .int
  | 2 => .int
  | 3 => .int
  | 4 => .array (.object "Detentionbureau$Certificate")
  | 5 => .object "java/util/ArrayList"
  | 6 => .int
  | 7 => .int
  | 8 => .int
  | 9 => .int
  | 10 => .object "Detentionbureau$Visit"
  | 11 => .object "Detentionbureau$Visit"
  | 12 => .object "Detentionbureau$Visit"
  | 13 => .boolean
  | 14 => .int
  | 15 => .int
  | _ => .int
abbrev wsX40 : List Cond := u_ws RX4 TX4 17
theorem nmX4 : ∀ a, a < 17 → ∀ b, b < 17 → a ≠ b → (TX4 a).2.1 ≠ (TX4 b).2.1 := by decide +kernel
theorem tyX4_ok : ∀ k, k < 17 → parseFieldDescriptor (TX4 k).2.2.1 = some (tyX4 k) := by decide +kernel
abbrev cX4_init : ByteArray := prog_6_method_1_code
def yX4_init : MethodName := ⟨RX4, "<init>", "(IIIIII)V"⟩
abbrev cX4_note : ByteArray := prog_6_method_2_code
def yX4_note : MethodName := ⟨RX4, "note", "(IIII)V"⟩
def RX5 : String := "Detentionbureau$Visit"
def TX5 : u_T := fun k => match k with
  | 0 => ("Detentionbureau$Visit", "ship", "LDetentionbureau$Ship;", true)
  | 1 => ("Detentionbureau$Visit", "number", "I", true)
  | 2 => ("Detentionbureau$Visit", "port", "I", true)
  | 3 => ("Detentionbureau$Visit", "day", "I", true)
  | 4 => ("Detentionbureau$Visit", "flag", "I", true)
  | 5 => ("Detentionbureau$Visit", "findings", "Ljava/util/ArrayList;", true)
  | 6 => ("Detentionbureau$Visit", "depth", "I", false)
  | 7 => ("Detentionbureau$Visit", "detainedOn", "I", false)
  | 8 => ("Detentionbureau$Visit", "ledToBan", "Z", false)
  | 9 => ("Detentionbureau$Visit", "appealed", "Z", false)
  | 10 => ("Detentionbureau$Visit", "votesFor", "I", false)
  | _ => ("Detentionbureau$Visit", "votesAgainst", "I", false)
def tyX5 : Nat → FieldType := fun k => match k with
  | 0 => .object "Detentionbureau$Ship"
  | 1 => .int
  | 2 => .int
  | 3 => .int
  | 4 => .int
  | 5 => .object "java/util/ArrayList"
  | 6 => .int
  | 7 => .int
  | 8 => .boolean
  | 9 => .boolean
  | 10 => .int
  | _ => .int
abbrev wsX50 : List Cond := u_ws RX5 TX5 12
theorem nmX5 : ∀ a, a < 12 → ∀ b, b < 12 → a ≠ b → (TX5 a).2.1 ≠ (TX5 b).2.1 := by decide +kernel
theorem tyX5_ok : ∀ k, k < 12 → parseFieldDescriptor (TX5 k).2.2.1 = some (tyX5 k) := by decide +kernel
abbrev cX5_init : ByteArray := prog_7_method_1_code
def yX5_init : MethodName := ⟨RX5, "<init>", "(LDetentionbureau$Ship;III)V"⟩
abbrev cX5_openFindings : ByteArray := prog_7_method_2_code
def yX5_openFindings : MethodName := ⟨RX5, "openFindings", "()I"⟩
abbrev cX5_openWeight : ByteArray := prog_7_method_3_code
def yX5_openWeight : MethodName := ⟨RX5, "openWeight", "()I"⟩
abbrev cX5_hasPutOffUnmended : ByteArray := prog_7_method_4_code
def yX5_hasPutOffUnmended : MethodName := ⟨RX5, "hasPutOffUnmended", "()Z"⟩
abbrev cX5_wasDetention : ByteArray := prog_7_method_5_code
def yX5_wasDetention : MethodName := ⟨RX5, "wasDetention", "()Z"⟩
abbrev cX5_decision : ByteArray := prog_7_method_6_code
def yX5_decision : MethodName := ⟨RX5, "decision", "()I"⟩
abbrev cX5_counts : ByteArray := prog_7_method_7_code
def yX5_counts : MethodName := ⟨RX5, "counts", "()Z"⟩
abbrev cX5_isKnownAt : ByteArray := prog_7_method_8_code
def yX5_isKnownAt : MethodName := ⟨RX5, "isKnownAt", "(II)Z"⟩
def RX6 : String := "Detentionbureau"
def TX6 : u_T := fun k => match k with
  | 0 => ("Detentionbureau", "ships", "Ljava/util/ArrayList;", true)
  | 1 => ("Detentionbureau", "rules", "Ljava/util/ArrayList;", true)
  | 2 => ("Detentionbureau", "visits", "Ljava/util/ArrayList;", true)
  | 3 => ("Detentionbureau", "suspendedBodies", "[Z", true)
  | 4 => ("Detentionbureau", "missedAtPorts", "[I", true)
  | _ => ("Detentionbureau", "today", "I", false)
def tyX6 : Nat → FieldType := fun k => match k with
  | 0 => .object "java/util/ArrayList"
  | 1 => .object "java/util/ArrayList"
  | 2 => .object "java/util/ArrayList"
  | 3 => .array .boolean
  | 4 => .array .int
  | _ => .int
abbrev wsX60 : List Cond := u_ws RX6 TX6 6
theorem nmX6 : ∀ a, a < 6 → ∀ b, b < 6 → a ≠ b → (TX6 a).2.1 ≠ (TX6 b).2.1 := by decide +kernel
theorem tyX6_ok : ∀ k, k < 6 → parseFieldDescriptor (TX6 k).2.2.1 = some (tyX6 k) := by decide +kernel
abbrev cX6_init : ByteArray := prog_1_method_1_code
def yX6_init : MethodName := ⟨RX6, "<init>", "()V"⟩
abbrev cX6_pass : ByteArray := prog_1_method_2_code
def yX6_pass : MethodName := ⟨RX6, "pass", "(I)I"⟩
abbrev cX6_ship : ByteArray := prog_1_method_3_code
def yX6_ship : MethodName := ⟨RX6, "ship", "(IIIII)I"⟩
abbrev cX6_changes : ByteArray := prog_1_method_4_code
def yX6_changes : MethodName := ⟨RX6, "changes", "(III)I"⟩
abbrev cX6_suspend : ByteArray := prog_1_method_5_code
def yX6_suspend : MethodName := ⟨RX6, "suspend", "(IZ)Z"⟩
abbrev cX6_rule : ByteArray := prog_1_method_6_code
def yX6_rule : MethodName := ⟨RX6, "rule", "(IIIII)I"⟩
abbrev cX6_issue : ByteArray := prog_1_method_7_code
def yX6_issue : MethodName := ⟨RX6, "issue", "(III)I"⟩
abbrev cX6_endorse : ByteArray := prog_1_method_8_code
def yX6_endorse : MethodName := ⟨RX6, "endorse", "(II)I"⟩
abbrev cX6_calls : ByteArray := prog_1_method_9_code
def yX6_calls : MethodName := ⟨RX6, "calls", "(II)I"⟩
abbrev cX6_leaves : ByteArray := prog_1_method_10_code
def yX6_leaves : MethodName := ⟨RX6, "leaves", "(I)Z"⟩
abbrev cX6_visit : ByteArray := prog_1_method_11_code
def yX6_visit : MethodName := ⟨RX6, "visit", "(I)I"⟩
abbrev cX6_finds : ByteArray := prog_1_method_12_code
def yX6_finds : MethodName := ⟨RX6, "finds", "(III)I"⟩
abbrev cX6_mends : ByteArray := prog_1_method_13_code
def yX6_mends : MethodName := ⟨RX6, "mends", "(IIZ)I"⟩
abbrev cX6_detain : ByteArray := prog_1_method_14_code
def yX6_detain : MethodName := ⟨RX6, "detain", "(I)I"⟩
abbrev cX6_release : ByteArray := prog_1_method_15_code
def yX6_release : MethodName := ⟨RX6, "release", "(I)I"⟩
abbrev cX6_appeal : ByteArray := prog_1_method_16_code
def yX6_appeal : MethodName := ⟨RX6, "appeal", "(I)V"⟩
abbrev cX6_vote : ByteArray := prog_1_method_17_code
def yX6_vote : MethodName := ⟨RX6, "vote", "(IZ)I"⟩
abbrev cX6_ofShip : ByteArray := prog_1_method_18_code
def yX6_ofShip : MethodName := ⟨RX6, "ofShip", "(II)I"⟩
abbrev cX6_pointsAnew : ByteArray := prog_1_method_19_code
def yX6_pointsAnew : MethodName := ⟨RX6, "pointsAnew", "(I)I"⟩
abbrev cX6_isGround : ByteArray := prog_1_method_20_code
def yX6_isGround : MethodName := ⟨RX6, "isGround", "(II)Z"⟩
abbrev cX6_ofVisit : ByteArray := prog_1_method_21_code
def yX6_ofVisit : MethodName := ⟨RX6, "ofVisit", "(II)I"⟩
abbrev cX6_list : ByteArray := prog_1_method_22_code
def yX6_list : MethodName := ⟨RX6, "list", "(I)I"⟩
abbrev cX6_missed : ByteArray := prog_1_method_23_code
def yX6_missed : MethodName := ⟨RX6, "missed", "(I)I"⟩
abbrev cX6_knew : ByteArray := prog_1_method_24_code
def yX6_knew : MethodName := ⟨RX6, "knew", "(III)I"⟩
abbrev cX6_isIndex : ByteArray := prog_1_method_25_code
def yX6_isIndex : MethodName := ⟨RX6, "isIndex", "(II)Z"⟩
abbrev cX6_isIn : ByteArray := prog_1_method_26_code
def yX6_isIn : MethodName := ⟨RX6, "isIn", "(II)Z"⟩
abbrev cX6_shipNumbered : ByteArray := prog_1_method_27_code
def yX6_shipNumbered : MethodName := ⟨RX6, "shipNumbered", "(I)LDetentionbureau$Ship;"⟩
abbrev cX6_visitNumbered : ByteArray := prog_1_method_28_code
def yX6_visitNumbered : MethodName := ⟨RX6, "visitNumbered", "(I)LDetentionbureau$Visit;"⟩
abbrev cX6_isOfLatest : ByteArray := prog_1_method_29_code
def yX6_isOfLatest : MethodName := ⟨RX6, "isOfLatest", "(I)Z"⟩
abbrev cX6_isSuspended : ByteArray := prog_1_method_30_code
def yX6_isSuspended : MethodName := ⟨RX6, "isSuspended", "(I)Z"⟩
abbrev cX6_isGroundToday : ByteArray := prog_1_method_31_code
def yX6_isGroundToday : MethodName := ⟨RX6, "isGroundToday", "(LDetentionbureau$Ship;I)Z"⟩
abbrev cX6_hangsOn : ByteArray := prog_1_method_32_code
def yX6_hangsOn : MethodName := ⟨RX6, "hangsOn", "(I)I"⟩
abbrev cX6_familiesNotGood : ByteArray := prog_1_method_33_code
def yX6_familiesNotGood : MethodName := ⟨RX6, "familiesNotGood", "(LDetentionbureau$Ship;)I"⟩
abbrev cX6_pointsOf : ByteArray := prog_1_method_34_code
def yX6_pointsOf : MethodName := ⟨RX6, "pointsOf", "(LDetentionbureau$Ship;)I"⟩
abbrev cX6_pointsByFile : ByteArray := prog_1_method_35_code
def yX6_pointsByFile : MethodName := ⟨RX6, "pointsByFile", "(Ljava/util/ArrayList;)I"⟩
abbrev cX6_countsByFile : ByteArray := prog_1_method_36_code
def yX6_countsByFile : MethodName := ⟨RX6, "countsByFile", "(Ljava/util/ArrayList;I)Z"⟩
abbrev cX6_notesOf : ByteArray := prog_1_method_37_code
def yX6_notesOf : MethodName := ⟨RX6, "notesOf", "(Ljava/util/ArrayList;II)I"⟩
abbrev cX6_pointsOfMake : ByteArray := prog_1_method_38_code
def yX6_pointsOfMake : MethodName := ⟨RX6, "pointsOfMake", "(II)I"⟩
abbrev cX6_pointsOfBelonging : ByteArray := prog_1_method_39_code
def yX6_pointsOfBelonging : MethodName := ⟨RX6, "pointsOfBelonging", "(II)I"⟩
abbrev cX6_pointsOfVisits : ByteArray := prog_1_method_40_code
def yX6_pointsOfVisits : MethodName := ⟨RX6, "pointsOfVisits", "(ZI)I"⟩
abbrev cX6_isOld : ByteArray := prog_1_method_41_code
def yX6_isOld : MethodName := ⟨RX6, "isOld", "(I)Z"⟩
abbrev cX6_riskOf : ByteArray := prog_1_method_42_code
def yX6_riskOf : MethodName := ⟨RX6, "riskOf", "(LDetentionbureau$Ship;)I"⟩
abbrev cX6_priorityOf : ByteArray := prog_1_method_43_code
def yX6_priorityOf : MethodName := ⟨RX6, "priorityOf", "(LDetentionbureau$Ship;)I"⟩
abbrev cX6_windowBegin : ByteArray := prog_1_method_44_code
def yX6_windowBegin : MethodName := ⟨RX6, "windowBegin", "(I)I"⟩
abbrev cX6_windowEnd : ByteArray := prog_1_method_45_code
def yX6_windowEnd : MethodName := ⟨RX6, "windowEnd", "(I)I"⟩
abbrev cX6_depthOfNext : ByteArray := prog_1_method_46_code
def yX6_depthOfNext : MethodName := ⟨RX6, "depthOfNext", "(LDetentionbureau$Ship;)I"⟩
abbrev cX6_hasPutOffUnmended : ByteArray := prog_1_method_47_code
def yX6_hasPutOffUnmended : MethodName := ⟨RX6, "hasPutOffUnmended", "(LDetentionbureau$Ship;)Z"⟩
abbrev cX6_hasLeftSince : ByteArray := prog_1_method_48_code
def yX6_hasLeftSince : MethodName := ⟨RX6, "hasLeftSince", "(LDetentionbureau$Visit;)Z"⟩
abbrev cX6_isDetainable : ByteArray := prog_1_method_49_code
def yX6_isDetainable : MethodName := ⟨RX6, "isDetainable", "(LDetentionbureau$Visit;)Z"⟩
abbrev cX6_detentionsThatCount : ByteArray := prog_1_method_50_code
def yX6_detentionsThatCount : MethodName := ⟨RX6, "detentionsThatCount", "(LDetentionbureau$Ship;)I"⟩
abbrev cX6_isCounted : ByteArray := prog_1_method_51_code
def yX6_isCounted : MethodName := ⟨RX6, "isCounted", "(LDetentionbureau$Visit;LDetentionbureau$Ship;)Z"⟩
abbrev cX6_lookForBan : ByteArray := prog_1_method_52_code
def yX6_lookForBan : MethodName := ⟨RX6, "lookForBan", "(LDetentionbureau$Ship;)V"⟩
abbrev cX6_ban : ByteArray := prog_1_method_53_code
def yX6_ban : MethodName := ⟨RX6, "ban", "(LDetentionbureau$Ship;)V"⟩
abbrev cX6_isBanned : ByteArray := prog_1_method_54_code
def yX6_isBanned : MethodName := ⟨RX6, "isBanned", "(LDetentionbureau$Ship;)Z"⟩
abbrev cX6_listOf : ByteArray := prog_1_method_55_code
def yX6_listOf : MethodName := ⟨RX6, "listOf", "(I)I"⟩
abbrev cX6_listBy : ByteArray := prog_1_method_56_code
def yX6_listBy : MethodName := ⟨RX6, "listBy", "(II)I"⟩
def RX7 : String := "DetentionbureauModel"
def TX7 : u_T := fun k => match k with
  | 0 => ("DetentionbureauModel", "thrown", "I", false)
  | 1 => ("DetentionbureauModel", "today", "I", false)
  | 2 => ("DetentionbureauModel", "isSuspended", "[Z", true)
  | 3 => ("DetentionbureauModel", "ships", "I", false)
  | 4 => ("DetentionbureauModel", "built", "[I", true)
  | 5 => ("DetentionbureauModel", "size", "[I", true)
  | 6 => ("DetentionbureauModel", "kind", "[I", true)
  | 7 => ("DetentionbureauModel", "flag", "[I", true)
  | 8 => ("DetentionbureauModel", "body", "[I", true)
  | 9 => ("DetentionbureauModel", "changed", "[I", true)
  | 10 => ("DetentionbureauModel", "port", "[I", true)
  | 11 => ("DetentionbureauModel", "here", "[I", true)
  | 12 => ("DetentionbureauModel", "latest", "[I", true)
  | 13 => ("DetentionbureauModel", "detained", "[I", true)
  | 14 => ("DetentionbureauModel", "isBanDue", "[Z", true)
  | 15 => ("DetentionbureauModel", "bans", "[I", true)
  | 16 => ("DetentionbureauModel", "bannedTill", "[I", true)
  | 17 => ("DetentionbureauModel", "fees", "[I", true)
  | 18 => ("DetentionbureauModel", "isThere", "[Z", true)
  | 19 => ("DetentionbureauModel", "issued", "[I", true)
  | 20 => ("DetentionbureauModel", "term", "[I", true)
  | 21 => ("DetentionbureauModel", "issuer", "[I", true)
  | 22 => ("DetentionbureauModel", "endorsed", "[I", true)
  | 23 => ("DetentionbureauModel", "rules", "I", false)
  | 24 => ("DetentionbureauModel", "code", "[I", true)
  | 25 => ("DetentionbureauModel", "least", "[I", true)
  | 26 => ("DetentionbureauModel", "kinds", "[I", true)
  | 27 => ("DetentionbureauModel", "from", "[I", true)
  | 28 => ("DetentionbureauModel", "delay", "[I", true)
  | 29 => ("DetentionbureauModel", "visits", "I", false)
  | 30 => ("DetentionbureauModel", "shipOf", "[I", true)
  | 31 => ("DetentionbureauModel", "portOf", "[I", true)
  | 32 => ("DetentionbureauModel", "dayOf", "[I", true)
  | 33 => ("DetentionbureauModel", "kindOf", "[I", true)
  | 34 => ("DetentionbureauModel", "flagOf", "[I", true)
  | 35 => ("DetentionbureauModel", "findings", "[I", true)
  | 36 => ("DetentionbureauModel", "weight", "[I", true)
  | 37 => ("DetentionbureauModel", "state", "[I", true)
  | 38 => ("DetentionbureauModel", "detainedOn", "[I", true)
  | 39 => ("DetentionbureauModel", "isAppealed", "[Z", true)
  | 40 => ("DetentionbureauModel", "votesFor", "[I", true)
  | 41 => ("DetentionbureauModel", "votesAgainst", "[I", true)
  | 42 => ("DetentionbureauModel", "hasBanned", "[Z", true)
  | _ => ("DetentionbureauModel", "missed", "[I", true)
def tyX7 : Nat → FieldType := fun k => match k with
  | 0 => .int
  | 1 => .int
  | 2 => .array .boolean
  | 3 => .int
  | 4 => .array .int
  | 5 => .array .int
  | 6 => .array .int
  | 7 => .array .int
  | 8 => .array .int
  | 9 => .array .int
  | 10 => .array .int
  | 11 => .array .int
  | 12 => .array .int
  | 13 => .array .int
  | 14 => .array .boolean
  | 15 => .array .int
  | 16 => .array .int
  | 17 => .array .int
  | 18 => .array .boolean
  | 19 => .array .int
  | 20 => .array .int
  | 21 => .array .int
  | 22 => .array .int
  | 23 => .int
  | 24 => .array .int
  | 25 => .array .int
  | 26 => .array .int
  | 27 => .array .int
  | 28 => .array .int
  | 29 => .int
  | 30 => .array .int
  | 31 => .array .int
  | 32 => .array .int
  | 33 => .array .int
  | 34 => .array .int
  | 35 => .array .int
  | 36 => .array .int
  | 37 => .array .int
  | 38 => .array .int
  | 39 => .array .boolean
  | 40 => .array .int
  | 41 => .array .int
  | 42 => .array .boolean
  | _ => .array .int
abbrev wsX70 : List Cond := u_ws RX7 TX7 44
theorem nmX7 : ∀ a, a < 44 → ∀ b, b < 44 → a ≠ b → (TX7 a).2.1 ≠ (TX7 b).2.1 := by decide +kernel
theorem tyX7_ok : ∀ k, k < 44 → parseFieldDescriptor (TX7 k).2.2.1 = some (tyX7 k) := by decide +kernel
abbrev cX7_init : ByteArray := prog_9_method_1_code
def yX7_init : MethodName := ⟨RX7, "<init>", "()V"⟩
abbrev cX7_thrown : ByteArray := prog_9_method_2_code
def yX7_thrown : MethodName := ⟨RX7, "thrown", "()I"⟩
abbrev cX7_in : ByteArray := prog_9_method_3_code
def yX7_in : MethodName := ⟨RX7, "in", "(III)Z"⟩
abbrev cX7_isShip : ByteArray := prog_9_method_4_code
def yX7_isShip : MethodName := ⟨RX7, "isShip", "(I)Z"⟩
abbrev cX7_isVisit : ByteArray := prog_9_method_5_code
def yX7_isVisit : MethodName := ⟨RX7, "isVisit", "(I)Z"⟩
abbrev cX7_isFlag : ByteArray := prog_9_method_6_code
def yX7_isFlag : MethodName := ⟨RX7, "isFlag", "(I)Z"⟩
abbrev cX7_isBody : ByteArray := prog_9_method_7_code
def yX7_isBody : MethodName := ⟨RX7, "isBody", "(I)Z"⟩
abbrev cX7_isPort : ByteArray := prog_9_method_8_code
def yX7_isPort : MethodName := ⟨RX7, "isPort", "(I)Z"⟩
abbrev cX7_isIn : ByteArray := prog_9_method_9_code
def yX7_isIn : MethodName := ⟨RX7, "isIn", "(II)Z"⟩
abbrev cX7_pass : ByteArray := prog_9_method_10_code
def yX7_pass : MethodName := ⟨RX7, "pass", "(I)I"⟩
abbrev cX7_ship : ByteArray := prog_9_method_11_code
def yX7_ship : MethodName := ⟨RX7, "ship", "(IIIII)I"⟩
abbrev cX7_changes : ByteArray := prog_9_method_12_code
def yX7_changes : MethodName := ⟨RX7, "changes", "(III)I"⟩
abbrev cX7_suspend : ByteArray := prog_9_method_13_code
def yX7_suspend : MethodName := ⟨RX7, "suspend", "(IZ)Z"⟩
abbrev cX7_rule : ByteArray := prog_9_method_14_code
def yX7_rule : MethodName := ⟨RX7, "rule", "(IIIII)I"⟩
abbrev cX7_isOld : ByteArray := prog_9_method_15_code
def yX7_isOld : MethodName := ⟨RX7, "isOld", "(I)Z"⟩
abbrev cX7_isInForce : ByteArray := prog_9_method_16_code
def yX7_isInForce : MethodName := ⟨RX7, "isInForce", "(II)Z"⟩
abbrev cX7_isGroundFor : ByteArray := prog_9_method_17_code
def yX7_isGroundFor : MethodName := ⟨RX7, "isGroundFor", "(II)Z"⟩
abbrev cX7_at : ByteArray := prog_9_method_18_code
def yX7_at : MethodName := ⟨RX7, "at", "(II)I"⟩
abbrev cX7_isOver : ByteArray := prog_9_method_19_code
def yX7_isOver : MethodName := ⟨RX7, "isOver", "(I)Z"⟩
abbrev cX7_lapsedAlone : ByteArray := prog_9_method_20_code
def yX7_lapsedAlone : MethodName := ⟨RX7, "lapsedAlone", "(I)Z"⟩
abbrev cX7_isLapsed : ByteArray := prog_9_method_21_code
def yX7_isLapsed : MethodName := ⟨RX7, "isLapsed", "(II)Z"⟩
abbrev cX7_lapsedOf : ByteArray := prog_9_method_22_code
def yX7_lapsedOf : MethodName := ⟨RX7, "lapsedOf", "(I)I"⟩
abbrev cX7_hangsOnLapsed : ByteArray := prog_9_method_23_code
def yX7_hangsOnLapsed : MethodName := ⟨RX7, "hangsOnLapsed", "(II)Z"⟩
abbrev cX7_issue : ByteArray := prog_9_method_24_code
def yX7_issue : MethodName := ⟨RX7, "issue", "(III)I"⟩
abbrev cX7_anniversary : ByteArray := prog_9_method_25_code
def yX7_anniversary : MethodName := ⟨RX7, "anniversary", "(I)I"⟩
abbrev cX7_many : ByteArray := prog_9_method_26_code
def yX7_many : MethodName := ⟨RX7, "many", "(I)I"⟩
abbrev cX7_endorse : ByteArray := prog_9_method_27_code
def yX7_endorse : MethodName := ⟨RX7, "endorse", "(II)I"⟩
abbrev cX7_isLatest : ByteArray := prog_9_method_28_code
def yX7_isLatest : MethodName := ⟨RX7, "isLatest", "(I)Z"⟩
abbrev cX7_counts : ByteArray := prog_9_method_29_code
def yX7_counts : MethodName := ⟨RX7, "counts", "(I)Z"⟩
abbrev cX7_detentionsOf : ByteArray := prog_9_method_30_code
def yX7_detentionsOf : MethodName := ⟨RX7, "detentionsOf", "(I)I"⟩
abbrev cX7_hadMany : ByteArray := prog_9_method_31_code
def yX7_hadMany : MethodName := ⟨RX7, "hadMany", "(I)Z"⟩
abbrev cX7_listOf : ByteArray := prog_9_method_32_code
def yX7_listOf : MethodName := ⟨RX7, "listOf", "(I)I"⟩
abbrev cX7_pointsOf : ByteArray := prog_9_method_33_code
def yX7_pointsOf : MethodName := ⟨RX7, "pointsOf", "(I)I"⟩
abbrev cX7_riskOf : ByteArray := prog_9_method_34_code
def yX7_riskOf : MethodName := ⟨RX7, "riskOf", "(I)I"⟩
abbrev cX7_priorityOf : ByteArray := prog_9_method_35_code
def yX7_priorityOf : MethodName := ⟨RX7, "priorityOf", "(I)I"⟩
abbrev cX7_isBanned : ByteArray := prog_9_method_36_code
def yX7_isBanned : MethodName := ⟨RX7, "isBanned", "(I)Z"⟩
abbrev cX7_calls : ByteArray := prog_9_method_37_code
def yX7_calls : MethodName := ⟨RX7, "calls", "(II)I"⟩
abbrev cX7_leaves : ByteArray := prog_9_method_38_code
def yX7_leaves : MethodName := ⟨RX7, "leaves", "(I)Z"⟩
abbrev cX7_hasOff : ByteArray := prog_9_method_39_code
def yX7_hasOff : MethodName := ⟨RX7, "hasOff", "(I)Z"⟩
abbrev cX7_visit : ByteArray := prog_9_method_40_code
def yX7_visit : MethodName := ⟨RX7, "visit", "(I)I"⟩
abbrev cX7_isHere : ByteArray := prog_9_method_41_code
def yX7_isHere : MethodName := ⟨RX7, "isHere", "(I)Z"⟩
abbrev cX7_finds : ByteArray := prog_9_method_42_code
def yX7_finds : MethodName := ⟨RX7, "finds", "(III)I"⟩
abbrev cX7_openOf : ByteArray := prog_9_method_43_code
def yX7_openOf : MethodName := ⟨RX7, "openOf", "(I)I"⟩
abbrev cX7_openWeights : ByteArray := prog_9_method_44_code
def yX7_openWeights : MethodName := ⟨RX7, "openWeights", "(I)I"⟩
abbrev cX7_mends : ByteArray := prog_9_method_45_code
def yX7_mends : MethodName := ⟨RX7, "mends", "(IIZ)I"⟩
abbrev cX7_detain : ByteArray := prog_9_method_46_code
def yX7_detain : MethodName := ⟨RX7, "detain", "(I)I"⟩
abbrev cX7_looksForBan : ByteArray := prog_9_method_47_code
def yX7_looksForBan : MethodName := ⟨RX7, "looksForBan", "(I)V"⟩
abbrev cX7_release : ByteArray := prog_9_method_48_code
def yX7_release : MethodName := ⟨RX7, "release", "(I)I"⟩
abbrev cX7_appeal : ByteArray := prog_9_method_49_code
def yX7_appeal : MethodName := ⟨RX7, "appeal", "(I)V"⟩
abbrev cX7_decided : ByteArray := prog_9_method_50_code
def yX7_decided : MethodName := ⟨RX7, "decided", "(I)I"⟩
abbrev cX7_vote : ByteArray := prog_9_method_51_code
def yX7_vote : MethodName := ⟨RX7, "vote", "(IZ)I"⟩
abbrev cX7_ofShip : ByteArray := prog_9_method_52_code
def yX7_ofShip : MethodName := ⟨RX7, "ofShip", "(II)I"⟩
abbrev cX7_pointsAnew : ByteArray := prog_9_method_53_code
def yX7_pointsAnew : MethodName := ⟨RX7, "pointsAnew", "(I)I"⟩
abbrev cX7_isGround : ByteArray := prog_9_method_54_code
def yX7_isGround : MethodName := ⟨RX7, "isGround", "(II)Z"⟩
abbrev cX7_ofVisit : ByteArray := prog_9_method_55_code
def yX7_ofVisit : MethodName := ⟨RX7, "ofVisit", "(II)I"⟩
abbrev cX7_list : ByteArray := prog_9_method_56_code
def yX7_list : MethodName := ⟨RX7, "list", "(I)I"⟩
abbrev cX7_missed : ByteArray := prog_9_method_57_code
def yX7_missed : MethodName := ⟨RX7, "missed", "(I)I"⟩
abbrev cX7_knew : ByteArray := prog_9_method_58_code
def yX7_knew : MethodName := ⟨RX7, "knew", "(III)I"⟩
def RJx145de : String := "java/io/Serializable"
def TJx145de : u_T := fun k => match k with
  | _ => ("", "", "", false)
def tyJx145de : Nat → FieldType := fun k => match k with
  | _ => .int
abbrev wsJx145de0 : List Cond := u_ws RJx145de TJx145de 0
theorem nmJx145de : ∀ a, a < 0 → ∀ b, b < 0 → a ≠ b → (TJx145de a).2.1 ≠ (TJx145de b).2.1 := by decide +kernel
theorem tyJx145de_ok : ∀ k, k < 0 → parseFieldDescriptor (TJx145de k).2.2.1 = some (tyJx145de k) := by decide +kernel
def RJx8e188 : String := "java/lang/Cloneable"
def TJx8e188 : u_T := fun k => match k with
  | _ => ("", "", "", false)
def tyJx8e188 : Nat → FieldType := fun k => match k with
  | _ => .int
abbrev wsJx8e1880 : List Cond := u_ws RJx8e188 TJx8e188 0
theorem nmJx8e188 : ∀ a, a < 0 → ∀ b, b < 0 → a ≠ b → (TJx8e188 a).2.1 ≠ (TJx8e188 b).2.1 := by decide +kernel
theorem tyJx8e188_ok : ∀ k, k < 0 → parseFieldDescriptor (TJx8e188 k).2.2.1 = some (tyJx8e188 k) := by decide +kernel
def RJ6 : String := "java/lang/Integer"
def TJ6 : u_T := fun k => match k with
  | _ => ("", "", "", false)
def tyJ6 : Nat → FieldType := fun k => match k with
  | _ => .int
abbrev wsJ60 : List Cond := u_ws RJ6 TJ6 0
theorem nmJ6 : ∀ a, a < 0 → ∀ b, b < 0 → a ≠ b → (TJ6 a).2.1 ≠ (TJ6 b).2.1 := by decide +kernel
theorem tyJ6_ok : ∀ k, k < 0 → parseFieldDescriptor (TJ6 k).2.2.1 = some (tyJ6 k) := by decide +kernel
abbrev cJ6_bitCount_0f7a4 : ByteArray := prog_16_method_49_code
def yJ6_bitCount_0f7a4 : MethodName := ⟨RJ6, "bitCount", "(I)I"⟩
def RJxab1ab : String := "java/lang/Iterable"
def TJxab1ab : u_T := fun k => match k with
  | _ => ("", "", "", false)
def tyJxab1ab : Nat → FieldType := fun k => match k with
  | _ => .int
abbrev wsJxab1ab0 : List Cond := u_ws RJxab1ab TJxab1ab 0
theorem nmJxab1ab : ∀ a, a < 0 → ∀ b, b < 0 → a ≠ b → (TJxab1ab a).2.1 ≠ (TJxab1ab b).2.1 := by decide +kernel
theorem tyJxab1ab_ok : ∀ k, k < 0 → parseFieldDescriptor (TJxab1ab k).2.2.1 = some (tyJxab1ab k) := by decide +kernel
def RJ9 : String := "java/lang/Math"
def TJ9 : u_T := fun k => match k with
  | _ => ("", "", "", false)
def tyJ9 : Nat → FieldType := fun k => match k with
  | _ => .int
abbrev wsJ90 : List Cond := u_ws RJ9 TJ9 0
theorem nmJ9 : ∀ a, a < 0 → ∀ b, b < 0 → a ≠ b → (TJ9 a).2.1 ≠ (TJ9 b).2.1 := by decide +kernel
theorem tyJ9_ok : ∀ k, k < 0 → parseFieldDescriptor (TJ9 k).2.2.1 = some (tyJ9 k) := by decide +kernel
abbrev cJ9_abs_0f7a4 : ByteArray := prog_18_method_59_code
def yJ9_abs_0f7a4 : MethodName := ⟨RJ9, "abs", "(I)I"⟩
abbrev cJ9_max_7cf53 : ByteArray := prog_18_method_65_code
def yJ9_max_7cf53 : MethodName := ⟨RJ9, "max", "(II)I"⟩
abbrev cJ9_min_7cf53 : ByteArray := prog_18_method_69_code
def yJ9_min_7cf53 : MethodName := ⟨RJ9, "min", "(II)I"⟩
def RJ0 : String := "java/lang/String"
def TJ0 : u_T := fun k => match k with
  | _ => ("", "", "", false)
def tyJ0 : Nat → FieldType := fun k => match k with
  | _ => .int
abbrev wsJ00 : List Cond := u_ws RJ0 TJ0 0
theorem nmJ0 : ∀ a, a < 0 → ∀ b, b < 0 → a ≠ b → (TJ0 a).2.1 ≠ (TJ0 b).2.1 := by decide +kernel
theorem tyJ0_ok : ∀ k, k < 0 → parseFieldDescriptor (TJ0 k).2.2.1 = some (tyJ0 k) := by decide +kernel
def RJ10 : String := "java/lang/System"
def TJ10 : u_T := fun k => match k with
  | _ => ("", "", "", false)
def tyJ10 : Nat → FieldType := fun k => match k with
  | _ => .int
abbrev wsJ100 : List Cond := u_ws RJ10 TJ10 0
theorem nmJ10 : ∀ a, a < 0 → ∀ b, b < 0 → a ≠ b → (TJ10 a).2.1 ≠ (TJ10 b).2.1 := by decide +kernel
theorem tyJ10_ok : ∀ k, k < 0 → parseFieldDescriptor (TJ10 k).2.2.1 = some (tyJ10 k) := by decide +kernel
def RJxa1e45 : String := "java/util/AbstractCollection"
def TJxa1e45 : u_T := fun k => match k with
  | _ => ("", "", "", false)
def tyJxa1e45 : Nat → FieldType := fun k => match k with
  | _ => .int
abbrev wsJxa1e450 : List Cond := u_ws RJxa1e45 TJxa1e45 0
theorem nmJxa1e45 : ∀ a, a < 0 → ∀ b, b < 0 → a ≠ b → (TJxa1e45 a).2.1 ≠ (TJxa1e45 b).2.1 := by decide +kernel
theorem tyJxa1e45_ok : ∀ k, k < 0 → parseFieldDescriptor (TJxa1e45 k).2.2.1 = some (tyJxa1e45 k) := by decide +kernel
abbrev cJxa1e45_init_da8c8 : ByteArray := prog_23_method_1_code
def yJxa1e45_init_da8c8 : MethodName := ⟨RJxa1e45, "<init>", "()V"⟩
def RJxc12de : String := "java/util/AbstractList"
def TJxc12de : u_T := fun k => match k with
  | _ => ("", "", "", false)
def tyJxc12de : Nat → FieldType := fun k => match k with
  | _ => .int
abbrev wsJxc12de0 : List Cond := u_ws RJxc12de TJxc12de 0
theorem nmJxc12de : ∀ a, a < 0 → ∀ b, b < 0 → a ≠ b → (TJxc12de a).2.1 ≠ (TJxc12de b).2.1 := by decide +kernel
theorem tyJxc12de_ok : ∀ k, k < 0 → parseFieldDescriptor (TJxc12de k).2.2.1 = some (tyJxc12de k) := by decide +kernel
abbrev cJxc12de_init_da8c8 : ByteArray := prog_24_method_1_code
def yJxc12de_init_da8c8 : MethodName := ⟨RJxc12de, "<init>", "()V"⟩
def RJx4a65c : String := "java/util/ArrayList"
def TJx4a65c : u_T := fun k => match k with
  | 0 => ("java/util/AbstractList", "modCount", "I", false)
  | 1 => ("java/util/ArrayList", "elementData", "[Ljava/lang/Object;", false)
  | _ => ("java/util/ArrayList", "size", "I", false)
def tyJx4a65c : Nat → FieldType := fun k => match k with
  | 0 => .int
  | 1 => .array (.object "java/lang/Object")
  | _ => .int
abbrev wsJx4a65c0 : List Cond := u_ws RJx4a65c TJx4a65c 3
theorem nmJx4a65c : ∀ a, a < 3 → ∀ b, b < 3 → a ≠ b → (TJx4a65c a).2.1 ≠ (TJx4a65c b).2.1 := by decide +kernel
theorem tyJx4a65c_ok : ∀ k, k < 3 → parseFieldDescriptor (TJx4a65c k).2.2.1 = some (tyJx4a65c k) := by decide +kernel
abbrev cJx4a65c_init_da8c8 : ByteArray := prog_25_method_2_code
def yJx4a65c_init_da8c8 : MethodName := ⟨RJx4a65c, "<init>", "()V"⟩
abbrev cJx4a65c_grow_92f84 : ByteArray := prog_25_method_6_code
def yJx4a65c_grow_92f84 : MethodName := ⟨RJx4a65c, "grow", "(I)[Ljava/lang/Object;"⟩
abbrev cJx4a65c_grow_d5877 : ByteArray := prog_25_method_7_code
def yJx4a65c_grow_d5877 : MethodName := ⟨RJx4a65c, "grow", "()[Ljava/lang/Object;"⟩
abbrev cJx4a65c_size_8abf5 : ByteArray := prog_25_method_8_code
def yJx4a65c_size_8abf5 : MethodName := ⟨RJx4a65c, "size", "()I"⟩
abbrev cJx4a65c_elementData_915e3 : ByteArray := prog_25_method_18_code
def yJx4a65c_elementData_915e3 : MethodName := ⟨RJx4a65c, "elementData", "(I)Ljava/lang/Object;"⟩
abbrev cJx4a65c_get_915e3 : ByteArray := prog_25_method_20_code
def yJx4a65c_get_915e3 : MethodName := ⟨RJx4a65c, "get", "(I)Ljava/lang/Object;"⟩
abbrev cJx4a65c_add_72be8 : ByteArray := prog_25_method_24_code
def yJx4a65c_add_72be8 : MethodName := ⟨RJx4a65c, "add", "(Ljava/lang/Object;[Ljava/lang/Object;I)V"⟩
abbrev cJx4a65c_add_9ea2d : ByteArray := prog_25_method_25_code
def yJx4a65c_add_9ea2d : MethodName := ⟨RJx4a65c, "add", "(Ljava/lang/Object;)Z"⟩
def RJ7 : String := "java/util/Arrays"
def TJ7 : u_T := fun k => match k with
  | _ => ("", "", "", false)
def tyJ7 : Nat → FieldType := fun k => match k with
  | _ => .int
abbrev wsJ70 : List Cond := u_ws RJ7 TJ7 0
theorem nmJ7 : ∀ a, a < 0 → ∀ b, b < 0 → a ≠ b → (TJ7 a).2.1 ≠ (TJ7 b).2.1 := by decide +kernel
theorem tyJ7_ok : ∀ k, k < 0 → parseFieldDescriptor (TJ7 k).2.2.1 = some (tyJ7 k) := by decide +kernel
abbrev cJ7_copyOf_1904c : ByteArray := prog_26_method_119_code
def yJ7_copyOf_1904c : MethodName := ⟨RJ7, "copyOf", "([Ljava/lang/Object;I)[Ljava/lang/Object;"⟩
abbrev cJ7_copyOf_6403c : ByteArray := prog_26_method_120_code
def yJ7_copyOf_6403c : MethodName := ⟨RJ7, "copyOf", "([Ljava/lang/Object;ILjava/lang/Class;)[Ljava/lang/Object;"⟩
def RJx5ef63 : String := "java/util/Collection"
def TJx5ef63 : u_T := fun k => match k with
  | _ => ("", "", "", false)
def tyJx5ef63 : Nat → FieldType := fun k => match k with
  | _ => .int
abbrev wsJx5ef630 : List Cond := u_ws RJx5ef63 TJx5ef63 0
theorem nmJx5ef63 : ∀ a, a < 0 → ∀ b, b < 0 → a ≠ b → (TJx5ef63 a).2.1 ≠ (TJx5ef63 b).2.1 := by decide +kernel
theorem tyJx5ef63_ok : ∀ k, k < 0 → parseFieldDescriptor (TJx5ef63 k).2.2.1 = some (tyJx5ef63 k) := by decide +kernel
def RJxbd725 : String := "java/util/List"
def TJxbd725 : u_T := fun k => match k with
  | _ => ("", "", "", false)
def tyJxbd725 : Nat → FieldType := fun k => match k with
  | _ => .int
abbrev wsJxbd7250 : List Cond := u_ws RJxbd725 TJxbd725 0
theorem nmJxbd725 : ∀ a, a < 0 → ∀ b, b < 0 → a ≠ b → (TJxbd725 a).2.1 ≠ (TJxbd725 b).2.1 := by decide +kernel
theorem tyJxbd725_ok : ∀ k, k < 0 → parseFieldDescriptor (TJxbd725 k).2.2.1 = some (tyJxbd725 k) := by decide +kernel
def RJ15 : String := "java/util/Objects"
def TJ15 : u_T := fun k => match k with
  | _ => ("", "", "", false)
def tyJ15 : Nat → FieldType := fun k => match k with
  | _ => .int
abbrev wsJ150 : List Cond := u_ws RJ15 TJ15 0
theorem nmJ15 : ∀ a, a < 0 → ∀ b, b < 0 → a ≠ b → (TJ15 a).2.1 ≠ (TJ15 b).2.1 := by decide +kernel
theorem tyJ15_ok : ∀ k, k < 0 → parseFieldDescriptor (TJ15 k).2.2.1 = some (tyJ15 k) := by decide +kernel
abbrev cJ15_checkIndex_7cf53 : ByteArray := prog_29_method_17_code
def yJ15_checkIndex_7cf53 : MethodName := ⟨RJ15, "checkIndex", "(II)I"⟩
def RJxf0a74 : String := "java/util/RandomAccess"
def TJxf0a74 : u_T := fun k => match k with
  | _ => ("", "", "", false)
def tyJxf0a74 : Nat → FieldType := fun k => match k with
  | _ => .int
abbrev wsJxf0a740 : List Cond := u_ws RJxf0a74 TJxf0a74 0
theorem nmJxf0a74 : ∀ a, a < 0 → ∀ b, b < 0 → a ≠ b → (TJxf0a74 a).2.1 ≠ (TJxf0a74 b).2.1 := by decide +kernel
theorem tyJxf0a74_ok : ∀ k, k < 0 → parseFieldDescriptor (TJxf0a74 k).2.2.1 = some (tyJxf0a74 k) := by decide +kernel
def RJxa66e6 : String := "java/util/SequencedCollection"
def TJxa66e6 : u_T := fun k => match k with
  | _ => ("", "", "", false)
def tyJxa66e6 : Nat → FieldType := fun k => match k with
  | _ => .int
abbrev wsJxa66e60 : List Cond := u_ws RJxa66e6 TJxa66e6 0
theorem nmJxa66e6 : ∀ a, a < 0 → ∀ b, b < 0 → a ≠ b → (TJxa66e6 a).2.1 ≠ (TJxa66e6 b).2.1 := by decide +kernel
theorem tyJxa66e6_ok : ∀ k, k < 0 → parseFieldDescriptor (TJxa66e6 k).2.2.1 = some (tyJxa66e6 k) := by decide +kernel
def RJ8 : String := "jdk/internal/util/ArraysSupport"
def TJ8 : u_T := fun k => match k with
  | _ => ("", "", "", false)
def tyJ8 : Nat → FieldType := fun k => match k with
  | _ => .int
abbrev wsJ80 : List Cond := u_ws RJ8 TJ8 0
theorem nmJ8 : ∀ a, a < 0 → ∀ b, b < 0 → a ≠ b → (TJ8 a).2.1 ≠ (TJ8 b).2.1 := by decide +kernel
theorem tyJ8_ok : ∀ k, k < 0 → parseFieldDescriptor (TJ8 k).2.2.1 = some (tyJ8 k) := by decide +kernel
abbrev cJ8_newLength_cabcc : ByteArray := prog_32_method_27_code
def yJ8_newLength_cabcc : MethodName := ⟨RJ8, "newLength", "(III)I"⟩
abbrev cJ8_hugeLength_7cf53 : ByteArray := prog_32_method_28_code
def yJ8_hugeLength_7cf53 : MethodName := ⟨RJ8, "hugeLength", "(II)I"⟩
def RJ3 : String := "jdk/internal/util/Preconditions"
def TJ3 : u_T := fun k => match k with
  | _ => ("", "", "", false)
def tyJ3 : Nat → FieldType := fun k => match k with
  | _ => .int
abbrev wsJ30 : List Cond := u_ws RJ3 TJ3 0
theorem nmJ3 : ∀ a, a < 0 → ∀ b, b < 0 → a ≠ b → (TJ3 a).2.1 ≠ (TJ3 b).2.1 := by decide +kernel
theorem tyJ3_ok : ∀ k, k < 0 → parseFieldDescriptor (TJ3 k).2.2.1 = some (tyJ3 k) := by decide +kernel
abbrev cJ3_checkIndex_8e157 : ByteArray := prog_33_method_11_code
def yJ3_checkIndex_8e157 : MethodName := ⟨RJ3, "checkIndex", "(IILjava/util/function/BiFunction;)I"⟩
def RL : String := "DetentionbureauLaw"
abbrev cL_pass : ByteArray := method_3_code
def yL_pass : MethodName := ⟨RL, "pass", "(LDetentionbureau;I[J)I"⟩
abbrev cL_ship : ByteArray := method_4_code
def yL_ship : MethodName := ⟨RL, "ship", "(LDetentionbureau;IIIII[J)I"⟩
abbrev cL_changes : ByteArray := method_5_code
def yL_changes : MethodName := ⟨RL, "changes", "(LDetentionbureau;III[J)I"⟩
abbrev cL_suspend : ByteArray := method_6_code
def yL_suspend : MethodName := ⟨RL, "suspend", "(LDetentionbureau;IZ[J)I"⟩
abbrev cL_rule : ByteArray := method_7_code
def yL_rule : MethodName := ⟨RL, "rule", "(LDetentionbureau;IIIII[J)I"⟩
abbrev cL_issue : ByteArray := method_8_code
def yL_issue : MethodName := ⟨RL, "issue", "(LDetentionbureau;III[J)I"⟩
abbrev cL_endorse : ByteArray := method_9_code
def yL_endorse : MethodName := ⟨RL, "endorse", "(LDetentionbureau;II[J)I"⟩
abbrev cL_calls : ByteArray := method_10_code
def yL_calls : MethodName := ⟨RL, "calls", "(LDetentionbureau;II[J)I"⟩
abbrev cL_leaves : ByteArray := method_11_code
def yL_leaves : MethodName := ⟨RL, "leaves", "(LDetentionbureau;I[J)I"⟩
abbrev cL_visit : ByteArray := method_12_code
def yL_visit : MethodName := ⟨RL, "visit", "(LDetentionbureau;I[J)I"⟩
abbrev cL_finds : ByteArray := method_13_code
def yL_finds : MethodName := ⟨RL, "finds", "(LDetentionbureau;III[J)I"⟩
abbrev cL_mends : ByteArray := method_14_code
def yL_mends : MethodName := ⟨RL, "mends", "(LDetentionbureau;IIZ[J)I"⟩
abbrev cL_detain : ByteArray := method_15_code
def yL_detain : MethodName := ⟨RL, "detain", "(LDetentionbureau;I[J)I"⟩
abbrev cL_release : ByteArray := method_16_code
def yL_release : MethodName := ⟨RL, "release", "(LDetentionbureau;I[J)I"⟩
abbrev cL_appeal : ByteArray := method_17_code
def yL_appeal : MethodName := ⟨RL, "appeal", "(LDetentionbureau;I)I"⟩
abbrev cL_vote : ByteArray := method_18_code
def yL_vote : MethodName := ⟨RL, "vote", "(LDetentionbureau;IZ[J)I"⟩
abbrev cL_ofShip : ByteArray := method_19_code
def yL_ofShip : MethodName := ⟨RL, "ofShip", "(LDetentionbureau;II[J)I"⟩
abbrev cL_pointsAnew : ByteArray := method_20_code
def yL_pointsAnew : MethodName := ⟨RL, "pointsAnew", "(LDetentionbureau;I[J)I"⟩
abbrev cL_isGround : ByteArray := method_21_code
def yL_isGround : MethodName := ⟨RL, "isGround", "(LDetentionbureau;II[J)I"⟩
abbrev cL_ofVisit : ByteArray := method_22_code
def yL_ofVisit : MethodName := ⟨RL, "ofVisit", "(LDetentionbureau;II[J)I"⟩
abbrev cL_list : ByteArray := method_23_code
def yL_list : MethodName := ⟨RL, "list", "(LDetentionbureau;I[J)I"⟩
abbrev cL_missed : ByteArray := method_24_code
def yL_missed : MethodName := ⟨RL, "missed", "(LDetentionbureau;I[J)I"⟩
abbrev cL_knew : ByteArray := method_25_code
def yL_knew : MethodName := ⟨RL, "knew", "(LDetentionbureau;III[J)I"⟩
abbrev cL_law : ByteArray := code
def yL_law : MethodName := ⟨RL, "law", "([I)Z"⟩
theorem inX0 : ∀ w ∈ wsX00, w ∈ lw_tbl := by decide +kernel
theorem inX1 : ∀ w ∈ wsX10, w ∈ lw_tbl := by decide +kernel
theorem inX2 : ∀ w ∈ wsX20, w ∈ lw_tbl := by decide +kernel
theorem inX3 : ∀ w ∈ wsX30, w ∈ lw_tbl := by decide +kernel
theorem inX4 : ∀ w ∈ wsX40, w ∈ lw_tbl := by decide +kernel
theorem inX5 : ∀ w ∈ wsX50, w ∈ lw_tbl := by decide +kernel
theorem inX6 : ∀ w ∈ wsX60, w ∈ lw_tbl := by decide +kernel
theorem inX7 : ∀ w ∈ wsX70, w ∈ lw_tbl := by decide +kernel
theorem inJx145de : ∀ w ∈ wsJx145de0, w ∈ lw_tbl := by decide +kernel
theorem inJx8e188 : ∀ w ∈ wsJx8e1880, w ∈ lw_tbl := by decide +kernel
theorem inJ6 : ∀ w ∈ wsJ60, w ∈ lw_tbl := by decide +kernel
theorem inJxab1ab : ∀ w ∈ wsJxab1ab0, w ∈ lw_tbl := by decide +kernel
theorem inJ9 : ∀ w ∈ wsJ90, w ∈ lw_tbl := by decide +kernel
theorem inJ0 : ∀ w ∈ wsJ00, w ∈ lw_tbl := by decide +kernel
theorem inJ10 : ∀ w ∈ wsJ100, w ∈ lw_tbl := by decide +kernel
theorem inJxa1e45 : ∀ w ∈ wsJxa1e450, w ∈ lw_tbl := by decide +kernel
theorem inJxc12de : ∀ w ∈ wsJxc12de0, w ∈ lw_tbl := by decide +kernel
theorem inJx4a65c : ∀ w ∈ wsJx4a65c0, w ∈ lw_tbl := by decide +kernel
theorem inJ7 : ∀ w ∈ wsJ70, w ∈ lw_tbl := by decide +kernel
theorem inJx5ef63 : ∀ w ∈ wsJx5ef630, w ∈ lw_tbl := by decide +kernel
theorem inJxbd725 : ∀ w ∈ wsJxbd7250, w ∈ lw_tbl := by decide +kernel
theorem inJ15 : ∀ w ∈ wsJ150, w ∈ lw_tbl := by decide +kernel
theorem inJxf0a74 : ∀ w ∈ wsJxf0a740, w ∈ lw_tbl := by decide +kernel
theorem inJxa66e6 : ∀ w ∈ wsJxa66e60, w ∈ lw_tbl := by decide +kernel
theorem inJ8 : ∀ w ∈ wsJ80, w ∈ lw_tbl := by decide +kernel
theorem inJ3 : ∀ w ∈ wsJ30, w ∈ lw_tbl := by decide +kernel
abbrev vwCl : List vw_C := [(RJx4a65c, TJx4a65c, 3), (RX0, TX0, 4), (RX1, TX1, 3), (RX2, TX2, 4), (RX3, TX3, 5), (RX4, TX4, 17), (RX5, TX5, 12), (RX6, TX6, 6), (RX7, TX7, 44)]
end
section
theorem dX0_init_0 : decode cX0_init 0 = .ok (.aload_n 0, 1) := by decide +kernel
theorem dX0_init_1 : decode cX0_init 1 = .ok (.invokespecial 3, 3) := by decide +kernel
theorem dX0_init_4 : decode cX0_init 4 = .ok (.aload_n 0, 1) := by decide +kernel
theorem dX0_init_5 : decode cX0_init 5 = .ok (.iload_n 1, 1) := by decide +kernel
theorem dX0_init_6 : decode cX0_init 6 = .ok (.putfield 9, 3) := by decide +kernel
theorem dX0_init_9 : decode cX0_init 9 = .ok (.aload_n 0, 1) := by decide +kernel
theorem dX0_init_10 : decode cX0_init 10 = .ok (.iload_n 2, 1) := by decide +kernel
theorem dX0_init_11 : decode cX0_init 11 = .ok (.putfield 15, 3) := by decide +kernel
theorem dX0_init_14 : decode cX0_init 14 = .ok (.aload_n 0, 1) := by decide +kernel
theorem dX0_init_15 : decode cX0_init 15 = .ok (.iload_n 3, 1) := by decide +kernel
theorem dX0_init_16 : decode cX0_init 16 = .ok (.putfield 18, 3) := by decide +kernel
theorem dX0_init_19 : decode cX0_init 19 = .ok (.return_, 1) := by decide +kernel
theorem dX0_anniversaries_0 : decode cX0_anniversaries 0 = .ok (.aload_n 0, 1) := by decide +kernel
theorem dX0_anniversaries_1 : decode cX0_anniversaries 1 = .ok (.getfield 18, 3) := by decide +kernel
theorem dX0_anniversaries_4 : decode cX0_anniversaries 4 = .ok (.aload_n 0, 1) := by decide +kernel
theorem dX0_anniversaries_5 : decode cX0_anniversaries 5 = .ok (.getfield 15, 3) := by decide +kernel
theorem dX0_anniversaries_8 : decode cX0_anniversaries 8 = .ok (.isub, 1) := by decide +kernel
theorem dX0_anniversaries_9 : decode cX0_anniversaries 9 = .ok (.iconst 1, 1) := by decide +kernel
theorem dX0_anniversaries_10 : decode cX0_anniversaries 10 = .ok (.isub, 1) := by decide +kernel
theorem dX0_anniversaries_11 : decode cX0_anniversaries 11 = .ok (.sipush 365, 3) := by decide +kernel
theorem dX0_anniversaries_14 : decode cX0_anniversaries 14 = .ok (.idiv, 1) := by decide +kernel
theorem dX0_anniversaries_15 : decode cX0_anniversaries 15 = .ok (.ireturn, 1) := by decide +kernel
theorem dX0_anniversaryDay_0 : decode cX0_anniversaryDay 0 = .ok (.aload_n 0, 1) := by decide +kernel
theorem dX0_anniversaryDay_1 : decode cX0_anniversaryDay 1 = .ok (.getfield 15, 3) := by decide +kernel
theorem dX0_anniversaryDay_4 : decode cX0_anniversaryDay 4 = .ok (.sipush 365, 3) := by decide +kernel
theorem dX0_anniversaryDay_7 : decode cX0_anniversaryDay 7 = .ok (.iload_n 1, 1) := by decide +kernel
theorem dX0_anniversaryDay_8 : decode cX0_anniversaryDay 8 = .ok (.iconst 1, 1) := by decide +kernel
theorem dX0_anniversaryDay_9 : decode cX0_anniversaryDay 9 = .ok (.iadd, 1) := by decide +kernel
theorem dX0_anniversaryDay_10 : decode cX0_anniversaryDay 10 = .ok (.imul, 1) := by decide +kernel
theorem dX0_anniversaryDay_11 : decode cX0_anniversaryDay 11 = .ok (.iadd, 1) := by decide +kernel
theorem dX0_anniversaryDay_12 : decode cX0_anniversaryDay 12 = .ok (.ireturn, 1) := by decide +kernel
theorem dX0_anniversaryToEndorse_0 : decode cX0_anniversaryToEndorse 0 = .ok (.iconst 0, 1) := by decide +kernel
theorem dX0_anniversaryToEndorse_1 : decode cX0_anniversaryToEndorse 1 = .ok (.istore_n 2, 1) := by decide +kernel
theorem dX0_anniversaryToEndorse_2 : decode cX0_anniversaryToEndorse 2 = .ok (.iload_n 2, 1) := by decide +kernel
theorem dX0_anniversaryToEndorse_3 : decode cX0_anniversaryToEndorse 3 = .ok (.aload_n 0, 1) := by decide +kernel
theorem dX0_anniversaryToEndorse_4 : decode cX0_anniversaryToEndorse 4 = .ok (.invokevirtual 21, 3) := by decide +kernel
theorem dX0_anniversaryToEndorse_7 : decode cX0_anniversaryToEndorse 7 = .ok (.if_icmp .ge 37, 3) := by decide +kernel
theorem dX0_anniversaryToEndorse_10 : decode cX0_anniversaryToEndorse 10 = .ok (.iload_n 2, 1) := by decide +kernel
theorem dX0_anniversaryToEndorse_11 : decode cX0_anniversaryToEndorse 11 = .ok (.aload_n 0, 1) := by decide +kernel
theorem dX0_anniversaryToEndorse_12 : decode cX0_anniversaryToEndorse 12 = .ok (.getfield 25, 3) := by decide +kernel
theorem dX0_anniversaryToEndorse_15 : decode cX0_anniversaryToEndorse 15 = .ok (.invokestatic 28, 3) := by decide +kernel
theorem dX0_anniversaryToEndorse_18 : decode cX0_anniversaryToEndorse 18 = .ok (.ifCond .ne 20, 3) := by decide +kernel
theorem dX0_anniversaryToEndorse_21 : decode cX0_anniversaryToEndorse 21 = .ok (.iload_n 1, 1) := by decide +kernel
theorem dX0_anniversaryToEndorse_22 : decode cX0_anniversaryToEndorse 22 = .ok (.aload_n 0, 1) := by decide +kernel
theorem dX0_anniversaryToEndorse_23 : decode cX0_anniversaryToEndorse 23 = .ok (.iload_n 2, 1) := by decide +kernel
theorem dX0_anniversaryToEndorse_24 : decode cX0_anniversaryToEndorse 24 = .ok (.invokevirtual 32, 3) := by decide +kernel
theorem dX0_anniversaryToEndorse_27 : decode cX0_anniversaryToEndorse 27 = .ok (.isub, 1) := by decide +kernel
theorem dX0_anniversaryToEndorse_28 : decode cX0_anniversaryToEndorse 28 = .ok (.invokestatic 36, 3) := by decide +kernel
theorem dX0_anniversaryToEndorse_31 : decode cX0_anniversaryToEndorse 31 = .ok (.bipush 90, 2) := by decide +kernel
theorem dX0_anniversaryToEndorse_33 : decode cX0_anniversaryToEndorse 33 = .ok (.if_icmp .gt 5, 3) := by decide +kernel
theorem dX0_anniversaryToEndorse_36 : decode cX0_anniversaryToEndorse 36 = .ok (.iload_n 2, 1) := by decide +kernel
theorem dX0_anniversaryToEndorse_37 : decode cX0_anniversaryToEndorse 37 = .ok (.ireturn, 1) := by decide +kernel
theorem dX0_anniversaryToEndorse_38 : decode cX0_anniversaryToEndorse 38 = .ok (.iinc 2 1, 3) := by decide +kernel
theorem dX0_anniversaryToEndorse_41 : decode cX0_anniversaryToEndorse 41 = .ok (.goto (-39), 3) := by decide +kernel
theorem dX0_anniversaryToEndorse_44 : decode cX0_anniversaryToEndorse 44 = .ok (.iconst (-1), 1) := by decide +kernel
theorem dX0_anniversaryToEndorse_45 : decode cX0_anniversaryToEndorse 45 = .ok (.ireturn, 1) := by decide +kernel
theorem dX0_hasLapsedByItself_0 : decode cX0_hasLapsedByItself 0 = .ok (.iconst 0, 1) := by decide +kernel
theorem dX0_hasLapsedByItself_1 : decode cX0_hasLapsedByItself 1 = .ok (.istore_n 2, 1) := by decide +kernel
theorem dX0_hasLapsedByItself_2 : decode cX0_hasLapsedByItself 2 = .ok (.iload_n 2, 1) := by decide +kernel
theorem dX0_hasLapsedByItself_3 : decode cX0_hasLapsedByItself 3 = .ok (.aload_n 0, 1) := by decide +kernel
theorem dX0_hasLapsedByItself_4 : decode cX0_hasLapsedByItself 4 = .ok (.invokevirtual 21, 3) := by decide +kernel
theorem dX0_hasLapsedByItself_7 : decode cX0_hasLapsedByItself 7 = .ok (.if_icmp .ge 34, 3) := by decide +kernel
theorem dX0_hasLapsedByItself_10 : decode cX0_hasLapsedByItself 10 = .ok (.iload_n 2, 1) := by decide +kernel
theorem dX0_hasLapsedByItself_11 : decode cX0_hasLapsedByItself 11 = .ok (.aload_n 0, 1) := by decide +kernel
theorem dX0_hasLapsedByItself_12 : decode cX0_hasLapsedByItself 12 = .ok (.getfield 25, 3) := by decide +kernel
theorem dX0_hasLapsedByItself_15 : decode cX0_hasLapsedByItself 15 = .ok (.invokestatic 28, 3) := by decide +kernel
theorem dX0_hasLapsedByItself_18 : decode cX0_hasLapsedByItself 18 = .ok (.ifCond .ne 17, 3) := by decide +kernel
theorem dX0_hasLapsedByItself_21 : decode cX0_hasLapsedByItself 21 = .ok (.iload_n 1, 1) := by decide +kernel
theorem dX0_hasLapsedByItself_22 : decode cX0_hasLapsedByItself 22 = .ok (.aload_n 0, 1) := by decide +kernel
theorem dX0_hasLapsedByItself_23 : decode cX0_hasLapsedByItself 23 = .ok (.iload_n 2, 1) := by decide +kernel
theorem dX0_hasLapsedByItself_24 : decode cX0_hasLapsedByItself 24 = .ok (.invokevirtual 32, 3) := by decide +kernel
theorem dX0_hasLapsedByItself_27 : decode cX0_hasLapsedByItself 27 = .ok (.bipush 90, 2) := by decide +kernel
theorem dX0_hasLapsedByItself_29 : decode cX0_hasLapsedByItself 29 = .ok (.iadd, 1) := by decide +kernel
theorem dX0_hasLapsedByItself_30 : decode cX0_hasLapsedByItself 30 = .ok (.if_icmp .le 5, 3) := by decide +kernel
theorem dX0_hasLapsedByItself_33 : decode cX0_hasLapsedByItself 33 = .ok (.iconst 1, 1) := by decide +kernel
theorem dX0_hasLapsedByItself_34 : decode cX0_hasLapsedByItself 34 = .ok (.ireturn, 1) := by decide +kernel
theorem dX0_hasLapsedByItself_35 : decode cX0_hasLapsedByItself 35 = .ok (.iinc 2 1, 3) := by decide +kernel
theorem dX0_hasLapsedByItself_38 : decode cX0_hasLapsedByItself 38 = .ok (.goto (-36), 3) := by decide +kernel
theorem dX0_hasLapsedByItself_41 : decode cX0_hasLapsedByItself 41 = .ok (.iload_n 1, 1) := by decide +kernel
theorem dX0_hasLapsedByItself_42 : decode cX0_hasLapsedByItself 42 = .ok (.aload_n 0, 1) := by decide +kernel
theorem dX0_hasLapsedByItself_43 : decode cX0_hasLapsedByItself 43 = .ok (.getfield 18, 3) := by decide +kernel
theorem dX0_hasLapsedByItself_46 : decode cX0_hasLapsedByItself 46 = .ok (.if_icmp .le 7, 3) := by decide +kernel
theorem dX0_hasLapsedByItself_49 : decode cX0_hasLapsedByItself 49 = .ok (.iconst 1, 1) := by decide +kernel
theorem dX0_hasLapsedByItself_50 : decode cX0_hasLapsedByItself 50 = .ok (.goto 4, 3) := by decide +kernel
theorem dX0_hasLapsedByItself_53 : decode cX0_hasLapsedByItself 53 = .ok (.iconst 0, 1) := by decide +kernel
theorem dX0_hasLapsedByItself_54 : decode cX0_hasLapsedByItself 54 = .ok (.ireturn, 1) := by decide +kernel
theorem dX1_init_0 : decode cX1_init 0 = .ok (.aload_n 0, 1) := by decide +kernel
theorem dX1_init_1 : decode cX1_init 1 = .ok (.invokespecial 1, 3) := by decide +kernel
theorem dX1_init_4 : decode cX1_init 4 = .ok (.aload_n 0, 1) := by decide +kernel
theorem dX1_init_5 : decode cX1_init 5 = .ok (.iload_n 1, 1) := by decide +kernel
theorem dX1_init_6 : decode cX1_init 6 = .ok (.putfield 7, 3) := by decide +kernel
theorem dX1_init_9 : decode cX1_init 9 = .ok (.return_, 1) := by decide +kernel
theorem dX1_isOpen_0 : decode cX1_isOpen 0 = .ok (.aload_n 0, 1) := by decide +kernel
theorem dX1_isOpen_1 : decode cX1_isOpen 1 = .ok (.getfield 13, 3) := by decide +kernel
theorem dX1_isOpen_4 : decode cX1_isOpen 4 = .ok (.ifCond .ne 14, 3) := by decide +kernel
theorem dX1_isOpen_7 : decode cX1_isOpen 7 = .ok (.aload_n 0, 1) := by decide +kernel
theorem dX1_isOpen_8 : decode cX1_isOpen 8 = .ok (.getfield 17, 3) := by decide +kernel
theorem dX1_isOpen_11 : decode cX1_isOpen 11 = .ok (.ifCond .ne 7, 3) := by decide +kernel
theorem dX1_isOpen_14 : decode cX1_isOpen 14 = .ok (.iconst 1, 1) := by decide +kernel
theorem dX1_isOpen_15 : decode cX1_isOpen 15 = .ok (.goto 4, 3) := by decide +kernel
theorem dX1_isOpen_18 : decode cX1_isOpen 18 = .ok (.iconst 0, 1) := by decide +kernel
theorem dX1_isOpen_19 : decode cX1_isOpen 19 = .ok (.ireturn, 1) := by decide +kernel
theorem dX2_init_0 : decode cX2_init 0 = .ok (.aload_n 0, 1) := by decide +kernel
theorem dX2_init_1 : decode cX2_init 1 = .ok (.invokespecial 1, 3) := by decide +kernel
theorem dX2_init_4 : decode cX2_init 4 = .ok (.aload_n 0, 1) := by decide +kernel
theorem dX2_init_5 : decode cX2_init 5 = .ok (.iload_n 1, 1) := by decide +kernel
theorem dX2_init_6 : decode cX2_init 6 = .ok (.putfield 7, 3) := by decide +kernel
theorem dX2_init_9 : decode cX2_init 9 = .ok (.aload_n 0, 1) := by decide +kernel
theorem dX2_init_10 : decode cX2_init 10 = .ok (.iload_n 2, 1) := by decide +kernel
theorem dX2_init_11 : decode cX2_init 11 = .ok (.putfield 13, 3) := by decide +kernel
theorem dX2_init_14 : decode cX2_init 14 = .ok (.aload_n 0, 1) := by decide +kernel
theorem dX2_init_15 : decode cX2_init 15 = .ok (.iload_n 3, 1) := by decide +kernel
theorem dX2_init_16 : decode cX2_init 16 = .ok (.putfield 16, 3) := by decide +kernel
theorem dX2_init_19 : decode cX2_init 19 = .ok (.aload_n 0, 1) := by decide +kernel
theorem dX2_init_20 : decode cX2_init 20 = .ok (.iload 4, 2) := by decide +kernel
theorem dX2_init_22 : decode cX2_init 22 = .ok (.putfield 19, 3) := by decide +kernel
theorem dX2_init_25 : decode cX2_init 25 = .ok (.return_, 1) := by decide +kernel
theorem dX3_init_0 : decode cX3_init 0 = .ok (.aload_n 0, 1) := by decide +kernel
theorem dX3_init_1 : decode cX3_init 1 = .ok (.invokespecial 1, 3) := by decide +kernel
theorem dX3_init_4 : decode cX3_init 4 = .ok (.aload_n 0, 1) := by decide +kernel
theorem dX3_init_5 : decode cX3_init 5 = .ok (.iload_n 1, 1) := by decide +kernel
theorem dX3_init_6 : decode cX3_init 6 = .ok (.putfield 7, 3) := by decide +kernel
theorem dX3_init_9 : decode cX3_init 9 = .ok (.aload_n 0, 1) := by decide +kernel
theorem dX3_init_10 : decode cX3_init 10 = .ok (.iload_n 2, 1) := by decide +kernel
theorem dX3_init_11 : decode cX3_init 11 = .ok (.putfield 13, 3) := by decide +kernel
theorem dX3_init_14 : decode cX3_init 14 = .ok (.aload_n 0, 1) := by decide +kernel
theorem dX3_init_15 : decode cX3_init 15 = .ok (.iload_n 3, 1) := by decide +kernel
theorem dX3_init_16 : decode cX3_init 16 = .ok (.putfield 16, 3) := by decide +kernel
theorem dX3_init_19 : decode cX3_init 19 = .ok (.aload_n 0, 1) := by decide +kernel
theorem dX3_init_20 : decode cX3_init 20 = .ok (.iload 4, 2) := by decide +kernel
theorem dX3_init_22 : decode cX3_init 22 = .ok (.putfield 19, 3) := by decide +kernel
theorem dX3_init_25 : decode cX3_init 25 = .ok (.aload_n 0, 1) := by decide +kernel
theorem dX3_init_26 : decode cX3_init 26 = .ok (.iload 5, 2) := by decide +kernel
theorem dX3_init_28 : decode cX3_init 28 = .ok (.putfield 22, 3) := by decide +kernel
theorem dX3_init_31 : decode cX3_init 31 = .ok (.return_, 1) := by decide +kernel
theorem dX3_isInForce_0 : decode cX3_isInForce 0 = .ok (.aload_n 1, 1) := by decide +kernel
theorem dX3_isInForce_1 : decode cX3_isInForce 1 = .ok (.getfield 25, 3) := by decide +kernel
theorem dX3_isInForce_4 : decode cX3_isInForce 4 = .ok (.aload_n 0, 1) := by decide +kernel
theorem dX3_isInForce_5 : decode cX3_isInForce 5 = .ok (.getfield 19, 3) := by decide +kernel
theorem dX3_isInForce_8 : decode cX3_isInForce 8 = .ok (.if_icmp .ge 15, 3) := by decide +kernel
theorem dX3_isInForce_11 : decode cX3_isInForce 11 = .ok (.aload_n 0, 1) := by decide +kernel
theorem dX3_isInForce_12 : decode cX3_isInForce 12 = .ok (.getfield 19, 3) := by decide +kernel
theorem dX3_isInForce_15 : decode cX3_isInForce 15 = .ok (.aload_n 0, 1) := by decide +kernel
theorem dX3_isInForce_16 : decode cX3_isInForce 16 = .ok (.getfield 22, 3) := by decide +kernel
theorem dX3_isInForce_19 : decode cX3_isInForce 19 = .ok (.iadd, 1) := by decide +kernel
theorem dX3_isInForce_20 : decode cX3_isInForce 20 = .ok (.goto 7, 3) := by decide +kernel
theorem dX3_isInForce_23 : decode cX3_isInForce 23 = .ok (.aload_n 0, 1) := by decide +kernel
theorem dX3_isInForce_24 : decode cX3_isInForce 24 = .ok (.getfield 19, 3) := by decide +kernel
theorem dX3_isInForce_27 : decode cX3_isInForce 27 = .ok (.istore_n 3, 1) := by decide +kernel
theorem dX3_isInForce_28 : decode cX3_isInForce 28 = .ok (.aload_n 1, 1) := by decide +kernel
theorem dX3_isInForce_29 : decode cX3_isInForce 29 = .ok (.getfield 30, 3) := by decide +kernel
theorem dX3_isInForce_32 : decode cX3_isInForce 32 = .ok (.aload_n 0, 1) := by decide +kernel
theorem dX3_isInForce_33 : decode cX3_isInForce 33 = .ok (.getfield 13, 3) := by decide +kernel
theorem dX3_isInForce_36 : decode cX3_isInForce 36 = .ok (.if_icmp .lt 26, 3) := by decide +kernel
theorem dX3_isInForce_39 : decode cX3_isInForce 39 = .ok (.aload_n 1, 1) := by decide +kernel
theorem dX3_isInForce_40 : decode cX3_isInForce 40 = .ok (.getfield 31, 3) := by decide +kernel
theorem dX3_isInForce_43 : decode cX3_isInForce 43 = .ok (.aload_n 0, 1) := by decide +kernel
theorem dX3_isInForce_44 : decode cX3_isInForce 44 = .ok (.getfield 16, 3) := by decide +kernel
theorem dX3_isInForce_47 : decode cX3_isInForce 47 = .ok (.invokestatic 34, 3) := by decide +kernel
theorem dX3_isInForce_50 : decode cX3_isInForce 50 = .ok (.ifCond .eq 12, 3) := by decide +kernel
theorem dX3_isInForce_53 : decode cX3_isInForce 53 = .ok (.iload_n 2, 1) := by decide +kernel
theorem dX3_isInForce_54 : decode cX3_isInForce 54 = .ok (.iload_n 3, 1) := by decide +kernel
theorem dX3_isInForce_55 : decode cX3_isInForce 55 = .ok (.if_icmp .lt 7, 3) := by decide +kernel
theorem dX3_isInForce_58 : decode cX3_isInForce 58 = .ok (.iconst 1, 1) := by decide +kernel
theorem dX3_isInForce_59 : decode cX3_isInForce 59 = .ok (.goto 4, 3) := by decide +kernel
theorem dX3_isInForce_62 : decode cX3_isInForce 62 = .ok (.iconst 0, 1) := by decide +kernel
theorem dX3_isInForce_63 : decode cX3_isInForce 63 = .ok (.ireturn, 1) := by decide +kernel
theorem dX4_init_0 : decode cX4_init 0 = .ok (.aload_n 0, 1) := by decide +kernel
theorem dX4_init_1 : decode cX4_init 1 = .ok (.invokespecial 3, 3) := by decide +kernel
theorem dX4_init_4 : decode cX4_init 4 = .ok (.aload_n 0, 1) := by decide +kernel
theorem dX4_init_5 : decode cX4_init 5 = .ok (.iload_n 1, 1) := by decide +kernel
theorem dX4_init_6 : decode cX4_init 6 = .ok (.putfield 9, 3) := by decide +kernel
theorem dX4_init_9 : decode cX4_init 9 = .ok (.aload_n 0, 1) := by decide +kernel
theorem dX4_init_10 : decode cX4_init 10 = .ok (.iload_n 2, 1) := by decide +kernel
theorem dX4_init_11 : decode cX4_init 11 = .ok (.putfield 15, 3) := by decide +kernel
theorem dX4_init_14 : decode cX4_init 14 = .ok (.aload_n 0, 1) := by decide +kernel
theorem dX4_init_15 : decode cX4_init 15 = .ok (.iload_n 3, 1) := by decide +kernel
theorem dX4_init_16 : decode cX4_init 16 = .ok (.putfield 18, 3) := by decide +kernel
theorem dX4_init_19 : decode cX4_init 19 = .ok (.aload_n 0, 1) := by decide +kernel
theorem dX4_init_20 : decode cX4_init 20 = .ok (.iload 4, 2) := by decide +kernel
theorem dX4_init_22 : decode cX4_init 22 = .ok (.putfield 21, 3) := by decide +kernel
theorem dX4_init_25 : decode cX4_init 25 = .ok (.aload_n 0, 1) := by decide +kernel
theorem dX4_init_26 : decode cX4_init 26 = .ok (.iload 5, 2) := by decide +kernel
theorem dX4_init_28 : decode cX4_init 28 = .ok (.putfield 24, 3) := by decide +kernel
theorem dX4_init_31 : decode cX4_init 31 = .ok (.aload_n 0, 1) := by decide +kernel
theorem dX4_init_32 : decode cX4_init 32 = .ok (.iload 6, 2) := by decide +kernel
theorem dX4_init_34 : decode cX4_init 34 = .ok (.putfield 27, 3) := by decide +kernel
theorem dX4_init_37 : decode cX4_init 37 = .ok (.aload_n 0, 1) := by decide +kernel
theorem dX4_init_38 : decode cX4_init 38 = .ok (.iconst 5, 1) := by decide +kernel
theorem dX4_init_39 : decode cX4_init 39 = .ok (.anewarray 30, 3) := by decide +kernel
theorem dX4_init_42 : decode cX4_init 42 = .ok (.putfield 32, 3) := by decide +kernel
theorem dX4_init_45 : decode cX4_init 45 = .ok (.aload_n 0, 1) := by decide +kernel
theorem dX4_init_46 : decode cX4_init 46 = .ok (.new 36, 3) := by decide +kernel
theorem dX4_init_49 : decode cX4_init 49 = .ok (.dup, 1) := by decide +kernel
theorem dX4_init_50 : decode cX4_init 50 = .ok (.invokespecial 38, 3) := by decide +kernel
theorem dX4_init_53 : decode cX4_init 53 = .ok (.putfield 39, 3) := by decide +kernel
theorem dX4_init_56 : decode cX4_init 56 = .ok (.aload_n 0, 1) := by decide +kernel
theorem dX4_init_57 : decode cX4_init 57 = .ok (.iconst (-1), 1) := by decide +kernel
theorem dX4_init_58 : decode cX4_init 58 = .ok (.putfield 43, 3) := by decide +kernel
theorem dX4_init_61 : decode cX4_init 61 = .ok (.aload_n 0, 1) := by decide +kernel
theorem dX4_init_62 : decode cX4_init 62 = .ok (.iconst (-1), 1) := by decide +kernel
theorem dX4_init_63 : decode cX4_init 63 = .ok (.putfield 46, 3) := by decide +kernel
theorem dX4_init_66 : decode cX4_init 66 = .ok (.return_, 1) := by decide +kernel
theorem dX4_note_0 : decode cX4_note 0 = .ok (.aload_n 0, 1) := by decide +kernel
theorem dX4_note_1 : decode cX4_note 1 = .ok (.getfield 39, 3) := by decide +kernel
theorem dX4_note_4 : decode cX4_note 4 = .ok (.invokevirtual 49, 3) := by decide +kernel
theorem dX4_note_7 : decode cX4_note 7 = .ok (.sipush 514, 3) := by decide +kernel
theorem dX4_note_10 : decode cX4_note 10 = .ok (.if_icmp .ge 23, 3) := by decide +kernel
theorem dX4_note_13 : decode cX4_note 13 = .ok (.aload_n 0, 1) := by decide +kernel
theorem dX4_note_14 : decode cX4_note 14 = .ok (.getfield 39, 3) := by decide +kernel
theorem dX4_note_17 : decode cX4_note 17 = .ok (.new 52, 3) := by decide +kernel
theorem dX4_note_20 : decode cX4_note 20 = .ok (.dup, 1) := by decide +kernel
theorem dX4_note_21 : decode cX4_note 21 = .ok (.iload_n 1, 1) := by decide +kernel
theorem dX4_note_22 : decode cX4_note 22 = .ok (.iload_n 2, 1) := by decide +kernel
theorem dX4_note_23 : decode cX4_note 23 = .ok (.iload_n 3, 1) := by decide +kernel
theorem dX4_note_24 : decode cX4_note 24 = .ok (.iload 4, 2) := by decide +kernel
theorem dX4_note_26 : decode cX4_note 26 = .ok (.invokespecial 54, 3) := by decide +kernel
theorem dX4_note_29 : decode cX4_note 29 = .ok (.invokevirtual 57, 3) := by decide +kernel
theorem dX4_note_32 : decode cX4_note 32 = .ok (.pop, 1) := by decide +kernel
theorem dX4_note_33 : decode cX4_note 33 = .ok (.return_, 1) := by decide +kernel
theorem dX5_init_0 : decode cX5_init 0 = .ok (.aload_n 0, 1) := by decide +kernel
theorem dX5_init_1 : decode cX5_init 1 = .ok (.invokespecial 3, 3) := by decide +kernel
theorem dX5_init_4 : decode cX5_init 4 = .ok (.aload_n 0, 1) := by decide +kernel
theorem dX5_init_5 : decode cX5_init 5 = .ok (.aload_n 1, 1) := by decide +kernel
theorem dX5_init_6 : decode cX5_init 6 = .ok (.putfield 9, 3) := by decide +kernel
theorem dX5_init_9 : decode cX5_init 9 = .ok (.aload_n 0, 1) := by decide +kernel
theorem dX5_init_10 : decode cX5_init 10 = .ok (.iload_n 2, 1) := by decide +kernel
theorem dX5_init_11 : decode cX5_init 11 = .ok (.putfield 15, 3) := by decide +kernel
theorem dX5_init_14 : decode cX5_init 14 = .ok (.aload_n 0, 1) := by decide +kernel
theorem dX5_init_15 : decode cX5_init 15 = .ok (.aload_n 1, 1) := by decide +kernel
theorem dX5_init_16 : decode cX5_init 16 = .ok (.getfield 19, 3) := by decide +kernel
theorem dX5_init_19 : decode cX5_init 19 = .ok (.putfield 24, 3) := by decide +kernel
theorem dX5_init_22 : decode cX5_init 22 = .ok (.aload_n 0, 1) := by decide +kernel
theorem dX5_init_23 : decode cX5_init 23 = .ok (.iload_n 3, 1) := by decide +kernel
theorem dX5_init_24 : decode cX5_init 24 = .ok (.putfield 25, 3) := by decide +kernel
theorem dX5_init_27 : decode cX5_init 27 = .ok (.aload_n 0, 1) := by decide +kernel
theorem dX5_init_28 : decode cX5_init 28 = .ok (.aload_n 1, 1) := by decide +kernel
theorem dX5_init_29 : decode cX5_init 29 = .ok (.getfield 28, 3) := by decide +kernel
theorem dX5_init_32 : decode cX5_init 32 = .ok (.putfield 31, 3) := by decide +kernel
theorem dX5_init_35 : decode cX5_init 35 = .ok (.aload_n 0, 1) := by decide +kernel
theorem dX5_init_36 : decode cX5_init 36 = .ok (.iload 4, 2) := by decide +kernel
theorem dX5_init_38 : decode cX5_init 38 = .ok (.putfield 32, 3) := by decide +kernel
theorem dX5_init_41 : decode cX5_init 41 = .ok (.aload_n 0, 1) := by decide +kernel
theorem dX5_init_42 : decode cX5_init 42 = .ok (.new 35, 3) := by decide +kernel
theorem dX5_init_45 : decode cX5_init 45 = .ok (.dup, 1) := by decide +kernel
theorem dX5_init_46 : decode cX5_init 46 = .ok (.invokespecial 37, 3) := by decide +kernel
theorem dX5_init_49 : decode cX5_init 49 = .ok (.putfield 38, 3) := by decide +kernel
theorem dX5_init_52 : decode cX5_init 52 = .ok (.aload_n 0, 1) := by decide +kernel
theorem dX5_init_53 : decode cX5_init 53 = .ok (.iconst (-1), 1) := by decide +kernel
theorem dX5_init_54 : decode cX5_init 54 = .ok (.putfield 42, 3) := by decide +kernel
theorem dX5_init_57 : decode cX5_init 57 = .ok (.return_, 1) := by decide +kernel
theorem dX5_openFindings_0 : decode cX5_openFindings 0 = .ok (.iconst 0, 1) := by decide +kernel
theorem dX5_openFindings_1 : decode cX5_openFindings 1 = .ok (.istore_n 1, 1) := by decide +kernel
theorem dX5_openFindings_2 : decode cX5_openFindings 2 = .ok (.iconst 0, 1) := by decide +kernel
theorem dX5_openFindings_3 : decode cX5_openFindings 3 = .ok (.istore_n 2, 1) := by decide +kernel
theorem dX5_openFindings_4 : decode cX5_openFindings 4 = .ok (.iload_n 2, 1) := by decide +kernel
theorem dX5_openFindings_5 : decode cX5_openFindings 5 = .ok (.aload_n 0, 1) := by decide +kernel
theorem dX5_openFindings_6 : decode cX5_openFindings 6 = .ok (.getfield 38, 3) := by decide +kernel
theorem dX5_openFindings_9 : decode cX5_openFindings 9 = .ok (.invokevirtual 45, 3) := by decide +kernel
theorem dX5_openFindings_12 : decode cX5_openFindings 12 = .ok (.if_icmp .ge 34, 3) := by decide +kernel
theorem dX5_openFindings_15 : decode cX5_openFindings 15 = .ok (.iload_n 1, 1) := by decide +kernel
theorem dX5_openFindings_16 : decode cX5_openFindings 16 = .ok (.aload_n 0, 1) := by decide +kernel
theorem dX5_openFindings_17 : decode cX5_openFindings 17 = .ok (.getfield 38, 3) := by decide +kernel
theorem dX5_openFindings_20 : decode cX5_openFindings 20 = .ok (.iload_n 2, 1) := by decide +kernel
theorem dX5_openFindings_21 : decode cX5_openFindings 21 = .ok (.invokevirtual 49, 3) := by decide +kernel
theorem dX5_openFindings_24 : decode cX5_openFindings 24 = .ok (.checkcast 53, 3) := by decide +kernel
theorem dX5_openFindings_27 : decode cX5_openFindings 27 = .ok (.invokevirtual 55, 3) := by decide +kernel
theorem dX5_openFindings_30 : decode cX5_openFindings 30 = .ok (.ifCond .eq 7, 3) := by decide +kernel
theorem dX5_openFindings_33 : decode cX5_openFindings 33 = .ok (.iconst 1, 1) := by decide +kernel
theorem dX5_openFindings_34 : decode cX5_openFindings 34 = .ok (.goto 4, 3) := by decide +kernel
theorem dX5_openFindings_37 : decode cX5_openFindings 37 = .ok (.iconst 0, 1) := by decide +kernel
theorem dX5_openFindings_38 : decode cX5_openFindings 38 = .ok (.iadd, 1) := by decide +kernel
theorem dX5_openFindings_39 : decode cX5_openFindings 39 = .ok (.istore_n 1, 1) := by decide +kernel
theorem dX5_openFindings_40 : decode cX5_openFindings 40 = .ok (.iinc 2 1, 3) := by decide +kernel
theorem dX5_openFindings_43 : decode cX5_openFindings 43 = .ok (.goto (-39), 3) := by decide +kernel
theorem dX5_openFindings_46 : decode cX5_openFindings 46 = .ok (.iload_n 1, 1) := by decide +kernel
theorem dX5_openFindings_47 : decode cX5_openFindings 47 = .ok (.ireturn, 1) := by decide +kernel
theorem dX5_openWeight_0 : decode cX5_openWeight 0 = .ok (.iconst 0, 1) := by decide +kernel
theorem dX5_openWeight_1 : decode cX5_openWeight 1 = .ok (.istore_n 1, 1) := by decide +kernel
theorem dX5_openWeight_2 : decode cX5_openWeight 2 = .ok (.iconst 0, 1) := by decide +kernel
theorem dX5_openWeight_3 : decode cX5_openWeight 3 = .ok (.istore_n 2, 1) := by decide +kernel
theorem dX5_openWeight_4 : decode cX5_openWeight 4 = .ok (.iload_n 2, 1) := by decide +kernel
theorem dX5_openWeight_5 : decode cX5_openWeight 5 = .ok (.aload_n 0, 1) := by decide +kernel
theorem dX5_openWeight_6 : decode cX5_openWeight 6 = .ok (.getfield 38, 3) := by decide +kernel
theorem dX5_openWeight_9 : decode cX5_openWeight 9 = .ok (.invokevirtual 45, 3) := by decide +kernel
theorem dX5_openWeight_12 : decode cX5_openWeight 12 = .ok (.if_icmp .ge 39, 3) := by decide +kernel
theorem dX5_openWeight_15 : decode cX5_openWeight 15 = .ok (.aload_n 0, 1) := by decide +kernel
theorem dX5_openWeight_16 : decode cX5_openWeight 16 = .ok (.getfield 38, 3) := by decide +kernel
theorem dX5_openWeight_19 : decode cX5_openWeight 19 = .ok (.iload_n 2, 1) := by decide +kernel
theorem dX5_openWeight_20 : decode cX5_openWeight 20 = .ok (.invokevirtual 49, 3) := by decide +kernel
theorem dX5_openWeight_23 : decode cX5_openWeight 23 = .ok (.checkcast 53, 3) := by decide +kernel
theorem dX5_openWeight_26 : decode cX5_openWeight 26 = .ok (.astore_n 3, 1) := by decide +kernel
theorem dX5_openWeight_27 : decode cX5_openWeight 27 = .ok (.iload_n 1, 1) := by decide +kernel
theorem dX5_openWeight_28 : decode cX5_openWeight 28 = .ok (.aload_n 3, 1) := by decide +kernel
theorem dX5_openWeight_29 : decode cX5_openWeight 29 = .ok (.invokevirtual 55, 3) := by decide +kernel
theorem dX5_openWeight_32 : decode cX5_openWeight 32 = .ok (.ifCond .eq 10, 3) := by decide +kernel
theorem dX5_openWeight_35 : decode cX5_openWeight 35 = .ok (.aload_n 3, 1) := by decide +kernel
theorem dX5_openWeight_36 : decode cX5_openWeight 36 = .ok (.getfield 59, 3) := by decide +kernel
theorem dX5_openWeight_39 : decode cX5_openWeight 39 = .ok (.goto 4, 3) := by decide +kernel
theorem dX5_openWeight_42 : decode cX5_openWeight 42 = .ok (.iconst 0, 1) := by decide +kernel
theorem dX5_openWeight_43 : decode cX5_openWeight 43 = .ok (.iadd, 1) := by decide +kernel
theorem dX5_openWeight_44 : decode cX5_openWeight 44 = .ok (.istore_n 1, 1) := by decide +kernel
theorem dX5_openWeight_45 : decode cX5_openWeight 45 = .ok (.iinc 2 1, 3) := by decide +kernel
theorem dX5_openWeight_48 : decode cX5_openWeight 48 = .ok (.goto (-44), 3) := by decide +kernel
theorem dX5_openWeight_51 : decode cX5_openWeight 51 = .ok (.iload_n 1, 1) := by decide +kernel
theorem dX5_openWeight_52 : decode cX5_openWeight 52 = .ok (.ireturn, 1) := by decide +kernel
theorem dX5_hasPutOffUnmended_0 : decode cX5_hasPutOffUnmended 0 = .ok (.iconst 0, 1) := by decide +kernel
theorem dX5_hasPutOffUnmended_1 : decode cX5_hasPutOffUnmended 1 = .ok (.istore_n 1, 1) := by decide +kernel
theorem dX5_hasPutOffUnmended_2 : decode cX5_hasPutOffUnmended 2 = .ok (.iload_n 1, 1) := by decide +kernel
theorem dX5_hasPutOffUnmended_3 : decode cX5_hasPutOffUnmended 3 = .ok (.aload_n 0, 1) := by decide +kernel
theorem dX5_hasPutOffUnmended_4 : decode cX5_hasPutOffUnmended 4 = .ok (.getfield 38, 3) := by decide +kernel
theorem dX5_hasPutOffUnmended_7 : decode cX5_hasPutOffUnmended 7 = .ok (.invokevirtual 45, 3) := by decide +kernel
theorem dX5_hasPutOffUnmended_10 : decode cX5_hasPutOffUnmended 10 = .ok (.if_icmp .ge 37, 3) := by decide +kernel
theorem dX5_hasPutOffUnmended_13 : decode cX5_hasPutOffUnmended 13 = .ok (.aload_n 0, 1) := by decide +kernel
theorem dX5_hasPutOffUnmended_14 : decode cX5_hasPutOffUnmended 14 = .ok (.getfield 38, 3) := by decide +kernel
theorem dX5_hasPutOffUnmended_17 : decode cX5_hasPutOffUnmended 17 = .ok (.iload_n 1, 1) := by decide +kernel
theorem dX5_hasPutOffUnmended_18 : decode cX5_hasPutOffUnmended 18 = .ok (.invokevirtual 49, 3) := by decide +kernel
theorem dX5_hasPutOffUnmended_21 : decode cX5_hasPutOffUnmended 21 = .ok (.checkcast 53, 3) := by decide +kernel
theorem dX5_hasPutOffUnmended_24 : decode cX5_hasPutOffUnmended 24 = .ok (.astore_n 2, 1) := by decide +kernel
theorem dX5_hasPutOffUnmended_25 : decode cX5_hasPutOffUnmended 25 = .ok (.aload_n 2, 1) := by decide +kernel
theorem dX5_hasPutOffUnmended_26 : decode cX5_hasPutOffUnmended 26 = .ok (.getfield 62, 3) := by decide +kernel
theorem dX5_hasPutOffUnmended_29 : decode cX5_hasPutOffUnmended 29 = .ok (.ifCond .eq 12, 3) := by decide +kernel
theorem dX5_hasPutOffUnmended_32 : decode cX5_hasPutOffUnmended 32 = .ok (.aload_n 2, 1) := by decide +kernel
theorem dX5_hasPutOffUnmended_33 : decode cX5_hasPutOffUnmended 33 = .ok (.getfield 66, 3) := by decide +kernel
theorem dX5_hasPutOffUnmended_36 : decode cX5_hasPutOffUnmended 36 = .ok (.ifCond .ne 5, 3) := by decide +kernel
theorem dX5_hasPutOffUnmended_39 : decode cX5_hasPutOffUnmended 39 = .ok (.iconst 1, 1) := by decide +kernel
theorem dX5_hasPutOffUnmended_40 : decode cX5_hasPutOffUnmended 40 = .ok (.ireturn, 1) := by decide +kernel
theorem dX5_hasPutOffUnmended_41 : decode cX5_hasPutOffUnmended 41 = .ok (.iinc 1 1, 3) := by decide +kernel
theorem dX5_hasPutOffUnmended_44 : decode cX5_hasPutOffUnmended 44 = .ok (.goto (-42), 3) := by decide +kernel
theorem dX5_hasPutOffUnmended_47 : decode cX5_hasPutOffUnmended 47 = .ok (.iconst 0, 1) := by decide +kernel
theorem dX5_hasPutOffUnmended_48 : decode cX5_hasPutOffUnmended 48 = .ok (.ireturn, 1) := by decide +kernel
theorem dX5_wasDetention_0 : decode cX5_wasDetention 0 = .ok (.aload_n 0, 1) := by decide +kernel
theorem dX5_wasDetention_1 : decode cX5_wasDetention 1 = .ok (.getfield 42, 3) := by decide +kernel
theorem dX5_wasDetention_4 : decode cX5_wasDetention 4 = .ok (.iconst (-1), 1) := by decide +kernel
theorem dX5_wasDetention_5 : decode cX5_wasDetention 5 = .ok (.if_icmp .eq 7, 3) := by decide +kernel
theorem dX5_wasDetention_8 : decode cX5_wasDetention 8 = .ok (.iconst 1, 1) := by decide +kernel
theorem dX5_wasDetention_9 : decode cX5_wasDetention 9 = .ok (.goto 4, 3) := by decide +kernel
theorem dX5_wasDetention_12 : decode cX5_wasDetention 12 = .ok (.iconst 0, 1) := by decide +kernel
theorem dX5_wasDetention_13 : decode cX5_wasDetention 13 = .ok (.ireturn, 1) := by decide +kernel
theorem dX5_decision_0 : decode cX5_decision 0 = .ok (.aload_n 0, 1) := by decide +kernel
theorem dX5_decision_1 : decode cX5_decision 1 = .ok (.getfield 69, 3) := by decide +kernel
theorem dX5_decision_4 : decode cX5_decision 4 = .ok (.iconst 2, 1) := by decide +kernel
theorem dX5_decision_5 : decode cX5_decision 5 = .ok (.if_icmp .lt 7, 3) := by decide +kernel
theorem dX5_decision_8 : decode cX5_decision 8 = .ok (.iconst 1, 1) := by decide +kernel
theorem dX5_decision_9 : decode cX5_decision 9 = .ok (.goto 16, 3) := by decide +kernel
theorem dX5_decision_12 : decode cX5_decision 12 = .ok (.aload_n 0, 1) := by decide +kernel
theorem dX5_decision_13 : decode cX5_decision 13 = .ok (.getfield 72, 3) := by decide +kernel
theorem dX5_decision_16 : decode cX5_decision 16 = .ok (.iconst 2, 1) := by decide +kernel
theorem dX5_decision_17 : decode cX5_decision 17 = .ok (.if_icmp .lt 7, 3) := by decide +kernel
theorem dX5_decision_20 : decode cX5_decision 20 = .ok (.iconst 2, 1) := by decide +kernel
theorem dX5_decision_21 : decode cX5_decision 21 = .ok (.goto 4, 3) := by decide +kernel
theorem dX5_decision_24 : decode cX5_decision 24 = .ok (.iconst 0, 1) := by decide +kernel
theorem dX5_decision_25 : decode cX5_decision 25 = .ok (.ireturn, 1) := by decide +kernel
theorem dX5_counts_0 : decode cX5_counts 0 = .ok (.aload_n 0, 1) := by decide +kernel
theorem dX5_counts_1 : decode cX5_counts 1 = .ok (.getfield 42, 3) := by decide +kernel
theorem dX5_counts_4 : decode cX5_counts 4 = .ok (.iconst (-1), 1) := by decide +kernel
theorem dX5_counts_5 : decode cX5_counts 5 = .ok (.if_icmp .eq 15, 3) := by decide +kernel
theorem dX5_counts_8 : decode cX5_counts 8 = .ok (.aload_n 0, 1) := by decide +kernel
theorem dX5_counts_9 : decode cX5_counts 9 = .ok (.getfield 69, 3) := by decide +kernel
theorem dX5_counts_12 : decode cX5_counts 12 = .ok (.iconst 2, 1) := by decide +kernel
theorem dX5_counts_13 : decode cX5_counts 13 = .ok (.if_icmp .ge 7, 3) := by decide +kernel
theorem dX5_counts_16 : decode cX5_counts 16 = .ok (.iconst 1, 1) := by decide +kernel
theorem dX5_counts_17 : decode cX5_counts 17 = .ok (.goto 4, 3) := by decide +kernel
theorem dX5_counts_20 : decode cX5_counts 20 = .ok (.iconst 0, 1) := by decide +kernel
theorem dX5_counts_21 : decode cX5_counts 21 = .ok (.ireturn, 1) := by decide +kernel
theorem dX5_isKnownAt_0 : decode cX5_isKnownAt 0 = .ok (.iload_n 2, 1) := by decide +kernel
theorem dX5_isKnownAt_1 : decode cX5_isKnownAt 1 = .ok (.aload_n 0, 1) := by decide +kernel
theorem dX5_isKnownAt_2 : decode cX5_isKnownAt 2 = .ok (.getfield 24, 3) := by decide +kernel
theorem dX5_isKnownAt_5 : decode cX5_isKnownAt 5 = .ok (.iload_n 1, 1) := by decide +kernel
theorem dX5_isKnownAt_6 : decode cX5_isKnownAt 6 = .ok (.if_icmp .ne 10, 3) := by decide +kernel
theorem dX5_isKnownAt_9 : decode cX5_isKnownAt 9 = .ok (.aload_n 0, 1) := by decide +kernel
theorem dX5_isKnownAt_10 : decode cX5_isKnownAt 10 = .ok (.getfield 25, 3) := by decide +kernel
theorem dX5_isKnownAt_13 : decode cX5_isKnownAt 13 = .ok (.goto 9, 3) := by decide +kernel
theorem dX5_isKnownAt_16 : decode cX5_isKnownAt 16 = .ok (.aload_n 0, 1) := by decide +kernel
theorem dX5_isKnownAt_17 : decode cX5_isKnownAt 17 = .ok (.getfield 25, 3) := by decide +kernel
theorem dX5_isKnownAt_20 : decode cX5_isKnownAt 20 = .ok (.iconst 3, 1) := by decide +kernel
theorem dX5_isKnownAt_21 : decode cX5_isKnownAt 21 = .ok (.iadd, 1) := by decide +kernel
theorem dX5_isKnownAt_22 : decode cX5_isKnownAt 22 = .ok (.if_icmp .lt 7, 3) := by decide +kernel
theorem dX5_isKnownAt_25 : decode cX5_isKnownAt 25 = .ok (.iconst 1, 1) := by decide +kernel
theorem dX5_isKnownAt_26 : decode cX5_isKnownAt 26 = .ok (.goto 4, 3) := by decide +kernel
theorem dX5_isKnownAt_29 : decode cX5_isKnownAt 29 = .ok (.iconst 0, 1) := by decide +kernel
theorem dX5_isKnownAt_30 : decode cX5_isKnownAt 30 = .ok (.ireturn, 1) := by decide +kernel
theorem dX6_init_0 : decode cX6_init 0 = .ok (.aload_n 0, 1) := by decide +kernel
theorem dX6_init_1 : decode cX6_init 1 = .ok (.invokespecial 1, 3) := by decide +kernel
theorem dX6_init_4 : decode cX6_init 4 = .ok (.aload_n 0, 1) := by decide +kernel
theorem dX6_init_5 : decode cX6_init 5 = .ok (.new 7, 3) := by decide +kernel
theorem dX6_init_8 : decode cX6_init 8 = .ok (.dup, 1) := by decide +kernel
theorem dX6_init_9 : decode cX6_init 9 = .ok (.invokespecial 9, 3) := by decide +kernel
theorem dX6_init_12 : decode cX6_init 12 = .ok (.putfield 10, 3) := by decide +kernel
theorem dX6_init_15 : decode cX6_init 15 = .ok (.aload_n 0, 1) := by decide +kernel
theorem dX6_init_16 : decode cX6_init 16 = .ok (.new 7, 3) := by decide +kernel
theorem dX6_init_19 : decode cX6_init 19 = .ok (.dup, 1) := by decide +kernel
theorem dX6_init_20 : decode cX6_init 20 = .ok (.invokespecial 9, 3) := by decide +kernel
theorem dX6_init_23 : decode cX6_init 23 = .ok (.putfield 16, 3) := by decide +kernel
theorem dX6_init_26 : decode cX6_init 26 = .ok (.aload_n 0, 1) := by decide +kernel
theorem dX6_init_27 : decode cX6_init 27 = .ok (.new 7, 3) := by decide +kernel
theorem dX6_init_30 : decode cX6_init 30 = .ok (.dup, 1) := by decide +kernel
theorem dX6_init_31 : decode cX6_init 31 = .ok (.invokespecial 9, 3) := by decide +kernel
theorem dX6_init_34 : decode cX6_init 34 = .ok (.putfield 19, 3) := by decide +kernel
theorem dX6_init_37 : decode cX6_init 37 = .ok (.aload_n 0, 1) := by decide +kernel
theorem dX6_init_38 : decode cX6_init 38 = .ok (.iconst 4, 1) := by decide +kernel
theorem dX6_init_39 : decode cX6_init 39 = .ok (.newarray .boolean, 2) := by decide +kernel
theorem dX6_init_41 : decode cX6_init 41 = .ok (.putfield 22, 3) := by decide +kernel
theorem dX6_init_44 : decode cX6_init 44 = .ok (.aload_n 0, 1) := by decide +kernel
theorem dX6_init_45 : decode cX6_init 45 = .ok (.iconst 4, 1) := by decide +kernel
theorem dX6_init_46 : decode cX6_init 46 = .ok (.newarray .int, 2) := by decide +kernel
theorem dX6_init_48 : decode cX6_init 48 = .ok (.putfield 26, 3) := by decide +kernel
theorem dX6_init_51 : decode cX6_init 51 = .ok (.aload_n 0, 1) := by decide +kernel
theorem dX6_init_52 : decode cX6_init 52 = .ok (.iconst 0, 1) := by decide +kernel
theorem dX6_init_53 : decode cX6_init 53 = .ok (.putfield 30, 3) := by decide +kernel
theorem dX6_init_56 : decode cX6_init 56 = .ok (.return_, 1) := by decide +kernel
theorem dX6_pass_0 : decode cX6_pass 0 = .ok (.iload_n 1, 1) := by decide +kernel
theorem dX6_pass_1 : decode cX6_pass 1 = .ok (.iconst 1, 1) := by decide +kernel
theorem dX6_pass_2 : decode cX6_pass 2 = .ok (.if_icmp .lt 10, 3) := by decide +kernel
theorem dX6_pass_5 : decode cX6_pass 5 = .ok (.iload_n 1, 1) := by decide +kernel
theorem dX6_pass_6 : decode cX6_pass 6 = .ok (.sipush 500, 3) := by decide +kernel
theorem dX6_pass_9 : decode cX6_pass 9 = .ok (.if_icmp .le 13, 3) := by decide +kernel
theorem dX6_pass_12 : decode cX6_pass 12 = .ok (.new 34, 3) := by decide +kernel
theorem dX6_pass_15 : decode cX6_pass 15 = .ok (.dup, 1) := by decide +kernel
theorem dX6_pass_16 : decode cX6_pass 16 = .ok (.ldc 36, 2) := by decide +kernel
theorem dX6_pass_18 : decode cX6_pass 18 = .ok (.invokespecial 38, 3) := by decide +kernel
theorem dX6_pass_21 : decode cX6_pass 21 = .ok (.athrow, 1) := by decide +kernel
theorem dX6_pass_22 : decode cX6_pass 22 = .ok (.aload_n 0, 1) := by decide +kernel
theorem dX6_pass_23 : decode cX6_pass 23 = .ok (.getfield 30, 3) := by decide +kernel
theorem dX6_pass_26 : decode cX6_pass 26 = .ok (.iload_n 1, 1) := by decide +kernel
theorem dX6_pass_27 : decode cX6_pass 27 = .ok (.iadd, 1) := by decide +kernel
theorem dX6_pass_28 : decode cX6_pass 28 = .ok (.sipush 9000, 3) := by decide +kernel
theorem dX6_pass_31 : decode cX6_pass 31 = .ok (.if_icmp .le 13, 3) := by decide +kernel
theorem dX6_pass_34 : decode cX6_pass 34 = .ok (.new 41, 3) := by decide +kernel
theorem dX6_pass_37 : decode cX6_pass 37 = .ok (.dup, 1) := by decide +kernel
theorem dX6_pass_38 : decode cX6_pass 38 = .ok (.ldc 43, 2) := by decide +kernel
theorem dX6_pass_40 : decode cX6_pass 40 = .ok (.invokespecial 45, 3) := by decide +kernel
theorem dX6_pass_43 : decode cX6_pass 43 = .ok (.athrow, 1) := by decide +kernel
theorem dX6_pass_44 : decode cX6_pass 44 = .ok (.aload_n 0, 1) := by decide +kernel
theorem dX6_pass_45 : decode cX6_pass 45 = .ok (.dup, 1) := by decide +kernel
theorem dX6_pass_46 : decode cX6_pass 46 = .ok (.getfield 30, 3) := by decide +kernel
theorem dX6_pass_49 : decode cX6_pass 49 = .ok (.iload_n 1, 1) := by decide +kernel
theorem dX6_pass_50 : decode cX6_pass 50 = .ok (.iadd, 1) := by decide +kernel
theorem dX6_pass_51 : decode cX6_pass 51 = .ok (.putfield 30, 3) := by decide +kernel
theorem dX6_pass_54 : decode cX6_pass 54 = .ok (.aload_n 0, 1) := by decide +kernel
theorem dX6_pass_55 : decode cX6_pass 55 = .ok (.getfield 30, 3) := by decide +kernel
theorem dX6_pass_58 : decode cX6_pass 58 = .ok (.ireturn, 1) := by decide +kernel
theorem dX6_ship_0 : decode cX6_ship 0 = .ok (.iload 4, 2) := by decide +kernel
theorem dX6_ship_2 : decode cX6_ship 2 = .ok (.bipush 6, 2) := by decide +kernel
theorem dX6_ship_4 : decode cX6_ship 4 = .ok (.invokestatic 46, 3) := by decide +kernel
theorem dX6_ship_7 : decode cX6_ship 7 = .ok (.ifCond .eq 12, 3) := by decide +kernel
theorem dX6_ship_10 : decode cX6_ship 10 = .ok (.iload 5, 2) := by decide +kernel
theorem dX6_ship_12 : decode cX6_ship 12 = .ok (.iconst 4, 1) := by decide +kernel
theorem dX6_ship_13 : decode cX6_ship 13 = .ok (.invokestatic 46, 3) := by decide +kernel
theorem dX6_ship_16 : decode cX6_ship 16 = .ok (.ifCond .ne 13, 3) := by decide +kernel
theorem dX6_ship_19 : decode cX6_ship 19 = .ok (.new 50, 3) := by decide +kernel
theorem dX6_ship_22 : decode cX6_ship 22 = .ok (.dup, 1) := by decide +kernel
theorem dX6_ship_23 : decode cX6_ship 23 = .ok (.ldc 52, 2) := by decide +kernel
theorem dX6_ship_25 : decode cX6_ship 25 = .ok (.invokespecial 54, 3) := by decide +kernel
theorem dX6_ship_28 : decode cX6_ship 28 = .ok (.athrow, 1) := by decide +kernel
theorem dX6_ship_29 : decode cX6_ship 29 = .ok (.iload_n 1, 1) := by decide +kernel
theorem dX6_ship_30 : decode cX6_ship 30 = .ok (.sipush (-10000), 3) := by decide +kernel
theorem dX6_ship_33 : decode cX6_ship 33 = .ok (.if_icmp .lt 32, 3) := by decide +kernel
theorem dX6_ship_36 : decode cX6_ship 36 = .ok (.iload_n 1, 1) := by decide +kernel
theorem dX6_ship_37 : decode cX6_ship 37 = .ok (.aload_n 0, 1) := by decide +kernel
theorem dX6_ship_38 : decode cX6_ship 38 = .ok (.getfield 30, 3) := by decide +kernel
theorem dX6_ship_41 : decode cX6_ship 41 = .ok (.if_icmp .gt 24, 3) := by decide +kernel
theorem dX6_ship_44 : decode cX6_ship 44 = .ok (.iload_n 2, 1) := by decide +kernel
theorem dX6_ship_45 : decode cX6_ship 45 = .ok (.bipush 100, 2) := by decide +kernel
theorem dX6_ship_47 : decode cX6_ship 47 = .ok (.if_icmp .lt 18, 3) := by decide +kernel
theorem dX6_ship_50 : decode cX6_ship 50 = .ok (.iload_n 2, 1) := by decide +kernel
theorem dX6_ship_51 : decode cX6_ship 51 = .ok (.ldc 55, 2) := by decide +kernel
theorem dX6_ship_53 : decode cX6_ship 53 = .ok (.if_icmp .gt 12, 3) := by decide +kernel
theorem dX6_ship_56 : decode cX6_ship 56 = .ok (.iload_n 3, 1) := by decide +kernel
theorem dX6_ship_57 : decode cX6_ship 57 = .ok (.ifCond .lt 8, 3) := by decide +kernel
theorem dX6_ship_60 : decode cX6_ship 60 = .ok (.iload_n 3, 1) := by decide +kernel
theorem dX6_ship_61 : decode cX6_ship 61 = .ok (.iconst 2, 1) := by decide +kernel
theorem dX6_ship_62 : decode cX6_ship 62 = .ok (.if_icmp .le 13, 3) := by decide +kernel
theorem dX6_ship_65 : decode cX6_ship 65 = .ok (.new 34, 3) := by decide +kernel
theorem dX6_ship_68 : decode cX6_ship 68 = .ok (.dup, 1) := by decide +kernel
theorem dX6_ship_69 : decode cX6_ship 69 = .ok (.ldc 56, 2) := by decide +kernel
theorem dX6_ship_71 : decode cX6_ship 71 = .ok (.invokespecial 38, 3) := by decide +kernel
theorem dX6_ship_74 : decode cX6_ship 74 = .ok (.athrow, 1) := by decide +kernel
theorem dX6_ship_75 : decode cX6_ship 75 = .ok (.aload_n 0, 1) := by decide +kernel
theorem dX6_ship_76 : decode cX6_ship 76 = .ok (.getfield 10, 3) := by decide +kernel
theorem dX6_ship_79 : decode cX6_ship 79 = .ok (.invokevirtual 58, 3) := by decide +kernel
theorem dX6_ship_82 : decode cX6_ship 82 = .ok (.bipush 12, 2) := by decide +kernel
theorem dX6_ship_84 : decode cX6_ship 84 = .ok (.if_icmp .lt 13, 3) := by decide +kernel
theorem dX6_ship_87 : decode cX6_ship 87 = .ok (.new 41, 3) := by decide +kernel
theorem dX6_ship_90 : decode cX6_ship 90 = .ok (.dup, 1) := by decide +kernel
theorem dX6_ship_91 : decode cX6_ship 91 = .ok (.ldc 62, 2) := by decide +kernel
theorem dX6_ship_93 : decode cX6_ship 93 = .ok (.invokespecial 45, 3) := by decide +kernel
theorem dX6_ship_96 : decode cX6_ship 96 = .ok (.athrow, 1) := by decide +kernel
theorem dX6_ship_97 : decode cX6_ship 97 = .ok (.new 64, 3) := by decide +kernel
theorem dX6_ship_100 : decode cX6_ship 100 = .ok (.dup, 1) := by decide +kernel
theorem dX6_ship_101 : decode cX6_ship 101 = .ok (.aload_n 0, 1) := by decide +kernel
theorem dX6_ship_102 : decode cX6_ship 102 = .ok (.getfield 10, 3) := by decide +kernel
theorem dX6_ship_105 : decode cX6_ship 105 = .ok (.invokevirtual 58, 3) := by decide +kernel
theorem dX6_ship_108 : decode cX6_ship 108 = .ok (.iload_n 1, 1) := by decide +kernel
theorem dX6_ship_109 : decode cX6_ship 109 = .ok (.iload_n 2, 1) := by decide +kernel
theorem dX6_ship_110 : decode cX6_ship 110 = .ok (.iload_n 3, 1) := by decide +kernel
theorem dX6_ship_111 : decode cX6_ship 111 = .ok (.iload 4, 2) := by decide +kernel
theorem dX6_ship_113 : decode cX6_ship 113 = .ok (.iload 5, 2) := by decide +kernel
theorem dX6_ship_115 : decode cX6_ship 115 = .ok (.invokespecial 66, 3) := by decide +kernel
theorem dX6_ship_118 : decode cX6_ship 118 = .ok (.astore 6, 2) := by decide +kernel
theorem dX6_ship_120 : decode cX6_ship 120 = .ok (.aload 6, 2) := by decide +kernel
theorem dX6_ship_122 : decode cX6_ship 122 = .ok (.iconst 0, 1) := by decide +kernel
theorem dX6_ship_123 : decode cX6_ship 123 = .ok (.iconst (-1), 1) := by decide +kernel
theorem dX6_ship_124 : decode cX6_ship 124 = .ok (.iload_n 1, 1) := by decide +kernel
theorem dX6_ship_125 : decode cX6_ship 125 = .ok (.iload_n 3, 1) := by decide +kernel
theorem dX6_ship_126 : decode cX6_ship 126 = .ok (.invokevirtual 71, 3) := by decide +kernel
theorem dX6_ship_129 : decode cX6_ship 129 = .ok (.aload 6, 2) := by decide +kernel
theorem dX6_ship_131 : decode cX6_ship 131 = .ok (.iconst 1, 1) := by decide +kernel
theorem dX6_ship_132 : decode cX6_ship 132 = .ok (.iconst (-1), 1) := by decide +kernel
theorem dX6_ship_133 : decode cX6_ship 133 = .ok (.iload 4, 2) := by decide +kernel
theorem dX6_ship_135 : decode cX6_ship 135 = .ok (.iload 5, 2) := by decide +kernel
theorem dX6_ship_137 : decode cX6_ship 137 = .ok (.invokevirtual 71, 3) := by decide +kernel
theorem dX6_ship_140 : decode cX6_ship 140 = .ok (.aload_n 0, 1) := by decide +kernel
theorem dX6_ship_141 : decode cX6_ship 141 = .ok (.getfield 10, 3) := by decide +kernel
theorem dX6_ship_144 : decode cX6_ship 144 = .ok (.aload 6, 2) := by decide +kernel
theorem dX6_ship_146 : decode cX6_ship 146 = .ok (.invokevirtual 75, 3) := by decide +kernel
theorem dX6_ship_149 : decode cX6_ship 149 = .ok (.pop, 1) := by decide +kernel
theorem dX6_ship_150 : decode cX6_ship 150 = .ok (.aload 6, 2) := by decide +kernel
theorem dX6_ship_152 : decode cX6_ship 152 = .ok (.getfield 79, 3) := by decide +kernel
theorem dX6_ship_155 : decode cX6_ship 155 = .ok (.ireturn, 1) := by decide +kernel
theorem dX6_changes_0 : decode cX6_changes 0 = .ok (.aload_n 0, 1) := by decide +kernel
theorem dX6_changes_1 : decode cX6_changes 1 = .ok (.iload_n 1, 1) := by decide +kernel
theorem dX6_changes_2 : decode cX6_changes 2 = .ok (.invokevirtual 82, 3) := by decide +kernel
theorem dX6_changes_5 : decode cX6_changes 5 = .ok (.astore 4, 2) := by decide +kernel
theorem dX6_changes_7 : decode cX6_changes 7 = .ok (.iload_n 2, 1) := by decide +kernel
theorem dX6_changes_8 : decode cX6_changes 8 = .ok (.bipush 6, 2) := by decide +kernel
theorem dX6_changes_10 : decode cX6_changes 10 = .ok (.invokestatic 46, 3) := by decide +kernel
theorem dX6_changes_13 : decode cX6_changes 13 = .ok (.ifCond .eq 11, 3) := by decide +kernel
theorem dX6_changes_16 : decode cX6_changes 16 = .ok (.iload_n 3, 1) := by decide +kernel
theorem dX6_changes_17 : decode cX6_changes 17 = .ok (.iconst 4, 1) := by decide +kernel
theorem dX6_changes_18 : decode cX6_changes 18 = .ok (.invokestatic 46, 3) := by decide +kernel
theorem dX6_changes_21 : decode cX6_changes 21 = .ok (.ifCond .ne 13, 3) := by decide +kernel
theorem dX6_changes_24 : decode cX6_changes 24 = .ok (.new 50, 3) := by decide +kernel
theorem dX6_changes_27 : decode cX6_changes 27 = .ok (.dup, 1) := by decide +kernel
theorem dX6_changes_28 : decode cX6_changes 28 = .ok (.ldc 52, 2) := by decide +kernel
theorem dX6_changes_30 : decode cX6_changes 30 = .ok (.invokespecial 54, 3) := by decide +kernel
theorem dX6_changes_33 : decode cX6_changes 33 = .ok (.athrow, 1) := by decide +kernel
theorem dX6_changes_34 : decode cX6_changes 34 = .ok (.aload 4, 2) := by decide +kernel
theorem dX6_changes_36 : decode cX6_changes 36 = .ok (.iload_n 2, 1) := by decide +kernel
theorem dX6_changes_37 : decode cX6_changes 37 = .ok (.putfield 86, 3) := by decide +kernel
theorem dX6_changes_40 : decode cX6_changes 40 = .ok (.aload 4, 2) := by decide +kernel
theorem dX6_changes_42 : decode cX6_changes 42 = .ok (.iload_n 3, 1) := by decide +kernel
theorem dX6_changes_43 : decode cX6_changes 43 = .ok (.putfield 89, 3) := by decide +kernel
theorem dX6_changes_46 : decode cX6_changes 46 = .ok (.aload 4, 2) := by decide +kernel
theorem dX6_changes_48 : decode cX6_changes 48 = .ok (.dup, 1) := by decide +kernel
theorem dX6_changes_49 : decode cX6_changes 49 = .ok (.getfield 92, 3) := by decide +kernel
theorem dX6_changes_52 : decode cX6_changes 52 = .ok (.iconst 1, 1) := by decide +kernel
theorem dX6_changes_53 : decode cX6_changes 53 = .ok (.iadd, 1) := by decide +kernel
theorem dX6_changes_54 : decode cX6_changes 54 = .ok (.putfield 92, 3) := by decide +kernel
theorem dX6_changes_57 : decode cX6_changes 57 = .ok (.aload 4, 2) := by decide +kernel
theorem dX6_changes_59 : decode cX6_changes 59 = .ok (.iconst 1, 1) := by decide +kernel
theorem dX6_changes_60 : decode cX6_changes 60 = .ok (.iconst (-1), 1) := by decide +kernel
theorem dX6_changes_61 : decode cX6_changes 61 = .ok (.iload_n 2, 1) := by decide +kernel
theorem dX6_changes_62 : decode cX6_changes 62 = .ok (.iload_n 3, 1) := by decide +kernel
theorem dX6_changes_63 : decode cX6_changes 63 = .ok (.invokevirtual 71, 3) := by decide +kernel
theorem dX6_changes_66 : decode cX6_changes 66 = .ok (.aload 4, 2) := by decide +kernel
theorem dX6_changes_68 : decode cX6_changes 68 = .ok (.getfield 92, 3) := by decide +kernel
theorem dX6_changes_71 : decode cX6_changes 71 = .ok (.ireturn, 1) := by decide +kernel
theorem dX6_suspend_0 : decode cX6_suspend 0 = .ok (.iload_n 1, 1) := by decide +kernel
theorem dX6_suspend_1 : decode cX6_suspend 1 = .ok (.aload_n 0, 1) := by decide +kernel
theorem dX6_suspend_2 : decode cX6_suspend 2 = .ok (.getfield 22, 3) := by decide +kernel
theorem dX6_suspend_5 : decode cX6_suspend 5 = .ok (.arraylength, 1) := by decide +kernel
theorem dX6_suspend_6 : decode cX6_suspend 6 = .ok (.invokestatic 46, 3) := by decide +kernel
theorem dX6_suspend_9 : decode cX6_suspend 9 = .ok (.ifCond .ne 13, 3) := by decide +kernel
theorem dX6_suspend_12 : decode cX6_suspend 12 = .ok (.new 50, 3) := by decide +kernel
theorem dX6_suspend_15 : decode cX6_suspend 15 = .ok (.dup, 1) := by decide +kernel
theorem dX6_suspend_16 : decode cX6_suspend 16 = .ok (.ldc 95, 2) := by decide +kernel
theorem dX6_suspend_18 : decode cX6_suspend 18 = .ok (.invokespecial 54, 3) := by decide +kernel
theorem dX6_suspend_21 : decode cX6_suspend 21 = .ok (.athrow, 1) := by decide +kernel
theorem dX6_suspend_22 : decode cX6_suspend 22 = .ok (.aload_n 0, 1) := by decide +kernel
theorem dX6_suspend_23 : decode cX6_suspend 23 = .ok (.getfield 22, 3) := by decide +kernel
theorem dX6_suspend_26 : decode cX6_suspend 26 = .ok (.iload_n 1, 1) := by decide +kernel
theorem dX6_suspend_27 : decode cX6_suspend 27 = .ok (.baload, 1) := by decide +kernel
theorem dX6_suspend_28 : decode cX6_suspend 28 = .ok (.istore_n 3, 1) := by decide +kernel
theorem dX6_suspend_29 : decode cX6_suspend 29 = .ok (.aload_n 0, 1) := by decide +kernel
theorem dX6_suspend_30 : decode cX6_suspend 30 = .ok (.getfield 22, 3) := by decide +kernel
theorem dX6_suspend_33 : decode cX6_suspend 33 = .ok (.iload_n 1, 1) := by decide +kernel
theorem dX6_suspend_34 : decode cX6_suspend 34 = .ok (.iload_n 2, 1) := by decide +kernel
theorem dX6_suspend_35 : decode cX6_suspend 35 = .ok (.bastore, 1) := by decide +kernel
theorem dX6_suspend_36 : decode cX6_suspend 36 = .ok (.iload_n 3, 1) := by decide +kernel
theorem dX6_suspend_37 : decode cX6_suspend 37 = .ok (.ireturn, 1) := by decide +kernel
theorem dX6_rule_0 : decode cX6_rule 0 = .ok (.iload_n 1, 1) := by decide +kernel
theorem dX6_rule_1 : decode cX6_rule 1 = .ok (.bipush 10, 2) := by decide +kernel
theorem dX6_rule_3 : decode cX6_rule 3 = .ok (.invokestatic 46, 3) := by decide +kernel
theorem dX6_rule_6 : decode cX6_rule 6 = .ok (.ifCond .eq 50, 3) := by decide +kernel
theorem dX6_rule_9 : decode cX6_rule 9 = .ok (.iload_n 2, 1) := by decide +kernel
theorem dX6_rule_10 : decode cX6_rule 10 = .ok (.ifCond .lt 46, 3) := by decide +kernel
theorem dX6_rule_13 : decode cX6_rule 13 = .ok (.iload_n 2, 1) := by decide +kernel
theorem dX6_rule_14 : decode cX6_rule 14 = .ok (.ldc 55, 2) := by decide +kernel
theorem dX6_rule_16 : decode cX6_rule 16 = .ok (.if_icmp .gt 40, 3) := by decide +kernel
theorem dX6_rule_19 : decode cX6_rule 19 = .ok (.iload_n 3, 1) := by decide +kernel
theorem dX6_rule_20 : decode cX6_rule 20 = .ok (.iconst 1, 1) := by decide +kernel
theorem dX6_rule_21 : decode cX6_rule 21 = .ok (.if_icmp .lt 35, 3) := by decide +kernel
theorem dX6_rule_24 : decode cX6_rule 24 = .ok (.iload_n 3, 1) := by decide +kernel
theorem dX6_rule_25 : decode cX6_rule 25 = .ok (.bipush 7, 2) := by decide +kernel
theorem dX6_rule_27 : decode cX6_rule 27 = .ok (.if_icmp .gt 29, 3) := by decide +kernel
theorem dX6_rule_30 : decode cX6_rule 30 = .ok (.iload 4, 2) := by decide +kernel
theorem dX6_rule_32 : decode cX6_rule 32 = .ok (.ifCond .lt 24, 3) := by decide +kernel
theorem dX6_rule_35 : decode cX6_rule 35 = .ok (.iload 4, 2) := by decide +kernel
theorem dX6_rule_37 : decode cX6_rule 37 = .ok (.sipush 9000, 3) := by decide +kernel
theorem dX6_rule_40 : decode cX6_rule 40 = .ok (.if_icmp .gt 16, 3) := by decide +kernel
theorem dX6_rule_43 : decode cX6_rule 43 = .ok (.iload 5, 2) := by decide +kernel
theorem dX6_rule_45 : decode cX6_rule 45 = .ok (.ifCond .lt 11, 3) := by decide +kernel
theorem dX6_rule_48 : decode cX6_rule 48 = .ok (.iload 5, 2) := by decide +kernel
theorem dX6_rule_50 : decode cX6_rule 50 = .ok (.sipush 3000, 3) := by decide +kernel
theorem dX6_rule_53 : decode cX6_rule 53 = .ok (.if_icmp .le 13, 3) := by decide +kernel
theorem dX6_rule_56 : decode cX6_rule 56 = .ok (.new 34, 3) := by decide +kernel
theorem dX6_rule_59 : decode cX6_rule 59 = .ok (.dup, 1) := by decide +kernel
theorem dX6_rule_60 : decode cX6_rule 60 = .ok (.ldc 97, 2) := by decide +kernel
theorem dX6_rule_62 : decode cX6_rule 62 = .ok (.invokespecial 38, 3) := by decide +kernel
theorem dX6_rule_65 : decode cX6_rule 65 = .ok (.athrow, 1) := by decide +kernel
theorem dX6_rule_66 : decode cX6_rule 66 = .ok (.aload_n 0, 1) := by decide +kernel
theorem dX6_rule_67 : decode cX6_rule 67 = .ok (.getfield 16, 3) := by decide +kernel
theorem dX6_rule_70 : decode cX6_rule 70 = .ok (.invokevirtual 58, 3) := by decide +kernel
theorem dX6_rule_73 : decode cX6_rule 73 = .ok (.bipush 20, 2) := by decide +kernel
theorem dX6_rule_75 : decode cX6_rule 75 = .ok (.if_icmp .lt 13, 3) := by decide +kernel
theorem dX6_rule_78 : decode cX6_rule 78 = .ok (.new 41, 3) := by decide +kernel
theorem dX6_rule_81 : decode cX6_rule 81 = .ok (.dup, 1) := by decide +kernel
theorem dX6_rule_82 : decode cX6_rule 82 = .ok (.ldc 99, 2) := by decide +kernel
theorem dX6_rule_84 : decode cX6_rule 84 = .ok (.invokespecial 45, 3) := by decide +kernel
theorem dX6_rule_87 : decode cX6_rule 87 = .ok (.athrow, 1) := by decide +kernel
theorem dX6_rule_88 : decode cX6_rule 88 = .ok (.aload_n 0, 1) := by decide +kernel
theorem dX6_rule_89 : decode cX6_rule 89 = .ok (.getfield 16, 3) := by decide +kernel
theorem dX6_rule_92 : decode cX6_rule 92 = .ok (.new 101, 3) := by decide +kernel
theorem dX6_rule_95 : decode cX6_rule 95 = .ok (.dup, 1) := by decide +kernel
theorem dX6_rule_96 : decode cX6_rule 96 = .ok (.iload_n 1, 1) := by decide +kernel
theorem dX6_rule_97 : decode cX6_rule 97 = .ok (.iload_n 2, 1) := by decide +kernel
theorem dX6_rule_98 : decode cX6_rule 98 = .ok (.iload_n 3, 1) := by decide +kernel
theorem dX6_rule_99 : decode cX6_rule 99 = .ok (.iload 4, 2) := by decide +kernel
theorem dX6_rule_101 : decode cX6_rule 101 = .ok (.iload 5, 2) := by decide +kernel
theorem dX6_rule_103 : decode cX6_rule 103 = .ok (.invokespecial 103, 3) := by decide +kernel
theorem dX6_rule_106 : decode cX6_rule 106 = .ok (.invokevirtual 75, 3) := by decide +kernel
theorem dX6_rule_109 : decode cX6_rule 109 = .ok (.pop, 1) := by decide +kernel
theorem dX6_rule_110 : decode cX6_rule 110 = .ok (.aload_n 0, 1) := by decide +kernel
theorem dX6_rule_111 : decode cX6_rule 111 = .ok (.getfield 16, 3) := by decide +kernel
theorem dX6_rule_114 : decode cX6_rule 114 = .ok (.invokevirtual 58, 3) := by decide +kernel
theorem dX6_rule_117 : decode cX6_rule 117 = .ok (.iconst 1, 1) := by decide +kernel
theorem dX6_rule_118 : decode cX6_rule 118 = .ok (.isub, 1) := by decide +kernel
theorem dX6_rule_119 : decode cX6_rule 119 = .ok (.ireturn, 1) := by decide +kernel
theorem dX6_issue_0 : decode cX6_issue 0 = .ok (.aload_n 0, 1) := by decide +kernel
theorem dX6_issue_1 : decode cX6_issue 1 = .ok (.iload_n 1, 1) := by decide +kernel
theorem dX6_issue_2 : decode cX6_issue 2 = .ok (.invokevirtual 82, 3) := by decide +kernel
theorem dX6_issue_5 : decode cX6_issue 5 = .ok (.astore 4, 2) := by decide +kernel
theorem dX6_issue_7 : decode cX6_issue 7 = .ok (.iload_n 2, 1) := by decide +kernel
theorem dX6_issue_8 : decode cX6_issue 8 = .ok (.aload 4, 2) := by decide +kernel
theorem dX6_issue_10 : decode cX6_issue 10 = .ok (.getfield 106, 3) := by decide +kernel
theorem dX6_issue_13 : decode cX6_issue 13 = .ok (.arraylength, 1) := by decide +kernel
theorem dX6_issue_14 : decode cX6_issue 14 = .ok (.invokestatic 46, 3) := by decide +kernel
theorem dX6_issue_17 : decode cX6_issue 17 = .ok (.ifCond .eq 15, 3) := by decide +kernel
theorem dX6_issue_20 : decode cX6_issue 20 = .ok (.iload_n 3, 1) := by decide +kernel
theorem dX6_issue_21 : decode cX6_issue 21 = .ok (.iconst 1, 1) := by decide +kernel
theorem dX6_issue_22 : decode cX6_issue 22 = .ok (.if_icmp .lt 10, 3) := by decide +kernel
theorem dX6_issue_25 : decode cX6_issue 25 = .ok (.iload_n 3, 1) := by decide +kernel
theorem dX6_issue_26 : decode cX6_issue 26 = .ok (.sipush 1825, 3) := by decide +kernel
theorem dX6_issue_29 : decode cX6_issue 29 = .ok (.if_icmp .le 13, 3) := by decide +kernel
theorem dX6_issue_32 : decode cX6_issue 32 = .ok (.new 34, 3) := by decide +kernel
theorem dX6_issue_35 : decode cX6_issue 35 = .ok (.dup, 1) := by decide +kernel
theorem dX6_issue_36 : decode cX6_issue 36 = .ok (.ldc 110, 2) := by decide +kernel
theorem dX6_issue_38 : decode cX6_issue 38 = .ok (.invokespecial 38, 3) := by decide +kernel
theorem dX6_issue_41 : decode cX6_issue 41 = .ok (.athrow, 1) := by decide +kernel
theorem dX6_issue_42 : decode cX6_issue 42 = .ok (.aload_n 0, 1) := by decide +kernel
theorem dX6_issue_43 : decode cX6_issue 43 = .ok (.aload 4, 2) := by decide +kernel
theorem dX6_issue_45 : decode cX6_issue 45 = .ok (.getfield 89, 3) := by decide +kernel
theorem dX6_issue_48 : decode cX6_issue 48 = .ok (.invokevirtual 112, 3) := by decide +kernel
theorem dX6_issue_51 : decode cX6_issue 51 = .ok (.ifCond .ne 19, 3) := by decide +kernel
theorem dX6_issue_54 : decode cX6_issue 54 = .ok (.iload_n 2, 1) := by decide +kernel
theorem dX6_issue_55 : decode cX6_issue 55 = .ok (.invokestatic 116, 3) := by decide +kernel
theorem dX6_issue_58 : decode cX6_issue 58 = .ok (.aload_n 0, 1) := by decide +kernel
theorem dX6_issue_59 : decode cX6_issue 59 = .ok (.aload 4, 2) := by decide +kernel
theorem dX6_issue_61 : decode cX6_issue 61 = .ok (.invokevirtual 120, 3) := by decide +kernel
theorem dX6_issue_64 : decode cX6_issue 64 = .ok (.invokestatic 124, 3) := by decide +kernel
theorem dX6_issue_67 : decode cX6_issue 67 = .ok (.ifCond .eq 13, 3) := by decide +kernel
theorem dX6_issue_70 : decode cX6_issue 70 = .ok (.new 41, 3) := by decide +kernel
theorem dX6_issue_73 : decode cX6_issue 73 = .ok (.dup, 1) := by decide +kernel
theorem dX6_issue_74 : decode cX6_issue 74 = .ok (.ldc 127, 2) := by decide +kernel
theorem dX6_issue_76 : decode cX6_issue 76 = .ok (.invokespecial 45, 3) := by decide +kernel
theorem dX6_issue_79 : decode cX6_issue 79 = .ok (.athrow, 1) := by decide +kernel
theorem dX6_issue_80 : decode cX6_issue 80 = .ok (.new 129, 3) := by decide +kernel
theorem dX6_issue_83 : decode cX6_issue 83 = .ok (.dup, 1) := by decide +kernel
theorem dX6_issue_84 : decode cX6_issue 84 = .ok (.aload 4, 2) := by decide +kernel
theorem dX6_issue_86 : decode cX6_issue 86 = .ok (.getfield 89, 3) := by decide +kernel
theorem dX6_issue_89 : decode cX6_issue 89 = .ok (.aload_n 0, 1) := by decide +kernel
theorem dX6_issue_90 : decode cX6_issue 90 = .ok (.getfield 30, 3) := by decide +kernel
theorem dX6_issue_93 : decode cX6_issue 93 = .ok (.aload_n 0, 1) := by decide +kernel
theorem dX6_issue_94 : decode cX6_issue 94 = .ok (.getfield 30, 3) := by decide +kernel
theorem dX6_issue_97 : decode cX6_issue 97 = .ok (.iload_n 3, 1) := by decide +kernel
theorem dX6_issue_98 : decode cX6_issue 98 = .ok (.iadd, 1) := by decide +kernel
theorem dX6_issue_99 : decode cX6_issue 99 = .ok (.invokespecial 131, 3) := by decide +kernel
theorem dX6_issue_102 : decode cX6_issue 102 = .ok (.astore 5, 2) := by decide +kernel
theorem dX6_issue_104 : decode cX6_issue 104 = .ok (.aload 4, 2) := by decide +kernel
theorem dX6_issue_106 : decode cX6_issue 106 = .ok (.getfield 106, 3) := by decide +kernel
theorem dX6_issue_109 : decode cX6_issue 109 = .ok (.iload_n 2, 1) := by decide +kernel
theorem dX6_issue_110 : decode cX6_issue 110 = .ok (.aload 5, 2) := by decide +kernel
theorem dX6_issue_112 : decode cX6_issue 112 = .ok (.aastore, 1) := by decide +kernel
theorem dX6_issue_113 : decode cX6_issue 113 = .ok (.aload 5, 2) := by decide +kernel
theorem dX6_issue_115 : decode cX6_issue 115 = .ok (.getfield 134, 3) := by decide +kernel
theorem dX6_issue_118 : decode cX6_issue 118 = .ok (.ireturn, 1) := by decide +kernel
theorem dX6_endorse_0 : decode cX6_endorse 0 = .ok (.aload_n 0, 1) := by decide +kernel
theorem dX6_endorse_1 : decode cX6_endorse 1 = .ok (.iload_n 1, 1) := by decide +kernel
theorem dX6_endorse_2 : decode cX6_endorse 2 = .ok (.invokevirtual 82, 3) := by decide +kernel
theorem dX6_endorse_5 : decode cX6_endorse 5 = .ok (.astore_n 3, 1) := by decide +kernel
theorem dX6_endorse_6 : decode cX6_endorse 6 = .ok (.iload_n 2, 1) := by decide +kernel
theorem dX6_endorse_7 : decode cX6_endorse 7 = .ok (.aload_n 3, 1) := by decide +kernel
theorem dX6_endorse_8 : decode cX6_endorse 8 = .ok (.getfield 106, 3) := by decide +kernel
theorem dX6_endorse_11 : decode cX6_endorse 11 = .ok (.arraylength, 1) := by decide +kernel
theorem dX6_endorse_12 : decode cX6_endorse 12 = .ok (.invokestatic 46, 3) := by decide +kernel
theorem dX6_endorse_15 : decode cX6_endorse 15 = .ok (.ifCond .ne 13, 3) := by decide +kernel
theorem dX6_endorse_18 : decode cX6_endorse 18 = .ok (.new 34, 3) := by decide +kernel
theorem dX6_endorse_21 : decode cX6_endorse 21 = .ok (.dup, 1) := by decide +kernel
theorem dX6_endorse_22 : decode cX6_endorse 22 = .ok (.ldc 137, 2) := by decide +kernel
theorem dX6_endorse_24 : decode cX6_endorse 24 = .ok (.invokespecial 38, 3) := by decide +kernel
theorem dX6_endorse_27 : decode cX6_endorse 27 = .ok (.athrow, 1) := by decide +kernel
theorem dX6_endorse_28 : decode cX6_endorse 28 = .ok (.aload_n 3, 1) := by decide +kernel
theorem dX6_endorse_29 : decode cX6_endorse 29 = .ok (.getfield 106, 3) := by decide +kernel
theorem dX6_endorse_32 : decode cX6_endorse 32 = .ok (.iload_n 2, 1) := by decide +kernel
theorem dX6_endorse_33 : decode cX6_endorse 33 = .ok (.aaload, 1) := by decide +kernel
theorem dX6_endorse_34 : decode cX6_endorse 34 = .ok (.astore 4, 2) := by decide +kernel
theorem dX6_endorse_36 : decode cX6_endorse 36 = .ok (.aload 4, 2) := by decide +kernel
theorem dX6_endorse_38 : decode cX6_endorse 38 = .ok (.ifnull 15, 3) := by decide +kernel
theorem dX6_endorse_41 : decode cX6_endorse 41 = .ok (.iload_n 2, 1) := by decide +kernel
theorem dX6_endorse_42 : decode cX6_endorse 42 = .ok (.aload_n 0, 1) := by decide +kernel
theorem dX6_endorse_43 : decode cX6_endorse 43 = .ok (.aload_n 3, 1) := by decide +kernel
theorem dX6_endorse_44 : decode cX6_endorse 44 = .ok (.invokevirtual 120, 3) := by decide +kernel
theorem dX6_endorse_47 : decode cX6_endorse 47 = .ok (.invokestatic 124, 3) := by decide +kernel
theorem dX6_endorse_50 : decode cX6_endorse 50 = .ok (.ifCond .eq 13, 3) := by decide +kernel
theorem dX6_endorse_53 : decode cX6_endorse 53 = .ok (.new 41, 3) := by decide +kernel
theorem dX6_endorse_56 : decode cX6_endorse 56 = .ok (.dup, 1) := by decide +kernel
theorem dX6_endorse_57 : decode cX6_endorse 57 = .ok (.ldc 139, 2) := by decide +kernel
theorem dX6_endorse_59 : decode cX6_endorse 59 = .ok (.invokespecial 45, 3) := by decide +kernel
theorem dX6_endorse_62 : decode cX6_endorse 62 = .ok (.athrow, 1) := by decide +kernel
theorem dX6_endorse_63 : decode cX6_endorse 63 = .ok (.aload 4, 2) := by decide +kernel
theorem dX6_endorse_65 : decode cX6_endorse 65 = .ok (.aload_n 0, 1) := by decide +kernel
theorem dX6_endorse_66 : decode cX6_endorse 66 = .ok (.getfield 30, 3) := by decide +kernel
theorem dX6_endorse_69 : decode cX6_endorse 69 = .ok (.invokevirtual 141, 3) := by decide +kernel
theorem dX6_endorse_72 : decode cX6_endorse 72 = .ok (.istore 5, 2) := by decide +kernel
theorem dX6_endorse_74 : decode cX6_endorse 74 = .ok (.iload 5, 2) := by decide +kernel
theorem dX6_endorse_76 : decode cX6_endorse 76 = .ok (.iconst (-1), 1) := by decide +kernel
theorem dX6_endorse_77 : decode cX6_endorse 77 = .ok (.if_icmp .ne 13, 3) := by decide +kernel
theorem dX6_endorse_80 : decode cX6_endorse 80 = .ok (.new 41, 3) := by decide +kernel
theorem dX6_endorse_83 : decode cX6_endorse 83 = .ok (.dup, 1) := by decide +kernel
theorem dX6_endorse_84 : decode cX6_endorse 84 = .ok (.ldc 144, 2) := by decide +kernel
theorem dX6_endorse_86 : decode cX6_endorse 86 = .ok (.invokespecial 45, 3) := by decide +kernel
theorem dX6_endorse_89 : decode cX6_endorse 89 = .ok (.athrow, 1) := by decide +kernel
theorem dX6_endorse_90 : decode cX6_endorse 90 = .ok (.aload 4, 2) := by decide +kernel
theorem dX6_endorse_92 : decode cX6_endorse 92 = .ok (.dup, 1) := by decide +kernel
theorem dX6_endorse_93 : decode cX6_endorse 93 = .ok (.getfield 146, 3) := by decide +kernel
theorem dX6_endorse_96 : decode cX6_endorse 96 = .ok (.iconst 1, 1) := by decide +kernel
theorem dX6_endorse_97 : decode cX6_endorse 97 = .ok (.iload 5, 2) := by decide +kernel
theorem dX6_endorse_99 : decode cX6_endorse 99 = .ok (.ishl, 1) := by decide +kernel
theorem dX6_endorse_100 : decode cX6_endorse 100 = .ok (.ior, 1) := by decide +kernel
theorem dX6_endorse_101 : decode cX6_endorse 101 = .ok (.putfield 146, 3) := by decide +kernel
theorem dX6_endorse_104 : decode cX6_endorse 104 = .ok (.aload 4, 2) := by decide +kernel
theorem dX6_endorse_106 : decode cX6_endorse 106 = .ok (.getfield 146, 3) := by decide +kernel
theorem dX6_endorse_109 : decode cX6_endorse 109 = .ok (.invokestatic 149, 3) := by decide +kernel
theorem dX6_endorse_112 : decode cX6_endorse 112 = .ok (.ireturn, 1) := by decide +kernel
theorem dX6_calls_0 : decode cX6_calls 0 = .ok (.aload_n 0, 1) := by decide +kernel
theorem dX6_calls_1 : decode cX6_calls 1 = .ok (.iload_n 1, 1) := by decide +kernel
theorem dX6_calls_2 : decode cX6_calls 2 = .ok (.invokevirtual 82, 3) := by decide +kernel
theorem dX6_calls_5 : decode cX6_calls 5 = .ok (.astore_n 3, 1) := by decide +kernel
theorem dX6_calls_6 : decode cX6_calls 6 = .ok (.iload_n 2, 1) := by decide +kernel
theorem dX6_calls_7 : decode cX6_calls 7 = .ok (.iconst 4, 1) := by decide +kernel
theorem dX6_calls_8 : decode cX6_calls 8 = .ok (.invokestatic 46, 3) := by decide +kernel
theorem dX6_calls_11 : decode cX6_calls 11 = .ok (.ifCond .ne 13, 3) := by decide +kernel
theorem dX6_calls_14 : decode cX6_calls 14 = .ok (.new 50, 3) := by decide +kernel
theorem dX6_calls_17 : decode cX6_calls 17 = .ok (.dup, 1) := by decide +kernel
theorem dX6_calls_18 : decode cX6_calls 18 = .ok (.ldc 154, 2) := by decide +kernel
theorem dX6_calls_20 : decode cX6_calls 20 = .ok (.invokespecial 54, 3) := by decide +kernel
theorem dX6_calls_23 : decode cX6_calls 23 = .ok (.athrow, 1) := by decide +kernel
theorem dX6_calls_24 : decode cX6_calls 24 = .ok (.aload_n 3, 1) := by decide +kernel
theorem dX6_calls_25 : decode cX6_calls 25 = .ok (.getfield 156, 3) := by decide +kernel
theorem dX6_calls_28 : decode cX6_calls 28 = .ok (.iconst (-1), 1) := by decide +kernel
theorem dX6_calls_29 : decode cX6_calls 29 = .ok (.if_icmp .ne 11, 3) := by decide +kernel
theorem dX6_calls_32 : decode cX6_calls 32 = .ok (.aload_n 0, 1) := by decide +kernel
theorem dX6_calls_33 : decode cX6_calls 33 = .ok (.aload_n 3, 1) := by decide +kernel
theorem dX6_calls_34 : decode cX6_calls 34 = .ok (.invokevirtual 159, 3) := by decide +kernel
theorem dX6_calls_37 : decode cX6_calls 37 = .ok (.ifCond .eq 13, 3) := by decide +kernel
theorem dX6_calls_40 : decode cX6_calls 40 = .ok (.new 41, 3) := by decide +kernel
theorem dX6_calls_43 : decode cX6_calls 43 = .ok (.dup, 1) := by decide +kernel
theorem dX6_calls_44 : decode cX6_calls 44 = .ok (.ldc 163, 2) := by decide +kernel
theorem dX6_calls_46 : decode cX6_calls 46 = .ok (.invokespecial 45, 3) := by decide +kernel
theorem dX6_calls_49 : decode cX6_calls 49 = .ok (.athrow, 1) := by decide +kernel
theorem dX6_calls_50 : decode cX6_calls 50 = .ok (.aload_n 3, 1) := by decide +kernel
theorem dX6_calls_51 : decode cX6_calls 51 = .ok (.iload_n 2, 1) := by decide +kernel
theorem dX6_calls_52 : decode cX6_calls 52 = .ok (.putfield 156, 3) := by decide +kernel
theorem dX6_calls_55 : decode cX6_calls 55 = .ok (.aload_n 0, 1) := by decide +kernel
theorem dX6_calls_56 : decode cX6_calls 56 = .ok (.aload_n 3, 1) := by decide +kernel
theorem dX6_calls_57 : decode cX6_calls 57 = .ok (.invokevirtual 165, 3) := by decide +kernel
theorem dX6_calls_60 : decode cX6_calls 60 = .ok (.ireturn, 1) := by decide +kernel
theorem dX6_leaves_0 : decode cX6_leaves 0 = .ok (.aload_n 0, 1) := by decide +kernel
theorem dX6_leaves_1 : decode cX6_leaves 1 = .ok (.iload_n 1, 1) := by decide +kernel
theorem dX6_leaves_2 : decode cX6_leaves 2 = .ok (.invokevirtual 82, 3) := by decide +kernel
theorem dX6_leaves_5 : decode cX6_leaves 5 = .ok (.astore_n 2, 1) := by decide +kernel
theorem dX6_leaves_6 : decode cX6_leaves 6 = .ok (.aload_n 2, 1) := by decide +kernel
theorem dX6_leaves_7 : decode cX6_leaves 7 = .ok (.getfield 156, 3) := by decide +kernel
theorem dX6_leaves_10 : decode cX6_leaves 10 = .ok (.iconst (-1), 1) := by decide +kernel
theorem dX6_leaves_11 : decode cX6_leaves 11 = .ok (.if_icmp .eq 10, 3) := by decide +kernel
theorem dX6_leaves_14 : decode cX6_leaves 14 = .ok (.aload_n 2, 1) := by decide +kernel
theorem dX6_leaves_15 : decode cX6_leaves 15 = .ok (.getfield 168, 3) := by decide +kernel
theorem dX6_leaves_18 : decode cX6_leaves 18 = .ok (.ifnull 13, 3) := by decide +kernel
theorem dX6_leaves_21 : decode cX6_leaves 21 = .ok (.new 41, 3) := by decide +kernel
theorem dX6_leaves_24 : decode cX6_leaves 24 = .ok (.dup, 1) := by decide +kernel
theorem dX6_leaves_25 : decode cX6_leaves 25 = .ok (.ldc 172, 2) := by decide +kernel
theorem dX6_leaves_27 : decode cX6_leaves 27 = .ok (.invokespecial 45, 3) := by decide +kernel
theorem dX6_leaves_30 : decode cX6_leaves 30 = .ok (.athrow, 1) := by decide +kernel
theorem dX6_leaves_31 : decode cX6_leaves 31 = .ok (.aload_n 2, 1) := by decide +kernel
theorem dX6_leaves_32 : decode cX6_leaves 32 = .ok (.getfield 174, 3) := by decide +kernel
theorem dX6_leaves_35 : decode cX6_leaves 35 = .ok (.ifnonnull 16, 3) := by decide +kernel
theorem dX6_leaves_38 : decode cX6_leaves 38 = .ok (.aload_n 0, 1) := by decide +kernel
theorem dX6_leaves_39 : decode cX6_leaves 39 = .ok (.aload_n 2, 1) := by decide +kernel
theorem dX6_leaves_40 : decode cX6_leaves 40 = .ok (.invokevirtual 165, 3) := by decide +kernel
theorem dX6_leaves_43 : decode cX6_leaves 43 = .ok (.iconst 2, 1) := by decide +kernel
theorem dX6_leaves_44 : decode cX6_leaves 44 = .ok (.if_icmp .ne 7, 3) := by decide +kernel
theorem dX6_leaves_47 : decode cX6_leaves 47 = .ok (.iconst 1, 1) := by decide +kernel
theorem dX6_leaves_48 : decode cX6_leaves 48 = .ok (.goto 4, 3) := by decide +kernel
theorem dX6_leaves_51 : decode cX6_leaves 51 = .ok (.iconst 0, 1) := by decide +kernel
theorem dX6_leaves_52 : decode cX6_leaves 52 = .ok (.istore_n 3, 1) := by decide +kernel
theorem dX6_leaves_53 : decode cX6_leaves 53 = .ok (.iload_n 3, 1) := by decide +kernel
theorem dX6_leaves_54 : decode cX6_leaves 54 = .ok (.ifCond .eq 31, 3) := by decide +kernel
theorem dX6_leaves_57 : decode cX6_leaves 57 = .ok (.aload_n 2, 1) := by decide +kernel
theorem dX6_leaves_58 : decode cX6_leaves 58 = .ok (.getfield 156, 3) := by decide +kernel
theorem dX6_leaves_61 : decode cX6_leaves 61 = .ok (.aload_n 0, 1) := by decide +kernel
theorem dX6_leaves_62 : decode cX6_leaves 62 = .ok (.getfield 26, 3) := by decide +kernel
theorem dX6_leaves_65 : decode cX6_leaves 65 = .ok (.arraylength, 1) := by decide +kernel
theorem dX6_leaves_66 : decode cX6_leaves 66 = .ok (.invokestatic 46, 3) := by decide +kernel
theorem dX6_leaves_69 : decode cX6_leaves 69 = .ok (.ifCond .eq 16, 3) := by decide +kernel
theorem dX6_leaves_72 : decode cX6_leaves 72 = .ok (.aload_n 0, 1) := by decide +kernel
theorem dX6_leaves_73 : decode cX6_leaves 73 = .ok (.getfield 26, 3) := by decide +kernel
theorem dX6_leaves_76 : decode cX6_leaves 76 = .ok (.aload_n 2, 1) := by decide +kernel
theorem dX6_leaves_77 : decode cX6_leaves 77 = .ok (.getfield 156, 3) := by decide +kernel
theorem dX6_leaves_80 : decode cX6_leaves 80 = .ok (.dup2, 1) := by decide +kernel
theorem dX6_leaves_81 : decode cX6_leaves 81 = .ok (.iaload, 1) := by decide +kernel
theorem dX6_leaves_82 : decode cX6_leaves 82 = .ok (.iconst 1, 1) := by decide +kernel
theorem dX6_leaves_83 : decode cX6_leaves 83 = .ok (.iadd, 1) := by decide +kernel
theorem dX6_leaves_84 : decode cX6_leaves 84 = .ok (.iastore, 1) := by decide +kernel
theorem dX6_leaves_85 : decode cX6_leaves 85 = .ok (.aload_n 2, 1) := by decide +kernel
theorem dX6_leaves_86 : decode cX6_leaves 86 = .ok (.iconst (-1), 1) := by decide +kernel
theorem dX6_leaves_87 : decode cX6_leaves 87 = .ok (.putfield 156, 3) := by decide +kernel
theorem dX6_leaves_90 : decode cX6_leaves 90 = .ok (.aload_n 2, 1) := by decide +kernel
theorem dX6_leaves_91 : decode cX6_leaves 91 = .ok (.aconst_null, 1) := by decide +kernel
theorem dX6_leaves_92 : decode cX6_leaves 92 = .ok (.putfield 174, 3) := by decide +kernel
theorem dX6_leaves_95 : decode cX6_leaves 95 = .ok (.iload_n 3, 1) := by decide +kernel
theorem dX6_leaves_96 : decode cX6_leaves 96 = .ok (.ireturn, 1) := by decide +kernel
theorem dX6_visit_0 : decode cX6_visit 0 = .ok (.aload_n 0, 1) := by decide +kernel
theorem dX6_visit_1 : decode cX6_visit 1 = .ok (.iload_n 1, 1) := by decide +kernel
theorem dX6_visit_2 : decode cX6_visit 2 = .ok (.invokevirtual 82, 3) := by decide +kernel
theorem dX6_visit_5 : decode cX6_visit 5 = .ok (.astore_n 2, 1) := by decide +kernel
theorem dX6_visit_6 : decode cX6_visit 6 = .ok (.aload_n 2, 1) := by decide +kernel
theorem dX6_visit_7 : decode cX6_visit 7 = .ok (.getfield 156, 3) := by decide +kernel
theorem dX6_visit_10 : decode cX6_visit 10 = .ok (.iconst (-1), 1) := by decide +kernel
theorem dX6_visit_11 : decode cX6_visit 11 = .ok (.if_icmp .eq 22, 3) := by decide +kernel
theorem dX6_visit_14 : decode cX6_visit 14 = .ok (.aload_n 2, 1) := by decide +kernel
theorem dX6_visit_15 : decode cX6_visit 15 = .ok (.getfield 174, 3) := by decide +kernel
theorem dX6_visit_18 : decode cX6_visit 18 = .ok (.ifnonnull 15, 3) := by decide +kernel
theorem dX6_visit_21 : decode cX6_visit 21 = .ok (.aload_n 0, 1) := by decide +kernel
theorem dX6_visit_22 : decode cX6_visit 22 = .ok (.getfield 19, 3) := by decide +kernel
theorem dX6_visit_25 : decode cX6_visit 25 = .ok (.invokevirtual 58, 3) := by decide +kernel
theorem dX6_visit_28 : decode cX6_visit 28 = .ok (.bipush 60, 2) := by decide +kernel
theorem dX6_visit_30 : decode cX6_visit 30 = .ok (.if_icmp .lt 13, 3) := by decide +kernel
theorem dX6_visit_33 : decode cX6_visit 33 = .ok (.new 41, 3) := by decide +kernel
theorem dX6_visit_36 : decode cX6_visit 36 = .ok (.dup, 1) := by decide +kernel
theorem dX6_visit_37 : decode cX6_visit 37 = .ok (.ldc 177, 2) := by decide +kernel
theorem dX6_visit_39 : decode cX6_visit 39 = .ok (.invokespecial 45, 3) := by decide +kernel
theorem dX6_visit_42 : decode cX6_visit 42 = .ok (.athrow, 1) := by decide +kernel
theorem dX6_visit_43 : decode cX6_visit 43 = .ok (.new 179, 3) := by decide +kernel
theorem dX6_visit_46 : decode cX6_visit 46 = .ok (.dup, 1) := by decide +kernel
theorem dX6_visit_47 : decode cX6_visit 47 = .ok (.aload_n 2, 1) := by decide +kernel
theorem dX6_visit_48 : decode cX6_visit 48 = .ok (.aload_n 0, 1) := by decide +kernel
theorem dX6_visit_49 : decode cX6_visit 49 = .ok (.getfield 19, 3) := by decide +kernel
theorem dX6_visit_52 : decode cX6_visit 52 = .ok (.invokevirtual 58, 3) := by decide +kernel
theorem dX6_visit_55 : decode cX6_visit 55 = .ok (.aload_n 0, 1) := by decide +kernel
theorem dX6_visit_56 : decode cX6_visit 56 = .ok (.getfield 30, 3) := by decide +kernel
theorem dX6_visit_59 : decode cX6_visit 59 = .ok (.aload_n 0, 1) := by decide +kernel
theorem dX6_visit_60 : decode cX6_visit 60 = .ok (.aload_n 2, 1) := by decide +kernel
theorem dX6_visit_61 : decode cX6_visit 61 = .ok (.invokevirtual 181, 3) := by decide +kernel
theorem dX6_visit_64 : decode cX6_visit 64 = .ok (.invokespecial 184, 3) := by decide +kernel
theorem dX6_visit_67 : decode cX6_visit 67 = .ok (.astore_n 3, 1) := by decide +kernel
theorem dX6_visit_68 : decode cX6_visit 68 = .ok (.aload_n 0, 1) := by decide +kernel
theorem dX6_visit_69 : decode cX6_visit 69 = .ok (.getfield 19, 3) := by decide +kernel
theorem dX6_visit_72 : decode cX6_visit 72 = .ok (.aload_n 3, 1) := by decide +kernel
theorem dX6_visit_73 : decode cX6_visit 73 = .ok (.invokevirtual 75, 3) := by decide +kernel
theorem dX6_visit_76 : decode cX6_visit 76 = .ok (.pop, 1) := by decide +kernel
theorem dX6_visit_77 : decode cX6_visit 77 = .ok (.aload_n 2, 1) := by decide +kernel
theorem dX6_visit_78 : decode cX6_visit 78 = .ok (.aload_n 3, 1) := by decide +kernel
theorem dX6_visit_79 : decode cX6_visit 79 = .ok (.putfield 174, 3) := by decide +kernel
theorem dX6_visit_82 : decode cX6_visit 82 = .ok (.aload_n 2, 1) := by decide +kernel
theorem dX6_visit_83 : decode cX6_visit 83 = .ok (.aload_n 3, 1) := by decide +kernel
theorem dX6_visit_84 : decode cX6_visit 84 = .ok (.putfield 187, 3) := by decide +kernel
theorem dX6_visit_87 : decode cX6_visit 87 = .ok (.aload_n 2, 1) := by decide +kernel
theorem dX6_visit_88 : decode cX6_visit 88 = .ok (.iconst 2, 1) := by decide +kernel
theorem dX6_visit_89 : decode cX6_visit 89 = .ok (.aload_n 3, 1) := by decide +kernel
theorem dX6_visit_90 : decode cX6_visit 90 = .ok (.getfield 190, 3) := by decide +kernel
theorem dX6_visit_93 : decode cX6_visit 93 = .ok (.aload_n 0, 1) := by decide +kernel
theorem dX6_visit_94 : decode cX6_visit 94 = .ok (.getfield 30, 3) := by decide +kernel
theorem dX6_visit_97 : decode cX6_visit 97 = .ok (.iconst (-1), 1) := by decide +kernel
theorem dX6_visit_98 : decode cX6_visit 98 = .ok (.invokevirtual 71, 3) := by decide +kernel
theorem dX6_visit_101 : decode cX6_visit 101 = .ok (.aload_n 3, 1) := by decide +kernel
theorem dX6_visit_102 : decode cX6_visit 102 = .ok (.getfield 190, 3) := by decide +kernel
theorem dX6_visit_105 : decode cX6_visit 105 = .ok (.ireturn, 1) := by decide +kernel
theorem dX6_finds_0 : decode cX6_finds 0 = .ok (.aload_n 0, 1) := by decide +kernel
theorem dX6_finds_1 : decode cX6_finds 1 = .ok (.iload_n 1, 1) := by decide +kernel
theorem dX6_finds_2 : decode cX6_finds 2 = .ok (.invokevirtual 191, 3) := by decide +kernel
theorem dX6_finds_5 : decode cX6_finds 5 = .ok (.astore 4, 2) := by decide +kernel
theorem dX6_finds_7 : decode cX6_finds 7 = .ok (.iload_n 2, 1) := by decide +kernel
theorem dX6_finds_8 : decode cX6_finds 8 = .ok (.bipush 10, 2) := by decide +kernel
theorem dX6_finds_10 : decode cX6_finds 10 = .ok (.invokestatic 46, 3) := by decide +kernel
theorem dX6_finds_13 : decode cX6_finds 13 = .ok (.ifCond .eq 14, 3) := by decide +kernel
theorem dX6_finds_16 : decode cX6_finds 16 = .ok (.iload_n 3, 1) := by decide +kernel
theorem dX6_finds_17 : decode cX6_finds 17 = .ok (.iconst 1, 1) := by decide +kernel
theorem dX6_finds_18 : decode cX6_finds 18 = .ok (.if_icmp .lt 9, 3) := by decide +kernel
theorem dX6_finds_21 : decode cX6_finds 21 = .ok (.iload_n 3, 1) := by decide +kernel
theorem dX6_finds_22 : decode cX6_finds 22 = .ok (.bipush 10, 2) := by decide +kernel
theorem dX6_finds_24 : decode cX6_finds 24 = .ok (.if_icmp .le 13, 3) := by decide +kernel
theorem dX6_finds_27 : decode cX6_finds 27 = .ok (.new 34, 3) := by decide +kernel
theorem dX6_finds_30 : decode cX6_finds 30 = .ok (.dup, 1) := by decide +kernel
theorem dX6_finds_31 : decode cX6_finds 31 = .ok (.ldc 195, 2) := by decide +kernel
theorem dX6_finds_33 : decode cX6_finds 33 = .ok (.invokespecial 38, 3) := by decide +kernel
theorem dX6_finds_36 : decode cX6_finds 36 = .ok (.athrow, 1) := by decide +kernel
theorem dX6_finds_37 : decode cX6_finds 37 = .ok (.aload 4, 2) := by decide +kernel
theorem dX6_finds_39 : decode cX6_finds 39 = .ok (.invokestatic 197, 3) := by decide +kernel
theorem dX6_finds_42 : decode cX6_finds 42 = .ok (.ifCond .ne 29, 3) := by decide +kernel
theorem dX6_finds_45 : decode cX6_finds 45 = .ok (.aload_n 0, 1) := by decide +kernel
theorem dX6_finds_46 : decode cX6_finds 46 = .ok (.aload 4, 2) := by decide +kernel
theorem dX6_finds_48 : decode cX6_finds 48 = .ok (.getfield 201, 3) := by decide +kernel
theorem dX6_finds_51 : decode cX6_finds 51 = .ok (.iload_n 2, 1) := by decide +kernel
theorem dX6_finds_52 : decode cX6_finds 52 = .ok (.invokevirtual 205, 3) := by decide +kernel
theorem dX6_finds_55 : decode cX6_finds 55 = .ok (.ifCond .eq 16, 3) := by decide +kernel
theorem dX6_finds_58 : decode cX6_finds 58 = .ok (.aload 4, 2) := by decide +kernel
theorem dX6_finds_60 : decode cX6_finds 60 = .ok (.getfield 209, 3) := by decide +kernel
theorem dX6_finds_63 : decode cX6_finds 63 = .ok (.invokevirtual 58, 3) := by decide +kernel
theorem dX6_finds_66 : decode cX6_finds 66 = .ok (.bipush 12, 2) := by decide +kernel
theorem dX6_finds_68 : decode cX6_finds 68 = .ok (.if_icmp .lt 13, 3) := by decide +kernel
theorem dX6_finds_71 : decode cX6_finds 71 = .ok (.new 41, 3) := by decide +kernel
theorem dX6_finds_74 : decode cX6_finds 74 = .ok (.dup, 1) := by decide +kernel
theorem dX6_finds_75 : decode cX6_finds 75 = .ok (.ldc 212, 2) := by decide +kernel
theorem dX6_finds_77 : decode cX6_finds 77 = .ok (.invokespecial 45, 3) := by decide +kernel
theorem dX6_finds_80 : decode cX6_finds 80 = .ok (.athrow, 1) := by decide +kernel
theorem dX6_finds_81 : decode cX6_finds 81 = .ok (.aload 4, 2) := by decide +kernel
theorem dX6_finds_83 : decode cX6_finds 83 = .ok (.getfield 209, 3) := by decide +kernel
theorem dX6_finds_86 : decode cX6_finds 86 = .ok (.new 214, 3) := by decide +kernel
theorem dX6_finds_89 : decode cX6_finds 89 = .ok (.dup, 1) := by decide +kernel
theorem dX6_finds_90 : decode cX6_finds 90 = .ok (.iload_n 3, 1) := by decide +kernel
theorem dX6_finds_91 : decode cX6_finds 91 = .ok (.invokespecial 216, 3) := by decide +kernel
theorem dX6_finds_94 : decode cX6_finds 94 = .ok (.invokevirtual 75, 3) := by decide +kernel
theorem dX6_finds_97 : decode cX6_finds 97 = .ok (.pop, 1) := by decide +kernel
theorem dX6_finds_98 : decode cX6_finds 98 = .ok (.aload 4, 2) := by decide +kernel
theorem dX6_finds_100 : decode cX6_finds 100 = .ok (.getfield 219, 3) := by decide +kernel
theorem dX6_finds_103 : decode cX6_finds 103 = .ok (.ifCond .ne 21, 3) := by decide +kernel
theorem dX6_finds_106 : decode cX6_finds 106 = .ok (.aload 4, 2) := by decide +kernel
theorem dX6_finds_108 : decode cX6_finds 108 = .ok (.getfield 209, 3) := by decide +kernel
theorem dX6_finds_111 : decode cX6_finds 111 = .ok (.invokevirtual 58, 3) := by decide +kernel
theorem dX6_finds_114 : decode cX6_finds 114 = .ok (.iconst 3, 1) := by decide +kernel
theorem dX6_finds_115 : decode cX6_finds 115 = .ok (.if_icmp .lt 9, 3) := by decide +kernel
theorem dX6_finds_118 : decode cX6_finds 118 = .ok (.aload 4, 2) := by decide +kernel
theorem dX6_finds_120 : decode cX6_finds 120 = .ok (.iconst 1, 1) := by decide +kernel
theorem dX6_finds_121 : decode cX6_finds 121 = .ok (.putfield 219, 3) := by decide +kernel
theorem dX6_finds_124 : decode cX6_finds 124 = .ok (.aload 4, 2) := by decide +kernel
theorem dX6_finds_126 : decode cX6_finds 126 = .ok (.getfield 201, 3) := by decide +kernel
theorem dX6_finds_129 : decode cX6_finds 129 = .ok (.iconst 3, 1) := by decide +kernel
theorem dX6_finds_130 : decode cX6_finds 130 = .ok (.aload 4, 2) := by decide +kernel
theorem dX6_finds_132 : decode cX6_finds 132 = .ok (.getfield 190, 3) := by decide +kernel
theorem dX6_finds_135 : decode cX6_finds 135 = .ok (.iload_n 2, 1) := by decide +kernel
theorem dX6_finds_136 : decode cX6_finds 136 = .ok (.iload_n 3, 1) := by decide +kernel
theorem dX6_finds_137 : decode cX6_finds 137 = .ok (.invokevirtual 71, 3) := by decide +kernel
theorem dX6_finds_140 : decode cX6_finds 140 = .ok (.aload 4, 2) := by decide +kernel
theorem dX6_finds_142 : decode cX6_finds 142 = .ok (.getfield 209, 3) := by decide +kernel
theorem dX6_finds_145 : decode cX6_finds 145 = .ok (.invokevirtual 58, 3) := by decide +kernel
theorem dX6_finds_148 : decode cX6_finds 148 = .ok (.iconst 1, 1) := by decide +kernel
theorem dX6_finds_149 : decode cX6_finds 149 = .ok (.isub, 1) := by decide +kernel
theorem dX6_finds_150 : decode cX6_finds 150 = .ok (.ireturn, 1) := by decide +kernel
theorem dX6_mends_0 : decode cX6_mends 0 = .ok (.aload_n 0, 1) := by decide +kernel
theorem dX6_mends_1 : decode cX6_mends 1 = .ok (.iload_n 1, 1) := by decide +kernel
theorem dX6_mends_2 : decode cX6_mends 2 = .ok (.invokevirtual 191, 3) := by decide +kernel
theorem dX6_mends_5 : decode cX6_mends 5 = .ok (.astore 4, 2) := by decide +kernel
theorem dX6_mends_7 : decode cX6_mends 7 = .ok (.iload_n 2, 1) := by decide +kernel
theorem dX6_mends_8 : decode cX6_mends 8 = .ok (.aload 4, 2) := by decide +kernel
theorem dX6_mends_10 : decode cX6_mends 10 = .ok (.getfield 209, 3) := by decide +kernel
theorem dX6_mends_13 : decode cX6_mends 13 = .ok (.invokevirtual 58, 3) := by decide +kernel
theorem dX6_mends_16 : decode cX6_mends 16 = .ok (.invokestatic 46, 3) := by decide +kernel
theorem dX6_mends_19 : decode cX6_mends 19 = .ok (.ifCond .ne 13, 3) := by decide +kernel
theorem dX6_mends_22 : decode cX6_mends 22 = .ok (.new 50, 3) := by decide +kernel
theorem dX6_mends_25 : decode cX6_mends 25 = .ok (.dup, 1) := by decide +kernel
theorem dX6_mends_26 : decode cX6_mends 26 = .ok (.ldc 222, 2) := by decide +kernel
theorem dX6_mends_28 : decode cX6_mends 28 = .ok (.invokespecial 54, 3) := by decide +kernel
theorem dX6_mends_31 : decode cX6_mends 31 = .ok (.athrow, 1) := by decide +kernel
theorem dX6_mends_32 : decode cX6_mends 32 = .ok (.aload 4, 2) := by decide +kernel
theorem dX6_mends_34 : decode cX6_mends 34 = .ok (.getfield 209, 3) := by decide +kernel
theorem dX6_mends_37 : decode cX6_mends 37 = .ok (.iload_n 2, 1) := by decide +kernel
theorem dX6_mends_38 : decode cX6_mends 38 = .ok (.invokevirtual 224, 3) := by decide +kernel
theorem dX6_mends_41 : decode cX6_mends 41 = .ok (.checkcast 214, 3) := by decide +kernel
theorem dX6_mends_44 : decode cX6_mends 44 = .ok (.astore 5, 2) := by decide +kernel
theorem dX6_mends_46 : decode cX6_mends 46 = .ok (.aload 5, 2) := by decide +kernel
theorem dX6_mends_48 : decode cX6_mends 48 = .ok (.getfield 228, 3) := by decide +kernel
theorem dX6_mends_51 : decode cX6_mends 51 = .ok (.ifCond .eq 13, 3) := by decide +kernel
theorem dX6_mends_54 : decode cX6_mends 54 = .ok (.new 41, 3) := by decide +kernel
theorem dX6_mends_57 : decode cX6_mends 57 = .ok (.dup, 1) := by decide +kernel
theorem dX6_mends_58 : decode cX6_mends 58 = .ok (.ldc 232, 2) := by decide +kernel
theorem dX6_mends_60 : decode cX6_mends 60 = .ok (.invokespecial 45, 3) := by decide +kernel
theorem dX6_mends_63 : decode cX6_mends 63 = .ok (.athrow, 1) := by decide +kernel
theorem dX6_mends_64 : decode cX6_mends 64 = .ok (.iload_n 3, 1) := by decide +kernel
theorem dX6_mends_65 : decode cX6_mends 65 = .ok (.ifCond .eq 39, 3) := by decide +kernel
theorem dX6_mends_68 : decode cX6_mends 68 = .ok (.aload 5, 2) := by decide +kernel
theorem dX6_mends_70 : decode cX6_mends 70 = .ok (.getfield 234, 3) := by decide +kernel
theorem dX6_mends_73 : decode cX6_mends 73 = .ok (.ifCond .ne 21, 3) := by decide +kernel
theorem dX6_mends_76 : decode cX6_mends 76 = .ok (.aload 5, 2) := by decide +kernel
theorem dX6_mends_78 : decode cX6_mends 78 = .ok (.getfield 237, 3) := by decide +kernel
theorem dX6_mends_81 : decode cX6_mends 81 = .ok (.bipush 8, 2) := by decide +kernel
theorem dX6_mends_83 : decode cX6_mends 83 = .ok (.if_icmp .ge 11, 3) := by decide +kernel
theorem dX6_mends_86 : decode cX6_mends 86 = .ok (.aload 4, 2) := by decide +kernel
theorem dX6_mends_88 : decode cX6_mends 88 = .ok (.invokestatic 197, 3) := by decide +kernel
theorem dX6_mends_91 : decode cX6_mends 91 = .ok (.ifCond .eq 13, 3) := by decide +kernel
theorem dX6_mends_94 : decode cX6_mends 94 = .ok (.new 41, 3) := by decide +kernel
theorem dX6_mends_97 : decode cX6_mends 97 = .ok (.dup, 1) := by decide +kernel
theorem dX6_mends_98 : decode cX6_mends 98 = .ok (.ldc 240, 2) := by decide +kernel
theorem dX6_mends_100 : decode cX6_mends 100 = .ok (.invokespecial 45, 3) := by decide +kernel
theorem dX6_mends_103 : decode cX6_mends 103 = .ok (.athrow, 1) := by decide +kernel
theorem dX6_mends_104 : decode cX6_mends 104 = .ok (.iload_n 3, 1) := by decide +kernel
theorem dX6_mends_105 : decode cX6_mends 105 = .ok (.ifCond .eq 12, 3) := by decide +kernel
theorem dX6_mends_108 : decode cX6_mends 108 = .ok (.aload 5, 2) := by decide +kernel
theorem dX6_mends_110 : decode cX6_mends 110 = .ok (.iconst 1, 1) := by decide +kernel
theorem dX6_mends_111 : decode cX6_mends 111 = .ok (.putfield 234, 3) := by decide +kernel
theorem dX6_mends_114 : decode cX6_mends 114 = .ok (.goto 9, 3) := by decide +kernel
theorem dX6_mends_117 : decode cX6_mends 117 = .ok (.aload 5, 2) := by decide +kernel
theorem dX6_mends_119 : decode cX6_mends 119 = .ok (.iconst 1, 1) := by decide +kernel
theorem dX6_mends_120 : decode cX6_mends 120 = .ok (.putfield 228, 3) := by decide +kernel
theorem dX6_mends_123 : decode cX6_mends 123 = .ok (.aload 4, 2) := by decide +kernel
theorem dX6_mends_125 : decode cX6_mends 125 = .ok (.invokevirtual 242, 3) := by decide +kernel
theorem dX6_mends_128 : decode cX6_mends 128 = .ok (.ireturn, 1) := by decide +kernel
theorem dX6_detain_0 : decode cX6_detain 0 = .ok (.aload_n 0, 1) := by decide +kernel
theorem dX6_detain_1 : decode cX6_detain 1 = .ok (.iload_n 1, 1) := by decide +kernel
theorem dX6_detain_2 : decode cX6_detain 2 = .ok (.invokevirtual 191, 3) := by decide +kernel
theorem dX6_detain_5 : decode cX6_detain 5 = .ok (.astore_n 2, 1) := by decide +kernel
theorem dX6_detain_6 : decode cX6_detain 6 = .ok (.aload_n 2, 1) := by decide +kernel
theorem dX6_detain_7 : decode cX6_detain 7 = .ok (.invokestatic 197, 3) := by decide +kernel
theorem dX6_detain_10 : decode cX6_detain 10 = .ok (.ifCond .ne 18, 3) := by decide +kernel
theorem dX6_detain_13 : decode cX6_detain 13 = .ok (.aload_n 2, 1) := by decide +kernel
theorem dX6_detain_14 : decode cX6_detain 14 = .ok (.invokevirtual 245, 3) := by decide +kernel
theorem dX6_detain_17 : decode cX6_detain 17 = .ok (.ifCond .ne 11, 3) := by decide +kernel
theorem dX6_detain_20 : decode cX6_detain 20 = .ok (.aload_n 0, 1) := by decide +kernel
theorem dX6_detain_21 : decode cX6_detain 21 = .ok (.aload_n 2, 1) := by decide +kernel
theorem dX6_detain_22 : decode cX6_detain 22 = .ok (.invokevirtual 249, 3) := by decide +kernel
theorem dX6_detain_25 : decode cX6_detain 25 = .ok (.ifCond .ne 13, 3) := by decide +kernel
theorem dX6_detain_28 : decode cX6_detain 28 = .ok (.new 41, 3) := by decide +kernel
theorem dX6_detain_31 : decode cX6_detain 31 = .ok (.dup, 1) := by decide +kernel
theorem dX6_detain_32 : decode cX6_detain 32 = .ok (.ldc 252, 2) := by decide +kernel
theorem dX6_detain_34 : decode cX6_detain 34 = .ok (.invokespecial 45, 3) := by decide +kernel
theorem dX6_detain_37 : decode cX6_detain 37 = .ok (.athrow, 1) := by decide +kernel
theorem dX6_detain_38 : decode cX6_detain 38 = .ok (.aload_n 2, 1) := by decide +kernel
theorem dX6_detain_39 : decode cX6_detain 39 = .ok (.aload_n 0, 1) := by decide +kernel
theorem dX6_detain_40 : decode cX6_detain 40 = .ok (.getfield 30, 3) := by decide +kernel
theorem dX6_detain_43 : decode cX6_detain 43 = .ok (.putfield 254, 3) := by decide +kernel
theorem dX6_detain_46 : decode cX6_detain 46 = .ok (.aload_n 2, 1) := by decide +kernel
theorem dX6_detain_47 : decode cX6_detain 47 = .ok (.getfield 201, 3) := by decide +kernel
theorem dX6_detain_50 : decode cX6_detain 50 = .ok (.aload_n 2, 1) := by decide +kernel
theorem dX6_detain_51 : decode cX6_detain 51 = .ok (.putfield 168, 3) := by decide +kernel
theorem dX6_detain_54 : decode cX6_detain 54 = .ok (.aload_n 2, 1) := by decide +kernel
theorem dX6_detain_55 : decode cX6_detain 55 = .ok (.getfield 201, 3) := by decide +kernel
theorem dX6_detain_58 : decode cX6_detain 58 = .ok (.iconst 4, 1) := by decide +kernel
theorem dX6_detain_59 : decode cX6_detain 59 = .ok (.aload_n 2, 1) := by decide +kernel
theorem dX6_detain_60 : decode cX6_detain 60 = .ok (.getfield 190, 3) := by decide +kernel
theorem dX6_detain_63 : decode cX6_detain 63 = .ok (.aload_n 0, 1) := by decide +kernel
theorem dX6_detain_64 : decode cX6_detain 64 = .ok (.getfield 30, 3) := by decide +kernel
theorem dX6_detain_67 : decode cX6_detain 67 = .ok (.iconst (-1), 1) := by decide +kernel
theorem dX6_detain_68 : decode cX6_detain 68 = .ok (.invokevirtual 71, 3) := by decide +kernel
theorem dX6_detain_71 : decode cX6_detain 71 = .ok (.aload_n 0, 1) := by decide +kernel
theorem dX6_detain_72 : decode cX6_detain 72 = .ok (.aload_n 2, 1) := by decide +kernel
theorem dX6_detain_73 : decode cX6_detain 73 = .ok (.getfield 201, 3) := by decide +kernel
theorem dX6_detain_76 : decode cX6_detain 76 = .ok (.invokevirtual 257, 3) := by decide +kernel
theorem dX6_detain_79 : decode cX6_detain 79 = .ok (.aload_n 0, 1) := by decide +kernel
theorem dX6_detain_80 : decode cX6_detain 80 = .ok (.aload_n 2, 1) := by decide +kernel
theorem dX6_detain_81 : decode cX6_detain 81 = .ok (.getfield 201, 3) := by decide +kernel
theorem dX6_detain_84 : decode cX6_detain 84 = .ok (.invokevirtual 261, 3) := by decide +kernel
theorem dX6_detain_87 : decode cX6_detain 87 = .ok (.ireturn, 1) := by decide +kernel
theorem dX6_release_0 : decode cX6_release 0 = .ok (.aload_n 0, 1) := by decide +kernel
theorem dX6_release_1 : decode cX6_release 1 = .ok (.iload_n 1, 1) := by decide +kernel
theorem dX6_release_2 : decode cX6_release 2 = .ok (.invokevirtual 82, 3) := by decide +kernel
theorem dX6_release_5 : decode cX6_release 5 = .ok (.astore_n 2, 1) := by decide +kernel
theorem dX6_release_6 : decode cX6_release 6 = .ok (.aload_n 2, 1) := by decide +kernel
theorem dX6_release_7 : decode cX6_release 7 = .ok (.getfield 168, 3) := by decide +kernel
theorem dX6_release_10 : decode cX6_release 10 = .ok (.astore_n 3, 1) := by decide +kernel
theorem dX6_release_11 : decode cX6_release 11 = .ok (.aload_n 3, 1) := by decide +kernel
theorem dX6_release_12 : decode cX6_release 12 = .ok (.ifnull 18, 3) := by decide +kernel
theorem dX6_release_15 : decode cX6_release 15 = .ok (.aload_n 3, 1) := by decide +kernel
theorem dX6_release_16 : decode cX6_release 16 = .ok (.invokevirtual 242, 3) := by decide +kernel
theorem dX6_release_19 : decode cX6_release 19 = .ok (.ifCond .gt 11, 3) := by decide +kernel
theorem dX6_release_22 : decode cX6_release 22 = .ok (.aload_n 0, 1) := by decide +kernel
theorem dX6_release_23 : decode cX6_release 23 = .ok (.aload_n 2, 1) := by decide +kernel
theorem dX6_release_24 : decode cX6_release 24 = .ok (.invokevirtual 120, 3) := by decide +kernel
theorem dX6_release_27 : decode cX6_release 27 = .ok (.ifCond .eq 14, 3) := by decide +kernel
theorem dX6_release_30 : decode cX6_release 30 = .ok (.new 41, 3) := by decide +kernel
theorem dX6_release_33 : decode cX6_release 33 = .ok (.dup, 1) := by decide +kernel
theorem dX6_release_34 : decode cX6_release 34 = .ok (.ldc_w 264, 3) := by decide +kernel
theorem dX6_release_37 : decode cX6_release 37 = .ok (.invokespecial 45, 3) := by decide +kernel
theorem dX6_release_40 : decode cX6_release 40 = .ok (.athrow, 1) := by decide +kernel
theorem dX6_release_41 : decode cX6_release 41 = .ok (.bipush 100, 2) := by decide +kernel
theorem dX6_release_43 : decode cX6_release 43 = .ok (.aload_n 0, 1) := by decide +kernel
theorem dX6_release_44 : decode cX6_release 44 = .ok (.getfield 30, 3) := by decide +kernel
theorem dX6_release_47 : decode cX6_release 47 = .ok (.aload_n 3, 1) := by decide +kernel
theorem dX6_release_48 : decode cX6_release 48 = .ok (.getfield 254, 3) := by decide +kernel
theorem dX6_release_51 : decode cX6_release 51 = .ok (.isub, 1) := by decide +kernel
theorem dX6_release_52 : decode cX6_release 52 = .ok (.imul, 1) := by decide +kernel
theorem dX6_release_53 : decode cX6_release 53 = .ok (.istore 4, 2) := by decide +kernel
theorem dX6_release_55 : decode cX6_release 55 = .ok (.aload_n 2, 1) := by decide +kernel
theorem dX6_release_56 : decode cX6_release 56 = .ok (.dup, 1) := by decide +kernel
theorem dX6_release_57 : decode cX6_release 57 = .ok (.getfield 266, 3) := by decide +kernel
theorem dX6_release_60 : decode cX6_release 60 = .ok (.iload 4, 2) := by decide +kernel
theorem dX6_release_62 : decode cX6_release 62 = .ok (.iadd, 1) := by decide +kernel
theorem dX6_release_63 : decode cX6_release 63 = .ok (.putfield 266, 3) := by decide +kernel
theorem dX6_release_66 : decode cX6_release 66 = .ok (.aload_n 2, 1) := by decide +kernel
theorem dX6_release_67 : decode cX6_release 67 = .ok (.aconst_null, 1) := by decide +kernel
theorem dX6_release_68 : decode cX6_release 68 = .ok (.putfield 168, 3) := by decide +kernel
theorem dX6_release_71 : decode cX6_release 71 = .ok (.aload_n 2, 1) := by decide +kernel
theorem dX6_release_72 : decode cX6_release 72 = .ok (.getfield 269, 3) := by decide +kernel
theorem dX6_release_75 : decode cX6_release 75 = .ok (.ifCond .eq 8, 3) := by decide +kernel
theorem dX6_release_78 : decode cX6_release 78 = .ok (.aload_n 0, 1) := by decide +kernel
theorem dX6_release_79 : decode cX6_release 79 = .ok (.aload_n 2, 1) := by decide +kernel
theorem dX6_release_80 : decode cX6_release 80 = .ok (.invokevirtual 272, 3) := by decide +kernel
theorem dX6_release_83 : decode cX6_release 83 = .ok (.iload 4, 2) := by decide +kernel
theorem dX6_release_85 : decode cX6_release 85 = .ok (.ireturn, 1) := by decide +kernel
theorem dX6_appeal_0 : decode cX6_appeal 0 = .ok (.aload_n 0, 1) := by decide +kernel
theorem dX6_appeal_1 : decode cX6_appeal 1 = .ok (.iload_n 1, 1) := by decide +kernel
theorem dX6_appeal_2 : decode cX6_appeal 2 = .ok (.invokevirtual 191, 3) := by decide +kernel
theorem dX6_appeal_5 : decode cX6_appeal 5 = .ok (.astore_n 2, 1) := by decide +kernel
theorem dX6_appeal_6 : decode cX6_appeal 6 = .ok (.aload_n 2, 1) := by decide +kernel
theorem dX6_appeal_7 : decode cX6_appeal 7 = .ok (.invokevirtual 245, 3) := by decide +kernel
theorem dX6_appeal_10 : decode cX6_appeal 10 = .ok (.ifCond .eq 24, 3) := by decide +kernel
theorem dX6_appeal_13 : decode cX6_appeal 13 = .ok (.aload_n 2, 1) := by decide +kernel
theorem dX6_appeal_14 : decode cX6_appeal 14 = .ok (.getfield 275, 3) := by decide +kernel
theorem dX6_appeal_17 : decode cX6_appeal 17 = .ok (.ifCond .ne 17, 3) := by decide +kernel
theorem dX6_appeal_20 : decode cX6_appeal 20 = .ok (.aload_n 0, 1) := by decide +kernel
theorem dX6_appeal_21 : decode cX6_appeal 21 = .ok (.getfield 30, 3) := by decide +kernel
theorem dX6_appeal_24 : decode cX6_appeal 24 = .ok (.aload_n 2, 1) := by decide +kernel
theorem dX6_appeal_25 : decode cX6_appeal 25 = .ok (.getfield 254, 3) := by decide +kernel
theorem dX6_appeal_28 : decode cX6_appeal 28 = .ok (.isub, 1) := by decide +kernel
theorem dX6_appeal_29 : decode cX6_appeal 29 = .ok (.bipush 30, 2) := by decide +kernel
theorem dX6_appeal_31 : decode cX6_appeal 31 = .ok (.if_icmp .le 14, 3) := by decide +kernel
theorem dX6_appeal_34 : decode cX6_appeal 34 = .ok (.new 41, 3) := by decide +kernel
theorem dX6_appeal_37 : decode cX6_appeal 37 = .ok (.dup, 1) := by decide +kernel
theorem dX6_appeal_38 : decode cX6_appeal 38 = .ok (.ldc_w 278, 3) := by decide +kernel
theorem dX6_appeal_41 : decode cX6_appeal 41 = .ok (.invokespecial 45, 3) := by decide +kernel
theorem dX6_appeal_44 : decode cX6_appeal 44 = .ok (.athrow, 1) := by decide +kernel
theorem dX6_appeal_45 : decode cX6_appeal 45 = .ok (.aload_n 2, 1) := by decide +kernel
theorem dX6_appeal_46 : decode cX6_appeal 46 = .ok (.iconst 1, 1) := by decide +kernel
theorem dX6_appeal_47 : decode cX6_appeal 47 = .ok (.putfield 275, 3) := by decide +kernel
theorem dX6_appeal_50 : decode cX6_appeal 50 = .ok (.return_, 1) := by decide +kernel
theorem dX6_vote_0 : decode cX6_vote 0 = .ok (.aload_n 0, 1) := by decide +kernel
theorem dX6_vote_1 : decode cX6_vote 1 = .ok (.iload_n 1, 1) := by decide +kernel
theorem dX6_vote_2 : decode cX6_vote 2 = .ok (.invokevirtual 191, 3) := by decide +kernel
theorem dX6_vote_5 : decode cX6_vote 5 = .ok (.astore_n 3, 1) := by decide +kernel
theorem dX6_vote_6 : decode cX6_vote 6 = .ok (.aload_n 3, 1) := by decide +kernel
theorem dX6_vote_7 : decode cX6_vote 7 = .ok (.getfield 275, 3) := by decide +kernel
theorem dX6_vote_10 : decode cX6_vote 10 = .ok (.ifCond .eq 10, 3) := by decide +kernel
theorem dX6_vote_13 : decode cX6_vote 13 = .ok (.aload_n 3, 1) := by decide +kernel
theorem dX6_vote_14 : decode cX6_vote 14 = .ok (.invokevirtual 280, 3) := by decide +kernel
theorem dX6_vote_17 : decode cX6_vote 17 = .ok (.ifCond .eq 14, 3) := by decide +kernel
theorem dX6_vote_20 : decode cX6_vote 20 = .ok (.new 41, 3) := by decide +kernel
theorem dX6_vote_23 : decode cX6_vote 23 = .ok (.dup, 1) := by decide +kernel
theorem dX6_vote_24 : decode cX6_vote 24 = .ok (.ldc_w 283, 3) := by decide +kernel
theorem dX6_vote_27 : decode cX6_vote 27 = .ok (.invokespecial 45, 3) := by decide +kernel
theorem dX6_vote_30 : decode cX6_vote 30 = .ok (.athrow, 1) := by decide +kernel
theorem dX6_vote_31 : decode cX6_vote 31 = .ok (.iload_n 2, 1) := by decide +kernel
theorem dX6_vote_32 : decode cX6_vote 32 = .ok (.ifCond .eq 16, 3) := by decide +kernel
theorem dX6_vote_35 : decode cX6_vote 35 = .ok (.aload_n 3, 1) := by decide +kernel
theorem dX6_vote_36 : decode cX6_vote 36 = .ok (.dup, 1) := by decide +kernel
theorem dX6_vote_37 : decode cX6_vote 37 = .ok (.getfield 285, 3) := by decide +kernel
theorem dX6_vote_40 : decode cX6_vote 40 = .ok (.iconst 1, 1) := by decide +kernel
theorem dX6_vote_41 : decode cX6_vote 41 = .ok (.iadd, 1) := by decide +kernel
theorem dX6_vote_42 : decode cX6_vote 42 = .ok (.putfield 285, 3) := by decide +kernel
theorem dX6_vote_45 : decode cX6_vote 45 = .ok (.goto 13, 3) := by decide +kernel
theorem dX6_vote_48 : decode cX6_vote 48 = .ok (.aload_n 3, 1) := by decide +kernel
theorem dX6_vote_49 : decode cX6_vote 49 = .ok (.dup, 1) := by decide +kernel
theorem dX6_vote_50 : decode cX6_vote 50 = .ok (.getfield 288, 3) := by decide +kernel
theorem dX6_vote_53 : decode cX6_vote 53 = .ok (.iconst 1, 1) := by decide +kernel
theorem dX6_vote_54 : decode cX6_vote 54 = .ok (.iadd, 1) := by decide +kernel
theorem dX6_vote_55 : decode cX6_vote 55 = .ok (.putfield 288, 3) := by decide +kernel
theorem dX6_vote_58 : decode cX6_vote 58 = .ok (.aload_n 3, 1) := by decide +kernel
theorem dX6_vote_59 : decode cX6_vote 59 = .ok (.getfield 201, 3) := by decide +kernel
theorem dX6_vote_62 : decode cX6_vote 62 = .ok (.iload_n 2, 1) := by decide +kernel
theorem dX6_vote_63 : decode cX6_vote 63 = .ok (.ifCond .eq 7, 3) := by decide +kernel
theorem dX6_vote_66 : decode cX6_vote 66 = .ok (.iconst 5, 1) := by decide +kernel
theorem dX6_vote_67 : decode cX6_vote 67 = .ok (.goto 5, 3) := by decide +kernel
theorem dX6_vote_70 : decode cX6_vote 70 = .ok (.bipush 6, 2) := by decide +kernel
theorem dX6_vote_72 : decode cX6_vote 72 = .ok (.aload_n 3, 1) := by decide +kernel
theorem dX6_vote_73 : decode cX6_vote 73 = .ok (.getfield 190, 3) := by decide +kernel
theorem dX6_vote_76 : decode cX6_vote 76 = .ok (.iconst (-1), 1) := by decide +kernel
theorem dX6_vote_77 : decode cX6_vote 77 = .ok (.iconst (-1), 1) := by decide +kernel
theorem dX6_vote_78 : decode cX6_vote 78 = .ok (.invokevirtual 71, 3) := by decide +kernel
theorem dX6_vote_81 : decode cX6_vote 81 = .ok (.aload_n 3, 1) := by decide +kernel
theorem dX6_vote_82 : decode cX6_vote 82 = .ok (.invokevirtual 280, 3) := by decide +kernel
theorem dX6_vote_85 : decode cX6_vote 85 = .ok (.ireturn, 1) := by decide +kernel
theorem dX6_ofShip_0 : decode cX6_ofShip 0 = .ok (.aload_n 0, 1) := by decide +kernel
theorem dX6_ofShip_1 : decode cX6_ofShip 1 = .ok (.iload_n 1, 1) := by decide +kernel
theorem dX6_ofShip_2 : decode cX6_ofShip 2 = .ok (.invokevirtual 82, 3) := by decide +kernel
theorem dX6_ofShip_5 : decode cX6_ofShip 5 = .ok (.astore_n 3, 1) := by decide +kernel
theorem dX6_ofShip_6 : decode cX6_ofShip 6 = .ok (.iload_n 2, 1) := by decide +kernel
theorem dX6_ofShip_7 : decode cX6_ofShip 7 = .ok (.bipush 8, 2) := by decide +kernel
theorem dX6_ofShip_9 : decode cX6_ofShip 9 = .ok (.invokestatic 46, 3) := by decide +kernel
theorem dX6_ofShip_12 : decode cX6_ofShip 12 = .ok (.ifCond .ne 14, 3) := by decide +kernel
theorem dX6_ofShip_15 : decode cX6_ofShip 15 = .ok (.new 34, 3) := by decide +kernel
theorem dX6_ofShip_18 : decode cX6_ofShip 18 = .ok (.dup, 1) := by decide +kernel
theorem dX6_ofShip_19 : decode cX6_ofShip 19 = .ok (.ldc_w 291, 3) := by decide +kernel
theorem dX6_ofShip_22 : decode cX6_ofShip 22 = .ok (.invokespecial 38, 3) := by decide +kernel
theorem dX6_ofShip_25 : decode cX6_ofShip 25 = .ok (.athrow, 1) := by decide +kernel
theorem dX6_ofShip_26 : decode cX6_ofShip 26 = .ok (.iload_n 2, 1) := by decide +kernel
theorem dX6_ofShip_27 : decode cX6_ofShip 27 = .ok (.tableswitch 96 0 6 #[41, 47, 53, 59, 64, 77, 91], 41) := by decide +kernel
theorem dX6_ofShip_68 : decode cX6_ofShip 68 = .ok (.aload_n 0, 1) := by decide +kernel
theorem dX6_ofShip_69 : decode cX6_ofShip 69 = .ok (.aload_n 3, 1) := by decide +kernel
theorem dX6_ofShip_70 : decode cX6_ofShip 70 = .ok (.invokevirtual 293, 3) := by decide +kernel
theorem dX6_ofShip_73 : decode cX6_ofShip 73 = .ok (.ireturn, 1) := by decide +kernel
theorem dX6_ofShip_74 : decode cX6_ofShip 74 = .ok (.aload_n 0, 1) := by decide +kernel
theorem dX6_ofShip_75 : decode cX6_ofShip 75 = .ok (.aload_n 3, 1) := by decide +kernel
theorem dX6_ofShip_76 : decode cX6_ofShip 76 = .ok (.invokevirtual 296, 3) := by decide +kernel
theorem dX6_ofShip_79 : decode cX6_ofShip 79 = .ok (.ireturn, 1) := by decide +kernel
theorem dX6_ofShip_80 : decode cX6_ofShip 80 = .ok (.aload_n 0, 1) := by decide +kernel
theorem dX6_ofShip_81 : decode cX6_ofShip 81 = .ok (.aload_n 3, 1) := by decide +kernel
theorem dX6_ofShip_82 : decode cX6_ofShip 82 = .ok (.invokevirtual 165, 3) := by decide +kernel
theorem dX6_ofShip_85 : decode cX6_ofShip 85 = .ok (.ireturn, 1) := by decide +kernel
theorem dX6_ofShip_86 : decode cX6_ofShip 86 = .ok (.aload_n 3, 1) := by decide +kernel
theorem dX6_ofShip_87 : decode cX6_ofShip 87 = .ok (.getfield 156, 3) := by decide +kernel
theorem dX6_ofShip_90 : decode cX6_ofShip 90 = .ok (.ireturn, 1) := by decide +kernel
theorem dX6_ofShip_91 : decode cX6_ofShip 91 = .ok (.aload_n 3, 1) := by decide +kernel
theorem dX6_ofShip_92 : decode cX6_ofShip 92 = .ok (.getfield 168, 3) := by decide +kernel
theorem dX6_ofShip_95 : decode cX6_ofShip 95 = .ok (.ifnull 7, 3) := by decide +kernel
theorem dX6_ofShip_98 : decode cX6_ofShip 98 = .ok (.iconst 1, 1) := by decide +kernel
theorem dX6_ofShip_99 : decode cX6_ofShip 99 = .ok (.goto 4, 3) := by decide +kernel
theorem dX6_ofShip_102 : decode cX6_ofShip 102 = .ok (.iconst 0, 1) := by decide +kernel
theorem dX6_ofShip_103 : decode cX6_ofShip 103 = .ok (.ireturn, 1) := by decide +kernel
theorem dX6_ofShip_104 : decode cX6_ofShip 104 = .ok (.aload_n 0, 1) := by decide +kernel
theorem dX6_ofShip_105 : decode cX6_ofShip 105 = .ok (.aload_n 3, 1) := by decide +kernel
theorem dX6_ofShip_106 : decode cX6_ofShip 106 = .ok (.invokevirtual 159, 3) := by decide +kernel
theorem dX6_ofShip_109 : decode cX6_ofShip 109 = .ok (.ifCond .eq 7, 3) := by decide +kernel
theorem dX6_ofShip_112 : decode cX6_ofShip 112 = .ok (.iconst 1, 1) := by decide +kernel
theorem dX6_ofShip_113 : decode cX6_ofShip 113 = .ok (.goto 4, 3) := by decide +kernel
theorem dX6_ofShip_116 : decode cX6_ofShip 116 = .ok (.iconst 0, 1) := by decide +kernel
theorem dX6_ofShip_117 : decode cX6_ofShip 117 = .ok (.ireturn, 1) := by decide +kernel
theorem dX6_ofShip_118 : decode cX6_ofShip 118 = .ok (.aload_n 3, 1) := by decide +kernel
theorem dX6_ofShip_119 : decode cX6_ofShip 119 = .ok (.getfield 266, 3) := by decide +kernel
theorem dX6_ofShip_122 : decode cX6_ofShip 122 = .ok (.ireturn, 1) := by decide +kernel
theorem dX6_ofShip_123 : decode cX6_ofShip 123 = .ok (.aload_n 0, 1) := by decide +kernel
theorem dX6_ofShip_124 : decode cX6_ofShip 124 = .ok (.aload_n 3, 1) := by decide +kernel
theorem dX6_ofShip_125 : decode cX6_ofShip 125 = .ok (.invokevirtual 120, 3) := by decide +kernel
theorem dX6_ofShip_128 : decode cX6_ofShip 128 = .ok (.ireturn, 1) := by decide +kernel
theorem dX6_pointsAnew_0 : decode cX6_pointsAnew 0 = .ok (.aload_n 0, 1) := by decide +kernel
theorem dX6_pointsAnew_1 : decode cX6_pointsAnew 1 = .ok (.aload_n 0, 1) := by decide +kernel
theorem dX6_pointsAnew_2 : decode cX6_pointsAnew 2 = .ok (.iload_n 1, 1) := by decide +kernel
theorem dX6_pointsAnew_3 : decode cX6_pointsAnew 3 = .ok (.invokevirtual 82, 3) := by decide +kernel
theorem dX6_pointsAnew_6 : decode cX6_pointsAnew 6 = .ok (.getfield 299, 3) := by decide +kernel
theorem dX6_pointsAnew_9 : decode cX6_pointsAnew 9 = .ok (.invokevirtual 302, 3) := by decide +kernel
theorem dX6_pointsAnew_12 : decode cX6_pointsAnew 12 = .ok (.ireturn, 1) := by decide +kernel
theorem dX6_isGround_0 : decode cX6_isGround 0 = .ok (.aload_n 0, 1) := by decide +kernel
theorem dX6_isGround_1 : decode cX6_isGround 1 = .ok (.iload_n 1, 1) := by decide +kernel
theorem dX6_isGround_2 : decode cX6_isGround 2 = .ok (.invokevirtual 82, 3) := by decide +kernel
theorem dX6_isGround_5 : decode cX6_isGround 5 = .ok (.astore_n 3, 1) := by decide +kernel
theorem dX6_isGround_6 : decode cX6_isGround 6 = .ok (.iload_n 2, 1) := by decide +kernel
theorem dX6_isGround_7 : decode cX6_isGround 7 = .ok (.bipush 10, 2) := by decide +kernel
theorem dX6_isGround_9 : decode cX6_isGround 9 = .ok (.invokestatic 46, 3) := by decide +kernel
theorem dX6_isGround_12 : decode cX6_isGround 12 = .ok (.ifCond .ne 14, 3) := by decide +kernel
theorem dX6_isGround_15 : decode cX6_isGround 15 = .ok (.new 34, 3) := by decide +kernel
theorem dX6_isGround_18 : decode cX6_isGround 18 = .ok (.dup, 1) := by decide +kernel
theorem dX6_isGround_19 : decode cX6_isGround 19 = .ok (.ldc_w 306, 3) := by decide +kernel
theorem dX6_isGround_22 : decode cX6_isGround 22 = .ok (.invokespecial 38, 3) := by decide +kernel
theorem dX6_isGround_25 : decode cX6_isGround 25 = .ok (.athrow, 1) := by decide +kernel
theorem dX6_isGround_26 : decode cX6_isGround 26 = .ok (.aload_n 0, 1) := by decide +kernel
theorem dX6_isGround_27 : decode cX6_isGround 27 = .ok (.aload_n 3, 1) := by decide +kernel
theorem dX6_isGround_28 : decode cX6_isGround 28 = .ok (.iload_n 2, 1) := by decide +kernel
theorem dX6_isGround_29 : decode cX6_isGround 29 = .ok (.invokevirtual 205, 3) := by decide +kernel
theorem dX6_isGround_32 : decode cX6_isGround 32 = .ok (.ireturn, 1) := by decide +kernel
theorem dX6_ofVisit_0 : decode cX6_ofVisit 0 = .ok (.aload_n 0, 1) := by decide +kernel
theorem dX6_ofVisit_1 : decode cX6_ofVisit 1 = .ok (.iload_n 1, 1) := by decide +kernel
theorem dX6_ofVisit_2 : decode cX6_ofVisit 2 = .ok (.invokevirtual 191, 3) := by decide +kernel
theorem dX6_ofVisit_5 : decode cX6_ofVisit 5 = .ok (.astore_n 3, 1) := by decide +kernel
theorem dX6_ofVisit_6 : decode cX6_ofVisit 6 = .ok (.iload_n 2, 1) := by decide +kernel
theorem dX6_ofVisit_7 : decode cX6_ofVisit 7 = .ok (.bipush 7, 2) := by decide +kernel
theorem dX6_ofVisit_9 : decode cX6_ofVisit 9 = .ok (.invokestatic 46, 3) := by decide +kernel
theorem dX6_ofVisit_12 : decode cX6_ofVisit 12 = .ok (.ifCond .ne 14, 3) := by decide +kernel
theorem dX6_ofVisit_15 : decode cX6_ofVisit 15 = .ok (.new 34, 3) := by decide +kernel
theorem dX6_ofVisit_18 : decode cX6_ofVisit 18 = .ok (.dup, 1) := by decide +kernel
theorem dX6_ofVisit_19 : decode cX6_ofVisit 19 = .ok (.ldc_w 291, 3) := by decide +kernel
theorem dX6_ofVisit_22 : decode cX6_ofVisit 22 = .ok (.invokespecial 38, 3) := by decide +kernel
theorem dX6_ofVisit_25 : decode cX6_ofVisit 25 = .ok (.athrow, 1) := by decide +kernel
theorem dX6_ofVisit_26 : decode cX6_ofVisit 26 = .ok (.iload_n 2, 1) := by decide +kernel
theorem dX6_ofVisit_27 : decode cX6_ofVisit 27 = .ok (.tableswitch 73 0 5 #[37, 45, 50, 55, 60, 68], 37) := by decide +kernel
theorem dX6_ofVisit_64 : decode cX6_ofVisit 64 = .ok (.aload_n 3, 1) := by decide +kernel
theorem dX6_ofVisit_65 : decode cX6_ofVisit 65 = .ok (.getfield 201, 3) := by decide +kernel
theorem dX6_ofVisit_68 : decode cX6_ofVisit 68 = .ok (.getfield 79, 3) := by decide +kernel
theorem dX6_ofVisit_71 : decode cX6_ofVisit 71 = .ok (.ireturn, 1) := by decide +kernel
theorem dX6_ofVisit_72 : decode cX6_ofVisit 72 = .ok (.aload_n 3, 1) := by decide +kernel
theorem dX6_ofVisit_73 : decode cX6_ofVisit 73 = .ok (.getfield 308, 3) := by decide +kernel
theorem dX6_ofVisit_76 : decode cX6_ofVisit 76 = .ok (.ireturn, 1) := by decide +kernel
theorem dX6_ofVisit_77 : decode cX6_ofVisit 77 = .ok (.aload_n 3, 1) := by decide +kernel
theorem dX6_ofVisit_78 : decode cX6_ofVisit 78 = .ok (.getfield 309, 3) := by decide +kernel
theorem dX6_ofVisit_81 : decode cX6_ofVisit 81 = .ok (.ireturn, 1) := by decide +kernel
theorem dX6_ofVisit_82 : decode cX6_ofVisit 82 = .ok (.aload_n 3, 1) := by decide +kernel
theorem dX6_ofVisit_83 : decode cX6_ofVisit 83 = .ok (.getfield 219, 3) := by decide +kernel
theorem dX6_ofVisit_86 : decode cX6_ofVisit 86 = .ok (.ireturn, 1) := by decide +kernel
theorem dX6_ofVisit_87 : decode cX6_ofVisit 87 = .ok (.aload_n 3, 1) := by decide +kernel
theorem dX6_ofVisit_88 : decode cX6_ofVisit 88 = .ok (.getfield 209, 3) := by decide +kernel
theorem dX6_ofVisit_91 : decode cX6_ofVisit 91 = .ok (.invokevirtual 58, 3) := by decide +kernel
theorem dX6_ofVisit_94 : decode cX6_ofVisit 94 = .ok (.ireturn, 1) := by decide +kernel
theorem dX6_ofVisit_95 : decode cX6_ofVisit 95 = .ok (.aload_n 3, 1) := by decide +kernel
theorem dX6_ofVisit_96 : decode cX6_ofVisit 96 = .ok (.invokevirtual 242, 3) := by decide +kernel
theorem dX6_ofVisit_99 : decode cX6_ofVisit 99 = .ok (.ireturn, 1) := by decide +kernel
theorem dX6_ofVisit_100 : decode cX6_ofVisit 100 = .ok (.aload_n 3, 1) := by decide +kernel
theorem dX6_ofVisit_101 : decode cX6_ofVisit 101 = .ok (.invokevirtual 312, 3) := by decide +kernel
theorem dX6_ofVisit_104 : decode cX6_ofVisit 104 = .ok (.ifCond .eq 7, 3) := by decide +kernel
theorem dX6_ofVisit_107 : decode cX6_ofVisit 107 = .ok (.iconst 1, 1) := by decide +kernel
theorem dX6_ofVisit_108 : decode cX6_ofVisit 108 = .ok (.goto 4, 3) := by decide +kernel
theorem dX6_ofVisit_111 : decode cX6_ofVisit 111 = .ok (.iconst 0, 1) := by decide +kernel
theorem dX6_ofVisit_112 : decode cX6_ofVisit 112 = .ok (.ireturn, 1) := by decide +kernel
theorem dX6_list_0 : decode cX6_list 0 = .ok (.iload_n 1, 1) := by decide +kernel
theorem dX6_list_1 : decode cX6_list 1 = .ok (.bipush 6, 2) := by decide +kernel
theorem dX6_list_3 : decode cX6_list 3 = .ok (.invokestatic 46, 3) := by decide +kernel
theorem dX6_list_6 : decode cX6_list 6 = .ok (.ifCond .ne 14, 3) := by decide +kernel
theorem dX6_list_9 : decode cX6_list 9 = .ok (.new 50, 3) := by decide +kernel
theorem dX6_list_12 : decode cX6_list 12 = .ok (.dup, 1) := by decide +kernel
theorem dX6_list_13 : decode cX6_list 13 = .ok (.ldc_w 315, 3) := by decide +kernel
theorem dX6_list_16 : decode cX6_list 16 = .ok (.invokespecial 54, 3) := by decide +kernel
theorem dX6_list_19 : decode cX6_list 19 = .ok (.athrow, 1) := by decide +kernel
theorem dX6_list_20 : decode cX6_list 20 = .ok (.aload_n 0, 1) := by decide +kernel
theorem dX6_list_21 : decode cX6_list 21 = .ok (.iload_n 1, 1) := by decide +kernel
theorem dX6_list_22 : decode cX6_list 22 = .ok (.invokevirtual 317, 3) := by decide +kernel
theorem dX6_list_25 : decode cX6_list 25 = .ok (.ireturn, 1) := by decide +kernel
theorem dX6_missed_0 : decode cX6_missed 0 = .ok (.iload_n 1, 1) := by decide +kernel
theorem dX6_missed_1 : decode cX6_missed 1 = .ok (.aload_n 0, 1) := by decide +kernel
theorem dX6_missed_2 : decode cX6_missed 2 = .ok (.getfield 26, 3) := by decide +kernel
theorem dX6_missed_5 : decode cX6_missed 5 = .ok (.arraylength, 1) := by decide +kernel
theorem dX6_missed_6 : decode cX6_missed 6 = .ok (.invokestatic 46, 3) := by decide +kernel
theorem dX6_missed_9 : decode cX6_missed 9 = .ok (.ifCond .ne 13, 3) := by decide +kernel
theorem dX6_missed_12 : decode cX6_missed 12 = .ok (.new 50, 3) := by decide +kernel
theorem dX6_missed_15 : decode cX6_missed 15 = .ok (.dup, 1) := by decide +kernel
theorem dX6_missed_16 : decode cX6_missed 16 = .ok (.ldc 154, 2) := by decide +kernel
theorem dX6_missed_18 : decode cX6_missed 18 = .ok (.invokespecial 54, 3) := by decide +kernel
theorem dX6_missed_21 : decode cX6_missed 21 = .ok (.athrow, 1) := by decide +kernel
theorem dX6_missed_22 : decode cX6_missed 22 = .ok (.aload_n 0, 1) := by decide +kernel
theorem dX6_missed_23 : decode cX6_missed 23 = .ok (.getfield 26, 3) := by decide +kernel
theorem dX6_missed_26 : decode cX6_missed 26 = .ok (.iload_n 1, 1) := by decide +kernel
theorem dX6_missed_27 : decode cX6_missed 27 = .ok (.iaload, 1) := by decide +kernel
theorem dX6_missed_28 : decode cX6_missed 28 = .ok (.ireturn, 1) := by decide +kernel
theorem dX6_knew_0 : decode cX6_knew 0 = .ok (.aload_n 0, 1) := by decide +kernel
theorem dX6_knew_1 : decode cX6_knew 1 = .ok (.iload_n 1, 1) := by decide +kernel
theorem dX6_knew_2 : decode cX6_knew 2 = .ok (.invokevirtual 82, 3) := by decide +kernel
theorem dX6_knew_5 : decode cX6_knew 5 = .ok (.astore 4, 2) := by decide +kernel
theorem dX6_knew_7 : decode cX6_knew 7 = .ok (.iload_n 2, 1) := by decide +kernel
theorem dX6_knew_8 : decode cX6_knew 8 = .ok (.iconst 4, 1) := by decide +kernel
theorem dX6_knew_9 : decode cX6_knew 9 = .ok (.invokestatic 46, 3) := by decide +kernel
theorem dX6_knew_12 : decode cX6_knew 12 = .ok (.ifCond .ne 13, 3) := by decide +kernel
theorem dX6_knew_15 : decode cX6_knew 15 = .ok (.new 50, 3) := by decide +kernel
theorem dX6_knew_18 : decode cX6_knew 18 = .ok (.dup, 1) := by decide +kernel
theorem dX6_knew_19 : decode cX6_knew 19 = .ok (.ldc 154, 2) := by decide +kernel
theorem dX6_knew_21 : decode cX6_knew 21 = .ok (.invokespecial 54, 3) := by decide +kernel
theorem dX6_knew_24 : decode cX6_knew 24 = .ok (.athrow, 1) := by decide +kernel
theorem dX6_knew_25 : decode cX6_knew 25 = .ok (.iload_n 3, 1) := by decide +kernel
theorem dX6_knew_26 : decode cX6_knew 26 = .ok (.ifCond .lt 11, 3) := by decide +kernel
theorem dX6_knew_29 : decode cX6_knew 29 = .ok (.iload_n 3, 1) := by decide +kernel
theorem dX6_knew_30 : decode cX6_knew 30 = .ok (.aload_n 0, 1) := by decide +kernel
theorem dX6_knew_31 : decode cX6_knew 31 = .ok (.getfield 30, 3) := by decide +kernel
theorem dX6_knew_34 : decode cX6_knew 34 = .ok (.if_icmp .le 14, 3) := by decide +kernel
theorem dX6_knew_37 : decode cX6_knew 37 = .ok (.new 34, 3) := by decide +kernel
theorem dX6_knew_40 : decode cX6_knew 40 = .ok (.dup, 1) := by decide +kernel
theorem dX6_knew_41 : decode cX6_knew 41 = .ok (.ldc_w 320, 3) := by decide +kernel
theorem dX6_knew_44 : decode cX6_knew 44 = .ok (.invokespecial 38, 3) := by decide +kernel
theorem dX6_knew_47 : decode cX6_knew 47 = .ok (.athrow, 1) := by decide +kernel
theorem dX6_knew_48 : decode cX6_knew 48 = .ok (.iconst 0, 1) := by decide +kernel
theorem dX6_knew_49 : decode cX6_knew 49 = .ok (.istore 5, 2) := by decide +kernel
theorem dX6_knew_51 : decode cX6_knew 51 = .ok (.iconst 0, 1) := by decide +kernel
theorem dX6_knew_52 : decode cX6_knew 52 = .ok (.istore 6, 2) := by decide +kernel
theorem dX6_knew_54 : decode cX6_knew 54 = .ok (.iload 6, 2) := by decide +kernel
theorem dX6_knew_56 : decode cX6_knew 56 = .ok (.aload_n 0, 1) := by decide +kernel
theorem dX6_knew_57 : decode cX6_knew 57 = .ok (.getfield 19, 3) := by decide +kernel
theorem dX6_knew_60 : decode cX6_knew 60 = .ok (.invokevirtual 58, 3) := by decide +kernel
theorem dX6_knew_63 : decode cX6_knew 63 = .ok (.if_icmp .ge 56, 3) := by decide +kernel
theorem dX6_knew_66 : decode cX6_knew 66 = .ok (.aload_n 0, 1) := by decide +kernel
theorem dX6_knew_67 : decode cX6_knew 67 = .ok (.getfield 19, 3) := by decide +kernel
theorem dX6_knew_70 : decode cX6_knew 70 = .ok (.iload 6, 2) := by decide +kernel
theorem dX6_knew_72 : decode cX6_knew 72 = .ok (.invokevirtual 224, 3) := by decide +kernel
theorem dX6_knew_75 : decode cX6_knew 75 = .ok (.checkcast 179, 3) := by decide +kernel
theorem dX6_knew_78 : decode cX6_knew 78 = .ok (.astore 7, 2) := by decide +kernel
theorem dX6_knew_80 : decode cX6_knew 80 = .ok (.aload 7, 2) := by decide +kernel
theorem dX6_knew_82 : decode cX6_knew 82 = .ok (.getfield 201, 3) := by decide +kernel
theorem dX6_knew_85 : decode cX6_knew 85 = .ok (.aload 4, 2) := by decide +kernel
theorem dX6_knew_87 : decode cX6_knew 87 = .ok (.if_acmp .ne 26, 3) := by decide +kernel
theorem dX6_knew_90 : decode cX6_knew 90 = .ok (.aload 7, 2) := by decide +kernel
theorem dX6_knew_92 : decode cX6_knew 92 = .ok (.iload_n 2, 1) := by decide +kernel
theorem dX6_knew_93 : decode cX6_knew 93 = .ok (.iload_n 3, 1) := by decide +kernel
theorem dX6_knew_94 : decode cX6_knew 94 = .ok (.invokevirtual 322, 3) := by decide +kernel
theorem dX6_knew_97 : decode cX6_knew 97 = .ok (.ifCond .eq 16, 3) := by decide +kernel
theorem dX6_knew_100 : decode cX6_knew 100 = .ok (.iload 5, 2) := by decide +kernel
theorem dX6_knew_102 : decode cX6_knew 102 = .ok (.aload 7, 2) := by decide +kernel
theorem dX6_knew_104 : decode cX6_knew 104 = .ok (.getfield 209, 3) := by decide +kernel
theorem dX6_knew_107 : decode cX6_knew 107 = .ok (.invokevirtual 58, 3) := by decide +kernel
theorem dX6_knew_110 : decode cX6_knew 110 = .ok (.iadd, 1) := by decide +kernel
theorem dX6_knew_111 : decode cX6_knew 111 = .ok (.istore 5, 2) := by decide +kernel
theorem dX6_knew_113 : decode cX6_knew 113 = .ok (.iinc 6 1, 3) := by decide +kernel
theorem dX6_knew_116 : decode cX6_knew 116 = .ok (.goto (-62), 3) := by decide +kernel
theorem dX6_knew_119 : decode cX6_knew 119 = .ok (.iload 5, 2) := by decide +kernel
theorem dX6_knew_121 : decode cX6_knew 121 = .ok (.ireturn, 1) := by decide +kernel
theorem dX6_isIndex_0 : decode cX6_isIndex 0 = .ok (.iload_n 0, 1) := by decide +kernel
theorem dX6_isIndex_1 : decode cX6_isIndex 1 = .ok (.ifCond .lt 12, 3) := by decide +kernel
theorem dX6_isIndex_4 : decode cX6_isIndex 4 = .ok (.iload_n 0, 1) := by decide +kernel
theorem dX6_isIndex_5 : decode cX6_isIndex 5 = .ok (.iload_n 1, 1) := by decide +kernel
theorem dX6_isIndex_6 : decode cX6_isIndex 6 = .ok (.if_icmp .ge 7, 3) := by decide +kernel
theorem dX6_isIndex_9 : decode cX6_isIndex 9 = .ok (.iconst 1, 1) := by decide +kernel
theorem dX6_isIndex_10 : decode cX6_isIndex 10 = .ok (.goto 4, 3) := by decide +kernel
theorem dX6_isIndex_13 : decode cX6_isIndex 13 = .ok (.iconst 0, 1) := by decide +kernel
theorem dX6_isIndex_14 : decode cX6_isIndex 14 = .ok (.ireturn, 1) := by decide +kernel
theorem dX6_isIn_0 : decode cX6_isIn 0 = .ok (.iload_n 0, 1) := by decide +kernel
theorem dX6_isIn_1 : decode cX6_isIn 1 = .ok (.ifCond .lt 16, 3) := by decide +kernel
theorem dX6_isIn_4 : decode cX6_isIn 4 = .ok (.iload_n 1, 1) := by decide +kernel
theorem dX6_isIn_5 : decode cX6_isIn 5 = .ok (.iload_n 0, 1) := by decide +kernel
theorem dX6_isIn_6 : decode cX6_isIn 6 = .ok (.ishr, 1) := by decide +kernel
theorem dX6_isIn_7 : decode cX6_isIn 7 = .ok (.iconst 1, 1) := by decide +kernel
theorem dX6_isIn_8 : decode cX6_isIn 8 = .ok (.iand, 1) := by decide +kernel
theorem dX6_isIn_9 : decode cX6_isIn 9 = .ok (.iconst 1, 1) := by decide +kernel
theorem dX6_isIn_10 : decode cX6_isIn 10 = .ok (.if_icmp .ne 7, 3) := by decide +kernel
theorem dX6_isIn_13 : decode cX6_isIn 13 = .ok (.iconst 1, 1) := by decide +kernel
theorem dX6_isIn_14 : decode cX6_isIn 14 = .ok (.goto 4, 3) := by decide +kernel
theorem dX6_isIn_17 : decode cX6_isIn 17 = .ok (.iconst 0, 1) := by decide +kernel
theorem dX6_isIn_18 : decode cX6_isIn 18 = .ok (.ireturn, 1) := by decide +kernel
theorem dX6_shipNumbered_0 : decode cX6_shipNumbered 0 = .ok (.iload_n 1, 1) := by decide +kernel
theorem dX6_shipNumbered_1 : decode cX6_shipNumbered 1 = .ok (.aload_n 0, 1) := by decide +kernel
theorem dX6_shipNumbered_2 : decode cX6_shipNumbered 2 = .ok (.getfield 10, 3) := by decide +kernel
theorem dX6_shipNumbered_5 : decode cX6_shipNumbered 5 = .ok (.invokevirtual 58, 3) := by decide +kernel
theorem dX6_shipNumbered_8 : decode cX6_shipNumbered 8 = .ok (.invokestatic 46, 3) := by decide +kernel
theorem dX6_shipNumbered_11 : decode cX6_shipNumbered 11 = .ok (.ifCond .ne 14, 3) := by decide +kernel
theorem dX6_shipNumbered_14 : decode cX6_shipNumbered 14 = .ok (.new 50, 3) := by decide +kernel
theorem dX6_shipNumbered_17 : decode cX6_shipNumbered 17 = .ok (.dup, 1) := by decide +kernel
theorem dX6_shipNumbered_18 : decode cX6_shipNumbered 18 = .ok (.ldc_w 325, 3) := by decide +kernel
theorem dX6_shipNumbered_21 : decode cX6_shipNumbered 21 = .ok (.invokespecial 54, 3) := by decide +kernel
theorem dX6_shipNumbered_24 : decode cX6_shipNumbered 24 = .ok (.athrow, 1) := by decide +kernel
theorem dX6_shipNumbered_25 : decode cX6_shipNumbered 25 = .ok (.aload_n 0, 1) := by decide +kernel
theorem dX6_shipNumbered_26 : decode cX6_shipNumbered 26 = .ok (.getfield 10, 3) := by decide +kernel
theorem dX6_shipNumbered_29 : decode cX6_shipNumbered 29 = .ok (.iload_n 1, 1) := by decide +kernel
theorem dX6_shipNumbered_30 : decode cX6_shipNumbered 30 = .ok (.invokevirtual 224, 3) := by decide +kernel
theorem dX6_shipNumbered_33 : decode cX6_shipNumbered 33 = .ok (.checkcast 64, 3) := by decide +kernel
theorem dX6_shipNumbered_36 : decode cX6_shipNumbered 36 = .ok (.areturn, 1) := by decide +kernel
theorem dX6_visitNumbered_0 : decode cX6_visitNumbered 0 = .ok (.iload_n 1, 1) := by decide +kernel
theorem dX6_visitNumbered_1 : decode cX6_visitNumbered 1 = .ok (.aload_n 0, 1) := by decide +kernel
theorem dX6_visitNumbered_2 : decode cX6_visitNumbered 2 = .ok (.getfield 19, 3) := by decide +kernel
theorem dX6_visitNumbered_5 : decode cX6_visitNumbered 5 = .ok (.invokevirtual 58, 3) := by decide +kernel
theorem dX6_visitNumbered_8 : decode cX6_visitNumbered 8 = .ok (.invokestatic 46, 3) := by decide +kernel
theorem dX6_visitNumbered_11 : decode cX6_visitNumbered 11 = .ok (.ifCond .ne 14, 3) := by decide +kernel
theorem dX6_visitNumbered_14 : decode cX6_visitNumbered 14 = .ok (.new 50, 3) := by decide +kernel
theorem dX6_visitNumbered_17 : decode cX6_visitNumbered 17 = .ok (.dup, 1) := by decide +kernel
theorem dX6_visitNumbered_18 : decode cX6_visitNumbered 18 = .ok (.ldc_w 327, 3) := by decide +kernel
theorem dX6_visitNumbered_21 : decode cX6_visitNumbered 21 = .ok (.invokespecial 54, 3) := by decide +kernel
theorem dX6_visitNumbered_24 : decode cX6_visitNumbered 24 = .ok (.athrow, 1) := by decide +kernel
theorem dX6_visitNumbered_25 : decode cX6_visitNumbered 25 = .ok (.aload_n 0, 1) := by decide +kernel
theorem dX6_visitNumbered_26 : decode cX6_visitNumbered 26 = .ok (.getfield 19, 3) := by decide +kernel
theorem dX6_visitNumbered_29 : decode cX6_visitNumbered 29 = .ok (.iload_n 1, 1) := by decide +kernel
theorem dX6_visitNumbered_30 : decode cX6_visitNumbered 30 = .ok (.invokevirtual 224, 3) := by decide +kernel
theorem dX6_visitNumbered_33 : decode cX6_visitNumbered 33 = .ok (.checkcast 179, 3) := by decide +kernel
theorem dX6_visitNumbered_36 : decode cX6_visitNumbered 36 = .ok (.areturn, 1) := by decide +kernel
theorem dX6_isOfLatest_0 : decode cX6_isOfLatest 0 = .ok (.aload_n 0, 1) := by decide +kernel
theorem dX6_isOfLatest_1 : decode cX6_isOfLatest 1 = .ok (.getfield 30, 3) := by decide +kernel
theorem dX6_isOfLatest_4 : decode cX6_isOfLatest 4 = .ok (.iload_n 1, 1) := by decide +kernel
theorem dX6_isOfLatest_5 : decode cX6_isOfLatest 5 = .ok (.isub, 1) := by decide +kernel
theorem dX6_isOfLatest_6 : decode cX6_isOfLatest 6 = .ok (.sipush 1095, 3) := by decide +kernel
theorem dX6_isOfLatest_9 : decode cX6_isOfLatest 9 = .ok (.if_icmp .ge 7, 3) := by decide +kernel
theorem dX6_isOfLatest_12 : decode cX6_isOfLatest 12 = .ok (.iconst 1, 1) := by decide +kernel
theorem dX6_isOfLatest_13 : decode cX6_isOfLatest 13 = .ok (.goto 4, 3) := by decide +kernel
theorem dX6_isOfLatest_16 : decode cX6_isOfLatest 16 = .ok (.iconst 0, 1) := by decide +kernel
theorem dX6_isOfLatest_17 : decode cX6_isOfLatest 17 = .ok (.ireturn, 1) := by decide +kernel
theorem dX6_isSuspended_0 : decode cX6_isSuspended 0 = .ok (.iload_n 1, 1) := by decide +kernel
theorem dX6_isSuspended_1 : decode cX6_isSuspended 1 = .ok (.aload_n 0, 1) := by decide +kernel
theorem dX6_isSuspended_2 : decode cX6_isSuspended 2 = .ok (.getfield 22, 3) := by decide +kernel
theorem dX6_isSuspended_5 : decode cX6_isSuspended 5 = .ok (.arraylength, 1) := by decide +kernel
theorem dX6_isSuspended_6 : decode cX6_isSuspended 6 = .ok (.invokestatic 46, 3) := by decide +kernel
theorem dX6_isSuspended_9 : decode cX6_isSuspended 9 = .ok (.ifCond .eq 16, 3) := by decide +kernel
theorem dX6_isSuspended_12 : decode cX6_isSuspended 12 = .ok (.aload_n 0, 1) := by decide +kernel
theorem dX6_isSuspended_13 : decode cX6_isSuspended 13 = .ok (.getfield 22, 3) := by decide +kernel
theorem dX6_isSuspended_16 : decode cX6_isSuspended 16 = .ok (.iload_n 1, 1) := by decide +kernel
theorem dX6_isSuspended_17 : decode cX6_isSuspended 17 = .ok (.baload, 1) := by decide +kernel
theorem dX6_isSuspended_18 : decode cX6_isSuspended 18 = .ok (.ifCond .eq 7, 3) := by decide +kernel
theorem dX6_isSuspended_21 : decode cX6_isSuspended 21 = .ok (.iconst 1, 1) := by decide +kernel
theorem dX6_isSuspended_22 : decode cX6_isSuspended 22 = .ok (.goto 4, 3) := by decide +kernel
theorem dX6_isSuspended_25 : decode cX6_isSuspended 25 = .ok (.iconst 0, 1) := by decide +kernel
theorem dX6_isSuspended_26 : decode cX6_isSuspended 26 = .ok (.ireturn, 1) := by decide +kernel
theorem dX6_isGroundToday_0 : decode cX6_isGroundToday 0 = .ok (.iconst 0, 1) := by decide +kernel
theorem dX6_isGroundToday_1 : decode cX6_isGroundToday 1 = .ok (.istore_n 3, 1) := by decide +kernel
theorem dX6_isGroundToday_2 : decode cX6_isGroundToday 2 = .ok (.iload_n 3, 1) := by decide +kernel
theorem dX6_isGroundToday_3 : decode cX6_isGroundToday 3 = .ok (.aload_n 0, 1) := by decide +kernel
theorem dX6_isGroundToday_4 : decode cX6_isGroundToday 4 = .ok (.getfield 16, 3) := by decide +kernel
theorem dX6_isGroundToday_7 : decode cX6_isGroundToday 7 = .ok (.invokevirtual 58, 3) := by decide +kernel
theorem dX6_isGroundToday_10 : decode cX6_isGroundToday 10 = .ok (.if_icmp .ge 46, 3) := by decide +kernel
theorem dX6_isGroundToday_13 : decode cX6_isGroundToday 13 = .ok (.aload_n 0, 1) := by decide +kernel
theorem dX6_isGroundToday_14 : decode cX6_isGroundToday 14 = .ok (.getfield 16, 3) := by decide +kernel
theorem dX6_isGroundToday_17 : decode cX6_isGroundToday 17 = .ok (.iload_n 3, 1) := by decide +kernel
theorem dX6_isGroundToday_18 : decode cX6_isGroundToday 18 = .ok (.invokevirtual 224, 3) := by decide +kernel
theorem dX6_isGroundToday_21 : decode cX6_isGroundToday 21 = .ok (.checkcast 101, 3) := by decide +kernel
theorem dX6_isGroundToday_24 : decode cX6_isGroundToday 24 = .ok (.astore 4, 2) := by decide +kernel
theorem dX6_isGroundToday_26 : decode cX6_isGroundToday 26 = .ok (.aload 4, 2) := by decide +kernel
theorem dX6_isGroundToday_28 : decode cX6_isGroundToday 28 = .ok (.getfield 329, 3) := by decide +kernel
theorem dX6_isGroundToday_31 : decode cX6_isGroundToday 31 = .ok (.iload_n 2, 1) := by decide +kernel
theorem dX6_isGroundToday_32 : decode cX6_isGroundToday 32 = .ok (.if_icmp .ne 18, 3) := by decide +kernel
theorem dX6_isGroundToday_35 : decode cX6_isGroundToday 35 = .ok (.aload 4, 2) := by decide +kernel
theorem dX6_isGroundToday_37 : decode cX6_isGroundToday 37 = .ok (.aload_n 1, 1) := by decide +kernel
theorem dX6_isGroundToday_38 : decode cX6_isGroundToday 38 = .ok (.aload_n 0, 1) := by decide +kernel
theorem dX6_isGroundToday_39 : decode cX6_isGroundToday 39 = .ok (.getfield 30, 3) := by decide +kernel
theorem dX6_isGroundToday_42 : decode cX6_isGroundToday 42 = .ok (.invokevirtual 332, 3) := by decide +kernel
theorem dX6_isGroundToday_45 : decode cX6_isGroundToday 45 = .ok (.ifCond .eq 5, 3) := by decide +kernel
theorem dX6_isGroundToday_48 : decode cX6_isGroundToday 48 = .ok (.iconst 1, 1) := by decide +kernel
theorem dX6_isGroundToday_49 : decode cX6_isGroundToday 49 = .ok (.ireturn, 1) := by decide +kernel
theorem dX6_isGroundToday_50 : decode cX6_isGroundToday 50 = .ok (.iinc 3 1, 3) := by decide +kernel
theorem dX6_isGroundToday_53 : decode cX6_isGroundToday 53 = .ok (.goto (-51), 3) := by decide +kernel
theorem dX6_isGroundToday_56 : decode cX6_isGroundToday 56 = .ok (.iconst 0, 1) := by decide +kernel
theorem dX6_isGroundToday_57 : decode cX6_isGroundToday 57 = .ok (.ireturn, 1) := by decide +kernel
theorem dX6_hangsOn_0 : decode cX6_hangsOn 0 = .ok (.iload_n 0, 1) := by decide +kernel
theorem dX6_hangsOn_1 : decode cX6_hangsOn 1 = .ok (.tableswitch 33 1 3 #[27, 31, 29], 27) := by decide +kernel
theorem dX6_hangsOn_28 : decode cX6_hangsOn 28 = .ok (.iconst 0, 1) := by decide +kernel
theorem dX6_hangsOn_29 : decode cX6_hangsOn 29 = .ok (.ireturn, 1) := by decide +kernel
theorem dX6_hangsOn_30 : decode cX6_hangsOn 30 = .ok (.iconst 0, 1) := by decide +kernel
theorem dX6_hangsOn_31 : decode cX6_hangsOn 31 = .ok (.ireturn, 1) := by decide +kernel
theorem dX6_hangsOn_32 : decode cX6_hangsOn 32 = .ok (.iconst 1, 1) := by decide +kernel
theorem dX6_hangsOn_33 : decode cX6_hangsOn 33 = .ok (.ireturn, 1) := by decide +kernel
theorem dX6_hangsOn_34 : decode cX6_hangsOn 34 = .ok (.iconst (-1), 1) := by decide +kernel
theorem dX6_hangsOn_35 : decode cX6_hangsOn 35 = .ok (.ireturn, 1) := by decide +kernel
theorem dX6_familiesNotGood_0 : decode cX6_familiesNotGood 0 = .ok (.iconst 0, 1) := by decide +kernel
theorem dX6_familiesNotGood_1 : decode cX6_familiesNotGood 1 = .ok (.istore_n 2, 1) := by decide +kernel
theorem dX6_familiesNotGood_2 : decode cX6_familiesNotGood 2 = .ok (.iconst 0, 1) := by decide +kernel
theorem dX6_familiesNotGood_3 : decode cX6_familiesNotGood 3 = .ok (.istore_n 3, 1) := by decide +kernel
theorem dX6_familiesNotGood_4 : decode cX6_familiesNotGood 4 = .ok (.iload_n 3, 1) := by decide +kernel
theorem dX6_familiesNotGood_5 : decode cX6_familiesNotGood 5 = .ok (.aload_n 1, 1) := by decide +kernel
theorem dX6_familiesNotGood_6 : decode cX6_familiesNotGood 6 = .ok (.getfield 106, 3) := by decide +kernel
theorem dX6_familiesNotGood_9 : decode cX6_familiesNotGood 9 = .ok (.arraylength, 1) := by decide +kernel
theorem dX6_familiesNotGood_10 : decode cX6_familiesNotGood 10 = .ok (.if_icmp .ge 63, 3) := by decide +kernel
theorem dX6_familiesNotGood_13 : decode cX6_familiesNotGood 13 = .ok (.aload_n 1, 1) := by decide +kernel
theorem dX6_familiesNotGood_14 : decode cX6_familiesNotGood 14 = .ok (.getfield 106, 3) := by decide +kernel
theorem dX6_familiesNotGood_17 : decode cX6_familiesNotGood 17 = .ok (.iload_n 3, 1) := by decide +kernel
theorem dX6_familiesNotGood_18 : decode cX6_familiesNotGood 18 = .ok (.aaload, 1) := by decide +kernel
theorem dX6_familiesNotGood_19 : decode cX6_familiesNotGood 19 = .ok (.astore 4, 2) := by decide +kernel
theorem dX6_familiesNotGood_21 : decode cX6_familiesNotGood 21 = .ok (.aload 4, 2) := by decide +kernel
theorem dX6_familiesNotGood_23 : decode cX6_familiesNotGood 23 = .ok (.ifnull 38, 3) := by decide +kernel
theorem dX6_familiesNotGood_26 : decode cX6_familiesNotGood 26 = .ok (.aload 4, 2) := by decide +kernel
theorem dX6_familiesNotGood_28 : decode cX6_familiesNotGood 28 = .ok (.aload_n 0, 1) := by decide +kernel
theorem dX6_familiesNotGood_29 : decode cX6_familiesNotGood 29 = .ok (.getfield 30, 3) := by decide +kernel
theorem dX6_familiesNotGood_32 : decode cX6_familiesNotGood 32 = .ok (.invokevirtual 335, 3) := by decide +kernel
theorem dX6_familiesNotGood_35 : decode cX6_familiesNotGood 35 = .ok (.ifCond .ne 26, 3) := by decide +kernel
theorem dX6_familiesNotGood_38 : decode cX6_familiesNotGood 38 = .ok (.aload_n 0, 1) := by decide +kernel
theorem dX6_familiesNotGood_39 : decode cX6_familiesNotGood 39 = .ok (.aload 4, 2) := by decide +kernel
theorem dX6_familiesNotGood_41 : decode cX6_familiesNotGood 41 = .ok (.getfield 338, 3) := by decide +kernel
theorem dX6_familiesNotGood_44 : decode cX6_familiesNotGood 44 = .ok (.invokevirtual 112, 3) := by decide +kernel
theorem dX6_familiesNotGood_47 : decode cX6_familiesNotGood 47 = .ok (.ifCond .ne 14, 3) := by decide +kernel
theorem dX6_familiesNotGood_50 : decode cX6_familiesNotGood 50 = .ok (.iload_n 3, 1) := by decide +kernel
theorem dX6_familiesNotGood_51 : decode cX6_familiesNotGood 51 = .ok (.invokestatic 116, 3) := by decide +kernel
theorem dX6_familiesNotGood_54 : decode cX6_familiesNotGood 54 = .ok (.iload_n 2, 1) := by decide +kernel
theorem dX6_familiesNotGood_55 : decode cX6_familiesNotGood 55 = .ok (.invokestatic 124, 3) := by decide +kernel
theorem dX6_familiesNotGood_58 : decode cX6_familiesNotGood 58 = .ok (.ifCond .eq 9, 3) := by decide +kernel
theorem dX6_familiesNotGood_61 : decode cX6_familiesNotGood 61 = .ok (.iload_n 2, 1) := by decide +kernel
theorem dX6_familiesNotGood_62 : decode cX6_familiesNotGood 62 = .ok (.iconst 1, 1) := by decide +kernel
theorem dX6_familiesNotGood_63 : decode cX6_familiesNotGood 63 = .ok (.iload_n 3, 1) := by decide +kernel
theorem dX6_familiesNotGood_64 : decode cX6_familiesNotGood 64 = .ok (.ishl, 1) := by decide +kernel
theorem dX6_familiesNotGood_65 : decode cX6_familiesNotGood 65 = .ok (.ior, 1) := by decide +kernel
theorem dX6_familiesNotGood_66 : decode cX6_familiesNotGood 66 = .ok (.istore_n 2, 1) := by decide +kernel
theorem dX6_familiesNotGood_67 : decode cX6_familiesNotGood 67 = .ok (.iinc 3 1, 3) := by decide +kernel
theorem dX6_familiesNotGood_70 : decode cX6_familiesNotGood 70 = .ok (.goto (-66), 3) := by decide +kernel
theorem dX6_familiesNotGood_73 : decode cX6_familiesNotGood 73 = .ok (.iload_n 2, 1) := by decide +kernel
theorem dX6_familiesNotGood_74 : decode cX6_familiesNotGood 74 = .ok (.ireturn, 1) := by decide +kernel
theorem dX6_pointsOf_0 : decode cX6_pointsOf 0 = .ok (.iconst 0, 1) := by decide +kernel
theorem dX6_pointsOf_1 : decode cX6_pointsOf 1 = .ok (.istore_n 2, 1) := by decide +kernel
theorem dX6_pointsOf_2 : decode cX6_pointsOf 2 = .ok (.iconst 0, 1) := by decide +kernel
theorem dX6_pointsOf_3 : decode cX6_pointsOf 3 = .ok (.istore_n 3, 1) := by decide +kernel
theorem dX6_pointsOf_4 : decode cX6_pointsOf 4 = .ok (.iload_n 3, 1) := by decide +kernel
theorem dX6_pointsOf_5 : decode cX6_pointsOf 5 = .ok (.aload_n 0, 1) := by decide +kernel
theorem dX6_pointsOf_6 : decode cX6_pointsOf 6 = .ok (.getfield 19, 3) := by decide +kernel
theorem dX6_pointsOf_9 : decode cX6_pointsOf 9 = .ok (.invokevirtual 58, 3) := by decide +kernel
theorem dX6_pointsOf_12 : decode cX6_pointsOf 12 = .ok (.if_icmp .ge 57, 3) := by decide +kernel
theorem dX6_pointsOf_15 : decode cX6_pointsOf 15 = .ok (.aload_n 0, 1) := by decide +kernel
theorem dX6_pointsOf_16 : decode cX6_pointsOf 16 = .ok (.getfield 19, 3) := by decide +kernel
theorem dX6_pointsOf_19 : decode cX6_pointsOf 19 = .ok (.iload_n 3, 1) := by decide +kernel
theorem dX6_pointsOf_20 : decode cX6_pointsOf 20 = .ok (.invokevirtual 224, 3) := by decide +kernel
theorem dX6_pointsOf_23 : decode cX6_pointsOf 23 = .ok (.checkcast 179, 3) := by decide +kernel
theorem dX6_pointsOf_26 : decode cX6_pointsOf 26 = .ok (.astore 4, 2) := by decide +kernel
theorem dX6_pointsOf_28 : decode cX6_pointsOf 28 = .ok (.aload 4, 2) := by decide +kernel
theorem dX6_pointsOf_30 : decode cX6_pointsOf 30 = .ok (.getfield 201, 3) := by decide +kernel
theorem dX6_pointsOf_33 : decode cX6_pointsOf 33 = .ok (.aload_n 1, 1) := by decide +kernel
theorem dX6_pointsOf_34 : decode cX6_pointsOf 34 = .ok (.if_acmp .ne 29, 3) := by decide +kernel
theorem dX6_pointsOf_37 : decode cX6_pointsOf 37 = .ok (.aload_n 0, 1) := by decide +kernel
theorem dX6_pointsOf_38 : decode cX6_pointsOf 38 = .ok (.aload 4, 2) := by decide +kernel
theorem dX6_pointsOf_40 : decode cX6_pointsOf 40 = .ok (.getfield 309, 3) := by decide +kernel
theorem dX6_pointsOf_43 : decode cX6_pointsOf 43 = .ok (.invokevirtual 339, 3) := by decide +kernel
theorem dX6_pointsOf_46 : decode cX6_pointsOf 46 = .ok (.ifCond .eq 17, 3) := by decide +kernel
theorem dX6_pointsOf_49 : decode cX6_pointsOf 49 = .ok (.aload 4, 2) := by decide +kernel
theorem dX6_pointsOf_51 : decode cX6_pointsOf 51 = .ok (.getfield 209, 3) := by decide +kernel
theorem dX6_pointsOf_54 : decode cX6_pointsOf 54 = .ok (.invokevirtual 58, 3) := by decide +kernel
theorem dX6_pointsOf_57 : decode cX6_pointsOf 57 = .ok (.iconst 5, 1) := by decide +kernel
theorem dX6_pointsOf_58 : decode cX6_pointsOf 58 = .ok (.if_icmp .le 5, 3) := by decide +kernel
theorem dX6_pointsOf_61 : decode cX6_pointsOf 61 = .ok (.iconst 1, 1) := by decide +kernel
theorem dX6_pointsOf_62 : decode cX6_pointsOf 62 = .ok (.istore_n 2, 1) := by decide +kernel
theorem dX6_pointsOf_63 : decode cX6_pointsOf 63 = .ok (.iinc 3 1, 3) := by decide +kernel
theorem dX6_pointsOf_66 : decode cX6_pointsOf 66 = .ok (.goto (-62), 3) := by decide +kernel
theorem dX6_pointsOf_69 : decode cX6_pointsOf 69 = .ok (.aload_n 0, 1) := by decide +kernel
theorem dX6_pointsOf_70 : decode cX6_pointsOf 70 = .ok (.aload_n 1, 1) := by decide +kernel
theorem dX6_pointsOf_71 : decode cX6_pointsOf 71 = .ok (.getfield 342, 3) := by decide +kernel
theorem dX6_pointsOf_74 : decode cX6_pointsOf 74 = .ok (.aload_n 1, 1) := by decide +kernel
theorem dX6_pointsOf_75 : decode cX6_pointsOf 75 = .ok (.getfield 345, 3) := by decide +kernel
theorem dX6_pointsOf_78 : decode cX6_pointsOf 78 = .ok (.invokevirtual 348, 3) := by decide +kernel
theorem dX6_pointsOf_81 : decode cX6_pointsOf 81 = .ok (.aload_n 0, 1) := by decide +kernel
theorem dX6_pointsOf_82 : decode cX6_pointsOf 82 = .ok (.aload_n 1, 1) := by decide +kernel
theorem dX6_pointsOf_83 : decode cX6_pointsOf 83 = .ok (.getfield 86, 3) := by decide +kernel
theorem dX6_pointsOf_86 : decode cX6_pointsOf 86 = .ok (.aload_n 1, 1) := by decide +kernel
theorem dX6_pointsOf_87 : decode cX6_pointsOf 87 = .ok (.getfield 89, 3) := by decide +kernel
theorem dX6_pointsOf_90 : decode cX6_pointsOf 90 = .ok (.invokevirtual 352, 3) := by decide +kernel
theorem dX6_pointsOf_93 : decode cX6_pointsOf 93 = .ok (.iadd, 1) := by decide +kernel
theorem dX6_pointsOf_94 : decode cX6_pointsOf 94 = .ok (.iload_n 2, 1) := by decide +kernel
theorem dX6_pointsOf_95 : decode cX6_pointsOf 95 = .ok (.aload_n 0, 1) := by decide +kernel
theorem dX6_pointsOf_96 : decode cX6_pointsOf 96 = .ok (.aload_n 1, 1) := by decide +kernel
theorem dX6_pointsOf_97 : decode cX6_pointsOf 97 = .ok (.invokevirtual 261, 3) := by decide +kernel
theorem dX6_pointsOf_100 : decode cX6_pointsOf 100 = .ok (.invokestatic 355, 3) := by decide +kernel
theorem dX6_pointsOf_103 : decode cX6_pointsOf 103 = .ok (.iadd, 1) := by decide +kernel
theorem dX6_pointsOf_104 : decode cX6_pointsOf 104 = .ok (.ireturn, 1) := by decide +kernel
theorem dX6_pointsByFile_0 : decode cX6_pointsByFile 0 = .ok (.iconst 0, 1) := by decide +kernel
theorem dX6_pointsByFile_1 : decode cX6_pointsByFile 1 = .ok (.istore_n 2, 1) := by decide +kernel
theorem dX6_pointsByFile_2 : decode cX6_pointsByFile 2 = .ok (.iconst 0, 1) := by decide +kernel
theorem dX6_pointsByFile_3 : decode cX6_pointsByFile 3 = .ok (.istore_n 3, 1) := by decide +kernel
theorem dX6_pointsByFile_4 : decode cX6_pointsByFile 4 = .ok (.iconst 0, 1) := by decide +kernel
theorem dX6_pointsByFile_5 : decode cX6_pointsByFile 5 = .ok (.istore 4, 2) := by decide +kernel
theorem dX6_pointsByFile_7 : decode cX6_pointsByFile 7 = .ok (.iconst 0, 1) := by decide +kernel
theorem dX6_pointsByFile_8 : decode cX6_pointsByFile 8 = .ok (.istore 5, 2) := by decide +kernel
theorem dX6_pointsByFile_10 : decode cX6_pointsByFile 10 = .ok (.iconst 0, 1) := by decide +kernel
theorem dX6_pointsByFile_11 : decode cX6_pointsByFile 11 = .ok (.istore 6, 2) := by decide +kernel
theorem dX6_pointsByFile_13 : decode cX6_pointsByFile 13 = .ok (.iload 6, 2) := by decide +kernel
theorem dX6_pointsByFile_15 : decode cX6_pointsByFile 15 = .ok (.aload_n 1, 1) := by decide +kernel
theorem dX6_pointsByFile_16 : decode cX6_pointsByFile 16 = .ok (.invokevirtual 58, 3) := by decide +kernel
theorem dX6_pointsByFile_19 : decode cX6_pointsByFile 19 = .ok (.if_icmp .ge 142, 3) := by decide +kernel
theorem dX6_pointsByFile_22 : decode cX6_pointsByFile 22 = .ok (.aload_n 1, 1) := by decide +kernel
theorem dX6_pointsByFile_23 : decode cX6_pointsByFile 23 = .ok (.iload 6, 2) := by decide +kernel
theorem dX6_pointsByFile_25 : decode cX6_pointsByFile 25 = .ok (.invokevirtual 224, 3) := by decide +kernel
theorem dX6_pointsByFile_28 : decode cX6_pointsByFile 28 = .ok (.checkcast 69, 3) := by decide +kernel
theorem dX6_pointsByFile_31 : decode cX6_pointsByFile 31 = .ok (.astore 7, 2) := by decide +kernel
theorem dX6_pointsByFile_33 : decode cX6_pointsByFile 33 = .ok (.aload 7, 2) := by decide +kernel
theorem dX6_pointsByFile_35 : decode cX6_pointsByFile 35 = .ok (.getfield 359, 3) := by decide +kernel
theorem dX6_pointsByFile_38 : decode cX6_pointsByFile 38 = .ok (.ifCond .ne 21, 3) := by decide +kernel
theorem dX6_pointsByFile_41 : decode cX6_pointsByFile 41 = .ok (.aload_n 0, 1) := by decide +kernel
theorem dX6_pointsByFile_42 : decode cX6_pointsByFile 42 = .ok (.aload 7, 2) := by decide +kernel
theorem dX6_pointsByFile_44 : decode cX6_pointsByFile 44 = .ok (.getfield 362, 3) := by decide +kernel
theorem dX6_pointsByFile_47 : decode cX6_pointsByFile 47 = .ok (.aload 7, 2) := by decide +kernel
theorem dX6_pointsByFile_49 : decode cX6_pointsByFile 49 = .ok (.getfield 365, 3) := by decide +kernel
theorem dX6_pointsByFile_52 : decode cX6_pointsByFile 52 = .ok (.invokevirtual 348, 3) := by decide +kernel
theorem dX6_pointsByFile_55 : decode cX6_pointsByFile 55 = .ok (.istore_n 2, 1) := by decide +kernel
theorem dX6_pointsByFile_56 : decode cX6_pointsByFile 56 = .ok (.goto 99, 3) := by decide +kernel
theorem dX6_pointsByFile_59 : decode cX6_pointsByFile 59 = .ok (.aload 7, 2) := by decide +kernel
theorem dX6_pointsByFile_61 : decode cX6_pointsByFile 61 = .ok (.getfield 359, 3) := by decide +kernel
theorem dX6_pointsByFile_64 : decode cX6_pointsByFile 64 = .ok (.iconst 1, 1) := by decide +kernel
theorem dX6_pointsByFile_65 : decode cX6_pointsByFile 65 = .ok (.if_icmp .ne 21, 3) := by decide +kernel
theorem dX6_pointsByFile_68 : decode cX6_pointsByFile 68 = .ok (.aload_n 0, 1) := by decide +kernel
theorem dX6_pointsByFile_69 : decode cX6_pointsByFile 69 = .ok (.aload 7, 2) := by decide +kernel
theorem dX6_pointsByFile_71 : decode cX6_pointsByFile 71 = .ok (.getfield 362, 3) := by decide +kernel
theorem dX6_pointsByFile_74 : decode cX6_pointsByFile 74 = .ok (.aload 7, 2) := by decide +kernel
theorem dX6_pointsByFile_76 : decode cX6_pointsByFile 76 = .ok (.getfield 365, 3) := by decide +kernel
theorem dX6_pointsByFile_79 : decode cX6_pointsByFile 79 = .ok (.invokevirtual 352, 3) := by decide +kernel
theorem dX6_pointsByFile_82 : decode cX6_pointsByFile 82 = .ok (.istore_n 3, 1) := by decide +kernel
theorem dX6_pointsByFile_83 : decode cX6_pointsByFile 83 = .ok (.goto 72, 3) := by decide +kernel
theorem dX6_pointsByFile_86 : decode cX6_pointsByFile 86 = .ok (.aload 7, 2) := by decide +kernel
theorem dX6_pointsByFile_88 : decode cX6_pointsByFile 88 = .ok (.getfield 359, 3) := by decide +kernel
theorem dX6_pointsByFile_91 : decode cX6_pointsByFile 91 = .ok (.iconst 2, 1) := by decide +kernel
theorem dX6_pointsByFile_92 : decode cX6_pointsByFile 92 = .ok (.if_icmp .ne 63, 3) := by decide +kernel
theorem dX6_pointsByFile_95 : decode cX6_pointsByFile 95 = .ok (.aload_n 0, 1) := by decide +kernel
theorem dX6_pointsByFile_96 : decode cX6_pointsByFile 96 = .ok (.aload 7, 2) := by decide +kernel
theorem dX6_pointsByFile_98 : decode cX6_pointsByFile 98 = .ok (.getfield 362, 3) := by decide +kernel
theorem dX6_pointsByFile_101 : decode cX6_pointsByFile 101 = .ok (.invokevirtual 339, 3) := by decide +kernel
theorem dX6_pointsByFile_104 : decode cX6_pointsByFile 104 = .ok (.ifCond .eq 51, 3) := by decide +kernel
theorem dX6_pointsByFile_107 : decode cX6_pointsByFile 107 = .ok (.iload 5, 2) := by decide +kernel
theorem dX6_pointsByFile_109 : decode cX6_pointsByFile 109 = .ok (.ifCond .ne 17, 3) := by decide +kernel
theorem dX6_pointsByFile_112 : decode cX6_pointsByFile 112 = .ok (.aload_n 1, 1) := by decide +kernel
theorem dX6_pointsByFile_113 : decode cX6_pointsByFile 113 = .ok (.iconst 3, 1) := by decide +kernel
theorem dX6_pointsByFile_114 : decode cX6_pointsByFile 114 = .ok (.aload 7, 2) := by decide +kernel
theorem dX6_pointsByFile_116 : decode cX6_pointsByFile 116 = .ok (.getfield 368, 3) := by decide +kernel
theorem dX6_pointsByFile_119 : decode cX6_pointsByFile 119 = .ok (.invokestatic 371, 3) := by decide +kernel
theorem dX6_pointsByFile_122 : decode cX6_pointsByFile 122 = .ok (.iconst 5, 1) := by decide +kernel
theorem dX6_pointsByFile_123 : decode cX6_pointsByFile 123 = .ok (.if_icmp .le 7, 3) := by decide +kernel
theorem dX6_pointsByFile_126 : decode cX6_pointsByFile 126 = .ok (.iconst 1, 1) := by decide +kernel
theorem dX6_pointsByFile_127 : decode cX6_pointsByFile 127 = .ok (.goto 4, 3) := by decide +kernel
theorem dX6_pointsByFile_130 : decode cX6_pointsByFile 130 = .ok (.iconst 0, 1) := by decide +kernel
theorem dX6_pointsByFile_131 : decode cX6_pointsByFile 131 = .ok (.istore 5, 2) := by decide +kernel
theorem dX6_pointsByFile_133 : decode cX6_pointsByFile 133 = .ok (.iload 4, 2) := by decide +kernel
theorem dX6_pointsByFile_135 : decode cX6_pointsByFile 135 = .ok (.aload_n 1, 1) := by decide +kernel
theorem dX6_pointsByFile_136 : decode cX6_pointsByFile 136 = .ok (.aload 7, 2) := by decide +kernel
theorem dX6_pointsByFile_138 : decode cX6_pointsByFile 138 = .ok (.getfield 368, 3) := by decide +kernel
theorem dX6_pointsByFile_141 : decode cX6_pointsByFile 141 = .ok (.invokestatic 375, 3) := by decide +kernel
theorem dX6_pointsByFile_144 : decode cX6_pointsByFile 144 = .ok (.ifCond .eq 7, 3) := by decide +kernel
theorem dX6_pointsByFile_147 : decode cX6_pointsByFile 147 = .ok (.iconst 1, 1) := by decide +kernel
theorem dX6_pointsByFile_148 : decode cX6_pointsByFile 148 = .ok (.goto 4, 3) := by decide +kernel
theorem dX6_pointsByFile_151 : decode cX6_pointsByFile 151 = .ok (.iconst 0, 1) := by decide +kernel
theorem dX6_pointsByFile_152 : decode cX6_pointsByFile 152 = .ok (.iadd, 1) := by decide +kernel
theorem dX6_pointsByFile_153 : decode cX6_pointsByFile 153 = .ok (.istore 4, 2) := by decide +kernel
theorem dX6_pointsByFile_155 : decode cX6_pointsByFile 155 = .ok (.iinc 6 1, 3) := by decide +kernel
theorem dX6_pointsByFile_158 : decode cX6_pointsByFile 158 = .ok (.goto (-145), 3) := by decide +kernel
theorem dX6_pointsByFile_161 : decode cX6_pointsByFile 161 = .ok (.iload_n 2, 1) := by decide +kernel
theorem dX6_pointsByFile_162 : decode cX6_pointsByFile 162 = .ok (.iload_n 3, 1) := by decide +kernel
theorem dX6_pointsByFile_163 : decode cX6_pointsByFile 163 = .ok (.iadd, 1) := by decide +kernel
theorem dX6_pointsByFile_164 : decode cX6_pointsByFile 164 = .ok (.iload 5, 2) := by decide +kernel
theorem dX6_pointsByFile_166 : decode cX6_pointsByFile 166 = .ok (.iload 4, 2) := by decide +kernel
theorem dX6_pointsByFile_168 : decode cX6_pointsByFile 168 = .ok (.invokestatic 355, 3) := by decide +kernel
theorem dX6_pointsByFile_171 : decode cX6_pointsByFile 171 = .ok (.iadd, 1) := by decide +kernel
theorem dX6_pointsByFile_172 : decode cX6_pointsByFile 172 = .ok (.ireturn, 1) := by decide +kernel
theorem dX6_countsByFile_0 : decode cX6_countsByFile 0 = .ok (.aload_n 0, 1) := by decide +kernel
theorem dX6_countsByFile_1 : decode cX6_countsByFile 1 = .ok (.iconst 4, 1) := by decide +kernel
theorem dX6_countsByFile_2 : decode cX6_countsByFile 2 = .ok (.iload_n 1, 1) := by decide +kernel
theorem dX6_countsByFile_3 : decode cX6_countsByFile 3 = .ok (.invokestatic 371, 3) := by decide +kernel
theorem dX6_countsByFile_6 : decode cX6_countsByFile 6 = .ok (.ifCond .le 17, 3) := by decide +kernel
theorem dX6_countsByFile_9 : decode cX6_countsByFile 9 = .ok (.aload_n 0, 1) := by decide +kernel
theorem dX6_countsByFile_10 : decode cX6_countsByFile 10 = .ok (.iconst 5, 1) := by decide +kernel
theorem dX6_countsByFile_11 : decode cX6_countsByFile 11 = .ok (.iload_n 1, 1) := by decide +kernel
theorem dX6_countsByFile_12 : decode cX6_countsByFile 12 = .ok (.invokestatic 371, 3) := by decide +kernel
theorem dX6_countsByFile_15 : decode cX6_countsByFile 15 = .ok (.iconst 2, 1) := by decide +kernel
theorem dX6_countsByFile_16 : decode cX6_countsByFile 16 = .ok (.if_icmp .ge 7, 3) := by decide +kernel
theorem dX6_countsByFile_19 : decode cX6_countsByFile 19 = .ok (.iconst 1, 1) := by decide +kernel
theorem dX6_countsByFile_20 : decode cX6_countsByFile 20 = .ok (.goto 4, 3) := by decide +kernel
theorem dX6_countsByFile_23 : decode cX6_countsByFile 23 = .ok (.iconst 0, 1) := by decide +kernel
theorem dX6_countsByFile_24 : decode cX6_countsByFile 24 = .ok (.ireturn, 1) := by decide +kernel
theorem dX6_notesOf_0 : decode cX6_notesOf 0 = .ok (.iconst 0, 1) := by decide +kernel
theorem dX6_notesOf_1 : decode cX6_notesOf 1 = .ok (.istore_n 3, 1) := by decide +kernel
theorem dX6_notesOf_2 : decode cX6_notesOf 2 = .ok (.iconst 0, 1) := by decide +kernel
theorem dX6_notesOf_3 : decode cX6_notesOf 3 = .ok (.istore 4, 2) := by decide +kernel
theorem dX6_notesOf_5 : decode cX6_notesOf 5 = .ok (.iload 4, 2) := by decide +kernel
theorem dX6_notesOf_7 : decode cX6_notesOf 7 = .ok (.aload_n 0, 1) := by decide +kernel
theorem dX6_notesOf_8 : decode cX6_notesOf 8 = .ok (.invokevirtual 58, 3) := by decide +kernel
theorem dX6_notesOf_11 : decode cX6_notesOf 11 = .ok (.if_icmp .ge 41, 3) := by decide +kernel
theorem dX6_notesOf_14 : decode cX6_notesOf 14 = .ok (.aload_n 0, 1) := by decide +kernel
theorem dX6_notesOf_15 : decode cX6_notesOf 15 = .ok (.iload 4, 2) := by decide +kernel
theorem dX6_notesOf_17 : decode cX6_notesOf 17 = .ok (.invokevirtual 224, 3) := by decide +kernel
theorem dX6_notesOf_20 : decode cX6_notesOf 20 = .ok (.checkcast 69, 3) := by decide +kernel
theorem dX6_notesOf_23 : decode cX6_notesOf 23 = .ok (.astore 5, 2) := by decide +kernel
theorem dX6_notesOf_25 : decode cX6_notesOf 25 = .ok (.aload 5, 2) := by decide +kernel
theorem dX6_notesOf_27 : decode cX6_notesOf 27 = .ok (.getfield 359, 3) := by decide +kernel
theorem dX6_notesOf_30 : decode cX6_notesOf 30 = .ok (.iload_n 1, 1) := by decide +kernel
theorem dX6_notesOf_31 : decode cX6_notesOf 31 = .ok (.if_icmp .ne 15, 3) := by decide +kernel
theorem dX6_notesOf_34 : decode cX6_notesOf 34 = .ok (.aload 5, 2) := by decide +kernel
theorem dX6_notesOf_36 : decode cX6_notesOf 36 = .ok (.getfield 368, 3) := by decide +kernel
theorem dX6_notesOf_39 : decode cX6_notesOf 39 = .ok (.iload_n 2, 1) := by decide +kernel
theorem dX6_notesOf_40 : decode cX6_notesOf 40 = .ok (.if_icmp .ne 6, 3) := by decide +kernel
theorem dX6_notesOf_43 : decode cX6_notesOf 43 = .ok (.iinc 3 1, 3) := by decide +kernel
theorem dX6_notesOf_46 : decode cX6_notesOf 46 = .ok (.iinc 4 1, 3) := by decide +kernel
theorem dX6_notesOf_49 : decode cX6_notesOf 49 = .ok (.goto (-44), 3) := by decide +kernel
theorem dX6_notesOf_52 : decode cX6_notesOf 52 = .ok (.iload_n 3, 1) := by decide +kernel
theorem dX6_notesOf_53 : decode cX6_notesOf 53 = .ok (.ireturn, 1) := by decide +kernel
theorem dX6_pointsOfMake_0 : decode cX6_pointsOfMake 0 = .ok (.iload_n 2, 1) := by decide +kernel
theorem dX6_pointsOfMake_1 : decode cX6_pointsOfMake 1 = .ok (.iconst 2, 1) := by decide +kernel
theorem dX6_pointsOfMake_2 : decode cX6_pointsOfMake 2 = .ok (.if_icmp .ne 7, 3) := by decide +kernel
theorem dX6_pointsOfMake_5 : decode cX6_pointsOfMake 5 = .ok (.iconst 2, 1) := by decide +kernel
theorem dX6_pointsOfMake_6 : decode cX6_pointsOfMake 6 = .ok (.goto 13, 3) := by decide +kernel
theorem dX6_pointsOfMake_9 : decode cX6_pointsOfMake 9 = .ok (.iload_n 2, 1) := by decide +kernel
theorem dX6_pointsOfMake_10 : decode cX6_pointsOfMake 10 = .ok (.iconst 1, 1) := by decide +kernel
theorem dX6_pointsOfMake_11 : decode cX6_pointsOfMake 11 = .ok (.if_icmp .ne 7, 3) := by decide +kernel
theorem dX6_pointsOfMake_14 : decode cX6_pointsOfMake 14 = .ok (.iconst 1, 1) := by decide +kernel
theorem dX6_pointsOfMake_15 : decode cX6_pointsOfMake 15 = .ok (.goto 4, 3) := by decide +kernel
theorem dX6_pointsOfMake_18 : decode cX6_pointsOfMake 18 = .ok (.iconst 0, 1) := by decide +kernel
theorem dX6_pointsOfMake_19 : decode cX6_pointsOfMake 19 = .ok (.istore_n 3, 1) := by decide +kernel
theorem dX6_pointsOfMake_20 : decode cX6_pointsOfMake 20 = .ok (.aload_n 0, 1) := by decide +kernel
theorem dX6_pointsOfMake_21 : decode cX6_pointsOfMake 21 = .ok (.iload_n 1, 1) := by decide +kernel
theorem dX6_pointsOfMake_22 : decode cX6_pointsOfMake 22 = .ok (.invokevirtual 379, 3) := by decide +kernel
theorem dX6_pointsOfMake_25 : decode cX6_pointsOfMake 25 = .ok (.ifCond .eq 7, 3) := by decide +kernel
theorem dX6_pointsOfMake_28 : decode cX6_pointsOfMake 28 = .ok (.iconst 1, 1) := by decide +kernel
theorem dX6_pointsOfMake_29 : decode cX6_pointsOfMake 29 = .ok (.goto 4, 3) := by decide +kernel
theorem dX6_pointsOfMake_32 : decode cX6_pointsOfMake 32 = .ok (.iconst 0, 1) := by decide +kernel
theorem dX6_pointsOfMake_33 : decode cX6_pointsOfMake 33 = .ok (.iload_n 3, 1) := by decide +kernel
theorem dX6_pointsOfMake_34 : decode cX6_pointsOfMake 34 = .ok (.iadd, 1) := by decide +kernel
theorem dX6_pointsOfMake_35 : decode cX6_pointsOfMake 35 = .ok (.ireturn, 1) := by decide +kernel
theorem dX6_pointsOfBelonging_0 : decode cX6_pointsOfBelonging 0 = .ok (.aload_n 0, 1) := by decide +kernel
theorem dX6_pointsOfBelonging_1 : decode cX6_pointsOfBelonging 1 = .ok (.iload_n 1, 1) := by decide +kernel
theorem dX6_pointsOfBelonging_2 : decode cX6_pointsOfBelonging 2 = .ok (.invokevirtual 317, 3) := by decide +kernel
theorem dX6_pointsOfBelonging_5 : decode cX6_pointsOfBelonging 5 = .ok (.istore_n 3, 1) := by decide +kernel
theorem dX6_pointsOfBelonging_6 : decode cX6_pointsOfBelonging 6 = .ok (.iload_n 3, 1) := by decide +kernel
theorem dX6_pointsOfBelonging_7 : decode cX6_pointsOfBelonging 7 = .ok (.iconst 3, 1) := by decide +kernel
theorem dX6_pointsOfBelonging_8 : decode cX6_pointsOfBelonging 8 = .ok (.if_icmp .ne 7, 3) := by decide +kernel
theorem dX6_pointsOfBelonging_11 : decode cX6_pointsOfBelonging 11 = .ok (.iconst 2, 1) := by decide +kernel
theorem dX6_pointsOfBelonging_12 : decode cX6_pointsOfBelonging 12 = .ok (.goto 13, 3) := by decide +kernel
theorem dX6_pointsOfBelonging_15 : decode cX6_pointsOfBelonging 15 = .ok (.iload_n 3, 1) := by decide +kernel
theorem dX6_pointsOfBelonging_16 : decode cX6_pointsOfBelonging 16 = .ok (.iconst 2, 1) := by decide +kernel
theorem dX6_pointsOfBelonging_17 : decode cX6_pointsOfBelonging 17 = .ok (.if_icmp .ne 7, 3) := by decide +kernel
theorem dX6_pointsOfBelonging_20 : decode cX6_pointsOfBelonging 20 = .ok (.iconst 1, 1) := by decide +kernel
theorem dX6_pointsOfBelonging_21 : decode cX6_pointsOfBelonging 21 = .ok (.goto 4, 3) := by decide +kernel
theorem dX6_pointsOfBelonging_24 : decode cX6_pointsOfBelonging 24 = .ok (.iconst 0, 1) := by decide +kernel
theorem dX6_pointsOfBelonging_25 : decode cX6_pointsOfBelonging 25 = .ok (.istore 4, 2) := by decide +kernel
theorem dX6_pointsOfBelonging_27 : decode cX6_pointsOfBelonging 27 = .ok (.iload 4, 2) := by decide +kernel
theorem dX6_pointsOfBelonging_29 : decode cX6_pointsOfBelonging 29 = .ok (.aload_n 0, 1) := by decide +kernel
theorem dX6_pointsOfBelonging_30 : decode cX6_pointsOfBelonging 30 = .ok (.iload_n 2, 1) := by decide +kernel
theorem dX6_pointsOfBelonging_31 : decode cX6_pointsOfBelonging 31 = .ok (.invokevirtual 112, 3) := by decide +kernel
theorem dX6_pointsOfBelonging_34 : decode cX6_pointsOfBelonging 34 = .ok (.ifCond .eq 7, 3) := by decide +kernel
theorem dX6_pointsOfBelonging_37 : decode cX6_pointsOfBelonging 37 = .ok (.iconst 1, 1) := by decide +kernel
theorem dX6_pointsOfBelonging_38 : decode cX6_pointsOfBelonging 38 = .ok (.goto 4, 3) := by decide +kernel
theorem dX6_pointsOfBelonging_41 : decode cX6_pointsOfBelonging 41 = .ok (.iconst 0, 1) := by decide +kernel
theorem dX6_pointsOfBelonging_42 : decode cX6_pointsOfBelonging 42 = .ok (.iadd, 1) := by decide +kernel
theorem dX6_pointsOfBelonging_43 : decode cX6_pointsOfBelonging 43 = .ok (.ireturn, 1) := by decide +kernel
theorem dX6_pointsOfVisits_0 : decode cX6_pointsOfVisits 0 = .ok (.iload_n 0, 1) := by decide +kernel
theorem dX6_pointsOfVisits_1 : decode cX6_pointsOfVisits 1 = .ok (.ifCond .eq 7, 3) := by decide +kernel
theorem dX6_pointsOfVisits_4 : decode cX6_pointsOfVisits 4 = .ok (.iconst 1, 1) := by decide +kernel
theorem dX6_pointsOfVisits_5 : decode cX6_pointsOfVisits 5 = .ok (.goto 4, 3) := by decide +kernel
theorem dX6_pointsOfVisits_8 : decode cX6_pointsOfVisits 8 = .ok (.iconst 0, 1) := by decide +kernel
theorem dX6_pointsOfVisits_9 : decode cX6_pointsOfVisits 9 = .ok (.iload_n 1, 1) := by decide +kernel
theorem dX6_pointsOfVisits_10 : decode cX6_pointsOfVisits 10 = .ok (.iconst 2, 1) := by decide +kernel
theorem dX6_pointsOfVisits_11 : decode cX6_pointsOfVisits 11 = .ok (.invokestatic 382, 3) := by decide +kernel
theorem dX6_pointsOfVisits_14 : decode cX6_pointsOfVisits 14 = .ok (.iadd, 1) := by decide +kernel
theorem dX6_pointsOfVisits_15 : decode cX6_pointsOfVisits 15 = .ok (.ireturn, 1) := by decide +kernel
theorem dX6_isOld_0 : decode cX6_isOld 0 = .ok (.aload_n 0, 1) := by decide +kernel
theorem dX6_isOld_1 : decode cX6_isOld 1 = .ok (.getfield 30, 3) := by decide +kernel
theorem dX6_isOld_4 : decode cX6_isOld 4 = .ok (.iload_n 1, 1) := by decide +kernel
theorem dX6_isOld_5 : decode cX6_isOld 5 = .ok (.isub, 1) := by decide +kernel
theorem dX6_isOld_6 : decode cX6_isOld 6 = .ok (.sipush 4380, 3) := by decide +kernel
theorem dX6_isOld_9 : decode cX6_isOld 9 = .ok (.if_icmp .le 7, 3) := by decide +kernel
theorem dX6_isOld_12 : decode cX6_isOld 12 = .ok (.iconst 1, 1) := by decide +kernel
theorem dX6_isOld_13 : decode cX6_isOld 13 = .ok (.goto 4, 3) := by decide +kernel
theorem dX6_isOld_16 : decode cX6_isOld 16 = .ok (.iconst 0, 1) := by decide +kernel
theorem dX6_isOld_17 : decode cX6_isOld 17 = .ok (.ireturn, 1) := by decide +kernel
theorem dX6_riskOf_0 : decode cX6_riskOf 0 = .ok (.aload_n 0, 1) := by decide +kernel
theorem dX6_riskOf_1 : decode cX6_riskOf 1 = .ok (.aload_n 1, 1) := by decide +kernel
theorem dX6_riskOf_2 : decode cX6_riskOf 2 = .ok (.invokevirtual 293, 3) := by decide +kernel
theorem dX6_riskOf_5 : decode cX6_riskOf 5 = .ok (.istore_n 2, 1) := by decide +kernel
theorem dX6_riskOf_6 : decode cX6_riskOf 6 = .ok (.iload_n 2, 1) := by decide +kernel
theorem dX6_riskOf_7 : decode cX6_riskOf 7 = .ok (.iconst 5, 1) := by decide +kernel
theorem dX6_riskOf_8 : decode cX6_riskOf 8 = .ok (.if_icmp .lt 5, 3) := by decide +kernel
theorem dX6_riskOf_11 : decode cX6_riskOf 11 = .ok (.iconst 2, 1) := by decide +kernel
theorem dX6_riskOf_12 : decode cX6_riskOf 12 = .ok (.ireturn, 1) := by decide +kernel
theorem dX6_riskOf_13 : decode cX6_riskOf 13 = .ok (.iload_n 2, 1) := by decide +kernel
theorem dX6_riskOf_14 : decode cX6_riskOf 14 = .ok (.ifCond .ne 19, 3) := by decide +kernel
theorem dX6_riskOf_17 : decode cX6_riskOf 17 = .ok (.aload_n 0, 1) := by decide +kernel
theorem dX6_riskOf_18 : decode cX6_riskOf 18 = .ok (.aload_n 1, 1) := by decide +kernel
theorem dX6_riskOf_19 : decode cX6_riskOf 19 = .ok (.getfield 86, 3) := by decide +kernel
theorem dX6_riskOf_22 : decode cX6_riskOf 22 = .ok (.invokevirtual 317, 3) := by decide +kernel
theorem dX6_riskOf_25 : decode cX6_riskOf 25 = .ok (.iconst 1, 1) := by decide +kernel
theorem dX6_riskOf_26 : decode cX6_riskOf 26 = .ok (.if_icmp .ne 7, 3) := by decide +kernel
theorem dX6_riskOf_29 : decode cX6_riskOf 29 = .ok (.iconst 0, 1) := by decide +kernel
theorem dX6_riskOf_30 : decode cX6_riskOf 30 = .ok (.goto 4, 3) := by decide +kernel
theorem dX6_riskOf_33 : decode cX6_riskOf 33 = .ok (.iconst 1, 1) := by decide +kernel
theorem dX6_riskOf_34 : decode cX6_riskOf 34 = .ok (.ireturn, 1) := by decide +kernel
theorem dX6_priorityOf_0 : decode cX6_priorityOf 0 = .ok (.aload_n 1, 1) := by decide +kernel
theorem dX6_priorityOf_1 : decode cX6_priorityOf 1 = .ok (.getfield 187, 3) := by decide +kernel
theorem dX6_priorityOf_4 : decode cX6_priorityOf 4 = .ok (.astore_n 2, 1) := by decide +kernel
theorem dX6_priorityOf_5 : decode cX6_priorityOf 5 = .ok (.aload_n 2, 1) := by decide +kernel
theorem dX6_priorityOf_6 : decode cX6_priorityOf 6 = .ok (.ifnonnull 5, 3) := by decide +kernel
theorem dX6_priorityOf_9 : decode cX6_priorityOf 9 = .ok (.iconst 2, 1) := by decide +kernel
theorem dX6_priorityOf_10 : decode cX6_priorityOf 10 = .ok (.ireturn, 1) := by decide +kernel
theorem dX6_priorityOf_11 : decode cX6_priorityOf 11 = .ok (.aload_n 0, 1) := by decide +kernel
theorem dX6_priorityOf_12 : decode cX6_priorityOf 12 = .ok (.getfield 30, 3) := by decide +kernel
theorem dX6_priorityOf_15 : decode cX6_priorityOf 15 = .ok (.aload_n 2, 1) := by decide +kernel
theorem dX6_priorityOf_16 : decode cX6_priorityOf 16 = .ok (.getfield 309, 3) := by decide +kernel
theorem dX6_priorityOf_19 : decode cX6_priorityOf 19 = .ok (.isub, 1) := by decide +kernel
theorem dX6_priorityOf_20 : decode cX6_priorityOf 20 = .ok (.istore_n 3, 1) := by decide +kernel
theorem dX6_priorityOf_21 : decode cX6_priorityOf 21 = .ok (.aload_n 0, 1) := by decide +kernel
theorem dX6_priorityOf_22 : decode cX6_priorityOf 22 = .ok (.aload_n 1, 1) := by decide +kernel
theorem dX6_priorityOf_23 : decode cX6_priorityOf 23 = .ok (.invokevirtual 296, 3) := by decide +kernel
theorem dX6_priorityOf_26 : decode cX6_priorityOf 26 = .ok (.istore 4, 2) := by decide +kernel
theorem dX6_priorityOf_28 : decode cX6_priorityOf 28 = .ok (.iload_n 3, 1) := by decide +kernel
theorem dX6_priorityOf_29 : decode cX6_priorityOf 29 = .ok (.iload 4, 2) := by decide +kernel
theorem dX6_priorityOf_31 : decode cX6_priorityOf 31 = .ok (.invokestatic 387, 3) := by decide +kernel
theorem dX6_priorityOf_34 : decode cX6_priorityOf 34 = .ok (.if_icmp .le 5, 3) := by decide +kernel
theorem dX6_priorityOf_37 : decode cX6_priorityOf 37 = .ok (.iconst 2, 1) := by decide +kernel
theorem dX6_priorityOf_38 : decode cX6_priorityOf 38 = .ok (.ireturn, 1) := by decide +kernel
theorem dX6_priorityOf_39 : decode cX6_priorityOf 39 = .ok (.iload_n 3, 1) := by decide +kernel
theorem dX6_priorityOf_40 : decode cX6_priorityOf 40 = .ok (.iload 4, 2) := by decide +kernel
theorem dX6_priorityOf_42 : decode cX6_priorityOf 42 = .ok (.invokestatic 390, 3) := by decide +kernel
theorem dX6_priorityOf_45 : decode cX6_priorityOf 45 = .ok (.if_icmp .lt 7, 3) := by decide +kernel
theorem dX6_priorityOf_48 : decode cX6_priorityOf 48 = .ok (.iconst 1, 1) := by decide +kernel
theorem dX6_priorityOf_49 : decode cX6_priorityOf 49 = .ok (.goto 4, 3) := by decide +kernel
theorem dX6_priorityOf_52 : decode cX6_priorityOf 52 = .ok (.iconst 0, 1) := by decide +kernel
theorem dX6_priorityOf_53 : decode cX6_priorityOf 53 = .ok (.ireturn, 1) := by decide +kernel
theorem dX6_windowBegin_0 : decode cX6_windowBegin 0 = .ok (.iload_n 0, 1) := by decide +kernel
theorem dX6_windowBegin_1 : decode cX6_windowBegin 1 = .ok (.lookupswitch 35 #[(0, 31), (2, 27)], 27) := by decide +kernel
theorem dX6_windowBegin_28 : decode cX6_windowBegin 28 = .ok (.sipush 150, 3) := by decide +kernel
theorem dX6_windowBegin_31 : decode cX6_windowBegin 31 = .ok (.ireturn, 1) := by decide +kernel
theorem dX6_windowBegin_32 : decode cX6_windowBegin 32 = .ok (.sipush 720, 3) := by decide +kernel
theorem dX6_windowBegin_35 : decode cX6_windowBegin 35 = .ok (.ireturn, 1) := by decide +kernel
theorem dX6_windowBegin_36 : decode cX6_windowBegin 36 = .ok (.sipush 300, 3) := by decide +kernel
theorem dX6_windowBegin_39 : decode cX6_windowBegin 39 = .ok (.ireturn, 1) := by decide +kernel
theorem dX6_windowEnd_0 : decode cX6_windowEnd 0 = .ok (.iload_n 0, 1) := by decide +kernel
theorem dX6_windowEnd_1 : decode cX6_windowEnd 1 = .ok (.lookupswitch 35 #[(0, 31), (2, 27)], 27) := by decide +kernel
theorem dX6_windowEnd_28 : decode cX6_windowEnd 28 = .ok (.sipush 180, 3) := by decide +kernel
theorem dX6_windowEnd_31 : decode cX6_windowEnd 31 = .ok (.ireturn, 1) := by decide +kernel
theorem dX6_windowEnd_32 : decode cX6_windowEnd 32 = .ok (.sipush 1080, 3) := by decide +kernel
theorem dX6_windowEnd_35 : decode cX6_windowEnd 35 = .ok (.ireturn, 1) := by decide +kernel
theorem dX6_windowEnd_36 : decode cX6_windowEnd 36 = .ok (.sipush 360, 3) := by decide +kernel
theorem dX6_windowEnd_39 : decode cX6_windowEnd 39 = .ok (.ireturn, 1) := by decide +kernel
theorem dX6_depthOfNext_0 : decode cX6_depthOfNext 0 = .ok (.aload_n 0, 1) := by decide +kernel
theorem dX6_depthOfNext_1 : decode cX6_depthOfNext 1 = .ok (.aload_n 1, 1) := by decide +kernel
theorem dX6_depthOfNext_2 : decode cX6_depthOfNext 2 = .ok (.invokevirtual 296, 3) := by decide +kernel
theorem dX6_depthOfNext_5 : decode cX6_depthOfNext 5 = .ok (.iconst 2, 1) := by decide +kernel
theorem dX6_depthOfNext_6 : decode cX6_depthOfNext 6 = .ok (.if_icmp .eq 21, 3) := by decide +kernel
theorem dX6_depthOfNext_9 : decode cX6_depthOfNext 9 = .ok (.aload_n 0, 1) := by decide +kernel
theorem dX6_depthOfNext_10 : decode cX6_depthOfNext 10 = .ok (.aload_n 1, 1) := by decide +kernel
theorem dX6_depthOfNext_11 : decode cX6_depthOfNext 11 = .ok (.getfield 342, 3) := by decide +kernel
theorem dX6_depthOfNext_14 : decode cX6_depthOfNext 14 = .ok (.invokevirtual 379, 3) := by decide +kernel
theorem dX6_depthOfNext_17 : decode cX6_depthOfNext 17 = .ok (.ifCond .eq 12, 3) := by decide +kernel
theorem dX6_depthOfNext_20 : decode cX6_depthOfNext 20 = .ok (.aload_n 1, 1) := by decide +kernel
theorem dX6_depthOfNext_21 : decode cX6_depthOfNext 21 = .ok (.getfield 345, 3) := by decide +kernel
theorem dX6_depthOfNext_24 : decode cX6_depthOfNext 24 = .ok (.ifCond .eq 5, 3) := by decide +kernel
theorem dX6_depthOfNext_27 : decode cX6_depthOfNext 27 = .ok (.iconst 2, 1) := by decide +kernel
theorem dX6_depthOfNext_28 : decode cX6_depthOfNext 28 = .ok (.ireturn, 1) := by decide +kernel
theorem dX6_depthOfNext_29 : decode cX6_depthOfNext 29 = .ok (.aload_n 0, 1) := by decide +kernel
theorem dX6_depthOfNext_30 : decode cX6_depthOfNext 30 = .ok (.aload_n 1, 1) := by decide +kernel
theorem dX6_depthOfNext_31 : decode cX6_depthOfNext 31 = .ok (.invokevirtual 120, 3) := by decide +kernel
theorem dX6_depthOfNext_34 : decode cX6_depthOfNext 34 = .ok (.ifCond .ne 11, 3) := by decide +kernel
theorem dX6_depthOfNext_37 : decode cX6_depthOfNext 37 = .ok (.aload_n 0, 1) := by decide +kernel
theorem dX6_depthOfNext_38 : decode cX6_depthOfNext 38 = .ok (.aload_n 1, 1) := by decide +kernel
theorem dX6_depthOfNext_39 : decode cX6_depthOfNext 39 = .ok (.invokevirtual 393, 3) := by decide +kernel
theorem dX6_depthOfNext_42 : decode cX6_depthOfNext 42 = .ok (.ifCond .eq 7, 3) := by decide +kernel
theorem dX6_depthOfNext_45 : decode cX6_depthOfNext 45 = .ok (.iconst 1, 1) := by decide +kernel
theorem dX6_depthOfNext_46 : decode cX6_depthOfNext 46 = .ok (.goto 4, 3) := by decide +kernel
theorem dX6_depthOfNext_49 : decode cX6_depthOfNext 49 = .ok (.iconst 0, 1) := by decide +kernel
theorem dX6_depthOfNext_50 : decode cX6_depthOfNext 50 = .ok (.ireturn, 1) := by decide +kernel
theorem dX6_hasPutOffUnmended_0 : decode cX6_hasPutOffUnmended 0 = .ok (.iconst 0, 1) := by decide +kernel
theorem dX6_hasPutOffUnmended_1 : decode cX6_hasPutOffUnmended 1 = .ok (.istore_n 2, 1) := by decide +kernel
theorem dX6_hasPutOffUnmended_2 : decode cX6_hasPutOffUnmended 2 = .ok (.iload_n 2, 1) := by decide +kernel
theorem dX6_hasPutOffUnmended_3 : decode cX6_hasPutOffUnmended 3 = .ok (.aload_n 0, 1) := by decide +kernel
theorem dX6_hasPutOffUnmended_4 : decode cX6_hasPutOffUnmended 4 = .ok (.getfield 19, 3) := by decide +kernel
theorem dX6_hasPutOffUnmended_7 : decode cX6_hasPutOffUnmended 7 = .ok (.invokevirtual 58, 3) := by decide +kernel
theorem dX6_hasPutOffUnmended_10 : decode cX6_hasPutOffUnmended 10 = .ok (.if_icmp .ge 38, 3) := by decide +kernel
theorem dX6_hasPutOffUnmended_13 : decode cX6_hasPutOffUnmended 13 = .ok (.aload_n 0, 1) := by decide +kernel
theorem dX6_hasPutOffUnmended_14 : decode cX6_hasPutOffUnmended 14 = .ok (.getfield 19, 3) := by decide +kernel
theorem dX6_hasPutOffUnmended_17 : decode cX6_hasPutOffUnmended 17 = .ok (.iload_n 2, 1) := by decide +kernel
theorem dX6_hasPutOffUnmended_18 : decode cX6_hasPutOffUnmended 18 = .ok (.invokevirtual 224, 3) := by decide +kernel
theorem dX6_hasPutOffUnmended_21 : decode cX6_hasPutOffUnmended 21 = .ok (.checkcast 179, 3) := by decide +kernel
theorem dX6_hasPutOffUnmended_24 : decode cX6_hasPutOffUnmended 24 = .ok (.astore_n 3, 1) := by decide +kernel
theorem dX6_hasPutOffUnmended_25 : decode cX6_hasPutOffUnmended 25 = .ok (.aload_n 3, 1) := by decide +kernel
theorem dX6_hasPutOffUnmended_26 : decode cX6_hasPutOffUnmended 26 = .ok (.getfield 201, 3) := by decide +kernel
theorem dX6_hasPutOffUnmended_29 : decode cX6_hasPutOffUnmended 29 = .ok (.aload_n 1, 1) := by decide +kernel
theorem dX6_hasPutOffUnmended_30 : decode cX6_hasPutOffUnmended 30 = .ok (.if_acmp .ne 12, 3) := by decide +kernel
theorem dX6_hasPutOffUnmended_33 : decode cX6_hasPutOffUnmended 33 = .ok (.aload_n 3, 1) := by decide +kernel
theorem dX6_hasPutOffUnmended_34 : decode cX6_hasPutOffUnmended 34 = .ok (.invokevirtual 396, 3) := by decide +kernel
theorem dX6_hasPutOffUnmended_37 : decode cX6_hasPutOffUnmended 37 = .ok (.ifCond .eq 5, 3) := by decide +kernel
theorem dX6_hasPutOffUnmended_40 : decode cX6_hasPutOffUnmended 40 = .ok (.iconst 1, 1) := by decide +kernel
theorem dX6_hasPutOffUnmended_41 : decode cX6_hasPutOffUnmended 41 = .ok (.ireturn, 1) := by decide +kernel
theorem dX6_hasPutOffUnmended_42 : decode cX6_hasPutOffUnmended 42 = .ok (.iinc 2 1, 3) := by decide +kernel
theorem dX6_hasPutOffUnmended_45 : decode cX6_hasPutOffUnmended 45 = .ok (.goto (-43), 3) := by decide +kernel
theorem dX6_hasPutOffUnmended_48 : decode cX6_hasPutOffUnmended 48 = .ok (.iconst 0, 1) := by decide +kernel
theorem dX6_hasPutOffUnmended_49 : decode cX6_hasPutOffUnmended 49 = .ok (.ireturn, 1) := by decide +kernel
theorem dX6_hasLeftSince_0 : decode cX6_hasLeftSince 0 = .ok (.aload_n 0, 1) := by decide +kernel
theorem dX6_hasLeftSince_1 : decode cX6_hasLeftSince 1 = .ok (.getfield 201, 3) := by decide +kernel
theorem dX6_hasLeftSince_4 : decode cX6_hasLeftSince 4 = .ok (.getfield 174, 3) := by decide +kernel
theorem dX6_hasLeftSince_7 : decode cX6_hasLeftSince 7 = .ok (.aload_n 0, 1) := by decide +kernel
theorem dX6_hasLeftSince_8 : decode cX6_hasLeftSince 8 = .ok (.if_acmp .eq 7, 3) := by decide +kernel
theorem dX6_hasLeftSince_11 : decode cX6_hasLeftSince 11 = .ok (.iconst 1, 1) := by decide +kernel
theorem dX6_hasLeftSince_12 : decode cX6_hasLeftSince 12 = .ok (.goto 4, 3) := by decide +kernel
theorem dX6_hasLeftSince_15 : decode cX6_hasLeftSince 15 = .ok (.iconst 0, 1) := by decide +kernel
theorem dX6_hasLeftSince_16 : decode cX6_hasLeftSince 16 = .ok (.ireturn, 1) := by decide +kernel
theorem dX6_isDetainable_0 : decode cX6_isDetainable 0 = .ok (.aload_n 1, 1) := by decide +kernel
theorem dX6_isDetainable_1 : decode cX6_isDetainable 1 = .ok (.invokevirtual 398, 3) := by decide +kernel
theorem dX6_isDetainable_4 : decode cX6_isDetainable 4 = .ok (.bipush 10, 2) := by decide +kernel
theorem dX6_isDetainable_6 : decode cX6_isDetainable 6 = .ok (.if_icmp .ge 14, 3) := by decide +kernel
theorem dX6_isDetainable_9 : decode cX6_isDetainable 9 = .ok (.aload_n 0, 1) := by decide +kernel
theorem dX6_isDetainable_10 : decode cX6_isDetainable 10 = .ok (.aload_n 1, 1) := by decide +kernel
theorem dX6_isDetainable_11 : decode cX6_isDetainable 11 = .ok (.getfield 201, 3) := by decide +kernel
theorem dX6_isDetainable_14 : decode cX6_isDetainable 14 = .ok (.invokevirtual 120, 3) := by decide +kernel
theorem dX6_isDetainable_17 : decode cX6_isDetainable 17 = .ok (.ifCond .eq 7, 3) := by decide +kernel
theorem dX6_isDetainable_20 : decode cX6_isDetainable 20 = .ok (.iconst 1, 1) := by decide +kernel
theorem dX6_isDetainable_21 : decode cX6_isDetainable 21 = .ok (.goto 4, 3) := by decide +kernel
theorem dX6_isDetainable_24 : decode cX6_isDetainable 24 = .ok (.iconst 0, 1) := by decide +kernel
theorem dX6_isDetainable_25 : decode cX6_isDetainable 25 = .ok (.ireturn, 1) := by decide +kernel
theorem dX6_detentionsThatCount_0 : decode cX6_detentionsThatCount 0 = .ok (.iconst 0, 1) := by decide +kernel
theorem dX6_detentionsThatCount_1 : decode cX6_detentionsThatCount 1 = .ok (.istore_n 2, 1) := by decide +kernel
theorem dX6_detentionsThatCount_2 : decode cX6_detentionsThatCount 2 = .ok (.iconst 0, 1) := by decide +kernel
theorem dX6_detentionsThatCount_3 : decode cX6_detentionsThatCount 3 = .ok (.istore_n 3, 1) := by decide +kernel
theorem dX6_detentionsThatCount_4 : decode cX6_detentionsThatCount 4 = .ok (.iload_n 3, 1) := by decide +kernel
theorem dX6_detentionsThatCount_5 : decode cX6_detentionsThatCount 5 = .ok (.aload_n 0, 1) := by decide +kernel
theorem dX6_detentionsThatCount_6 : decode cX6_detentionsThatCount 6 = .ok (.getfield 19, 3) := by decide +kernel
theorem dX6_detentionsThatCount_9 : decode cX6_detentionsThatCount 9 = .ok (.invokevirtual 58, 3) := by decide +kernel
theorem dX6_detentionsThatCount_12 : decode cX6_detentionsThatCount 12 = .ok (.if_icmp .ge 31, 3) := by decide +kernel
theorem dX6_detentionsThatCount_15 : decode cX6_detentionsThatCount 15 = .ok (.aload_n 0, 1) := by decide +kernel
theorem dX6_detentionsThatCount_16 : decode cX6_detentionsThatCount 16 = .ok (.aload_n 0, 1) := by decide +kernel
theorem dX6_detentionsThatCount_17 : decode cX6_detentionsThatCount 17 = .ok (.getfield 19, 3) := by decide +kernel
theorem dX6_detentionsThatCount_20 : decode cX6_detentionsThatCount 20 = .ok (.iload_n 3, 1) := by decide +kernel
theorem dX6_detentionsThatCount_21 : decode cX6_detentionsThatCount 21 = .ok (.invokevirtual 224, 3) := by decide +kernel
theorem dX6_detentionsThatCount_24 : decode cX6_detentionsThatCount 24 = .ok (.checkcast 179, 3) := by decide +kernel
theorem dX6_detentionsThatCount_27 : decode cX6_detentionsThatCount 27 = .ok (.aload_n 1, 1) := by decide +kernel
theorem dX6_detentionsThatCount_28 : decode cX6_detentionsThatCount 28 = .ok (.invokevirtual 401, 3) := by decide +kernel
theorem dX6_detentionsThatCount_31 : decode cX6_detentionsThatCount 31 = .ok (.ifCond .eq 6, 3) := by decide +kernel
theorem dX6_detentionsThatCount_34 : decode cX6_detentionsThatCount 34 = .ok (.iinc 2 1, 3) := by decide +kernel
theorem dX6_detentionsThatCount_37 : decode cX6_detentionsThatCount 37 = .ok (.iinc 3 1, 3) := by decide +kernel
theorem dX6_detentionsThatCount_40 : decode cX6_detentionsThatCount 40 = .ok (.goto (-36), 3) := by decide +kernel
theorem dX6_detentionsThatCount_43 : decode cX6_detentionsThatCount 43 = .ok (.iload_n 2, 1) := by decide +kernel
theorem dX6_detentionsThatCount_44 : decode cX6_detentionsThatCount 44 = .ok (.ireturn, 1) := by decide +kernel
theorem dX6_isCounted_0 : decode cX6_isCounted 0 = .ok (.aload_n 1, 1) := by decide +kernel
theorem dX6_isCounted_1 : decode cX6_isCounted 1 = .ok (.getfield 201, 3) := by decide +kernel
theorem dX6_isCounted_4 : decode cX6_isCounted 4 = .ok (.aload_n 2, 1) := by decide +kernel
theorem dX6_isCounted_5 : decode cX6_isCounted 5 = .ok (.if_acmp .ne 25, 3) := by decide +kernel
theorem dX6_isCounted_8 : decode cX6_isCounted 8 = .ok (.aload_n 0, 1) := by decide +kernel
theorem dX6_isCounted_9 : decode cX6_isCounted 9 = .ok (.aload_n 1, 1) := by decide +kernel
theorem dX6_isCounted_10 : decode cX6_isCounted 10 = .ok (.getfield 309, 3) := by decide +kernel
theorem dX6_isCounted_13 : decode cX6_isCounted 13 = .ok (.invokevirtual 339, 3) := by decide +kernel
theorem dX6_isCounted_16 : decode cX6_isCounted 16 = .ok (.ifCond .eq 14, 3) := by decide +kernel
theorem dX6_isCounted_19 : decode cX6_isCounted 19 = .ok (.aload_n 1, 1) := by decide +kernel
theorem dX6_isCounted_20 : decode cX6_isCounted 20 = .ok (.invokevirtual 312, 3) := by decide +kernel
theorem dX6_isCounted_23 : decode cX6_isCounted 23 = .ok (.ifCond .eq 7, 3) := by decide +kernel
theorem dX6_isCounted_26 : decode cX6_isCounted 26 = .ok (.iconst 1, 1) := by decide +kernel
theorem dX6_isCounted_27 : decode cX6_isCounted 27 = .ok (.goto 4, 3) := by decide +kernel
theorem dX6_isCounted_30 : decode cX6_isCounted 30 = .ok (.iconst 0, 1) := by decide +kernel
theorem dX6_isCounted_31 : decode cX6_isCounted 31 = .ok (.ireturn, 1) := by decide +kernel
theorem dX6_lookForBan_0 : decode cX6_lookForBan 0 = .ok (.iconst 0, 1) := by decide +kernel
theorem dX6_lookForBan_1 : decode cX6_lookForBan 1 = .ok (.istore_n 2, 1) := by decide +kernel
theorem dX6_lookForBan_2 : decode cX6_lookForBan 2 = .ok (.iconst 0, 1) := by decide +kernel
theorem dX6_lookForBan_3 : decode cX6_lookForBan 3 = .ok (.istore_n 3, 1) := by decide +kernel
theorem dX6_lookForBan_4 : decode cX6_lookForBan 4 = .ok (.iload_n 3, 1) := by decide +kernel
theorem dX6_lookForBan_5 : decode cX6_lookForBan 5 = .ok (.aload_n 0, 1) := by decide +kernel
theorem dX6_lookForBan_6 : decode cX6_lookForBan 6 = .ok (.getfield 19, 3) := by decide +kernel
theorem dX6_lookForBan_9 : decode cX6_lookForBan 9 = .ok (.invokevirtual 58, 3) := by decide +kernel
theorem dX6_lookForBan_12 : decode cX6_lookForBan 12 = .ok (.if_icmp .ge 43, 3) := by decide +kernel
theorem dX6_lookForBan_15 : decode cX6_lookForBan 15 = .ok (.aload_n 0, 1) := by decide +kernel
theorem dX6_lookForBan_16 : decode cX6_lookForBan 16 = .ok (.getfield 19, 3) := by decide +kernel
theorem dX6_lookForBan_19 : decode cX6_lookForBan 19 = .ok (.iload_n 3, 1) := by decide +kernel
theorem dX6_lookForBan_20 : decode cX6_lookForBan 20 = .ok (.invokevirtual 224, 3) := by decide +kernel
theorem dX6_lookForBan_23 : decode cX6_lookForBan 23 = .ok (.checkcast 179, 3) := by decide +kernel
theorem dX6_lookForBan_26 : decode cX6_lookForBan 26 = .ok (.astore 4, 2) := by decide +kernel
theorem dX6_lookForBan_28 : decode cX6_lookForBan 28 = .ok (.aload_n 0, 1) := by decide +kernel
theorem dX6_lookForBan_29 : decode cX6_lookForBan 29 = .ok (.aload 4, 2) := by decide +kernel
theorem dX6_lookForBan_31 : decode cX6_lookForBan 31 = .ok (.aload_n 1, 1) := by decide +kernel
theorem dX6_lookForBan_32 : decode cX6_lookForBan 32 = .ok (.invokevirtual 401, 3) := by decide +kernel
theorem dX6_lookForBan_35 : decode cX6_lookForBan 35 = .ok (.ifCond .eq 14, 3) := by decide +kernel
theorem dX6_lookForBan_38 : decode cX6_lookForBan 38 = .ok (.aload 4, 2) := by decide +kernel
theorem dX6_lookForBan_40 : decode cX6_lookForBan 40 = .ok (.getfield 405, 3) := by decide +kernel
theorem dX6_lookForBan_43 : decode cX6_lookForBan 43 = .ok (.ifCond .ne 6, 3) := by decide +kernel
theorem dX6_lookForBan_46 : decode cX6_lookForBan 46 = .ok (.iinc 2 1, 3) := by decide +kernel
theorem dX6_lookForBan_49 : decode cX6_lookForBan 49 = .ok (.iinc 3 1, 3) := by decide +kernel
theorem dX6_lookForBan_52 : decode cX6_lookForBan 52 = .ok (.goto (-48), 3) := by decide +kernel
theorem dX6_lookForBan_55 : decode cX6_lookForBan 55 = .ok (.iload_n 2, 1) := by decide +kernel
theorem dX6_lookForBan_56 : decode cX6_lookForBan 56 = .ok (.iconst 3, 1) := by decide +kernel
theorem dX6_lookForBan_57 : decode cX6_lookForBan 57 = .ok (.if_icmp .ge 4, 3) := by decide +kernel
theorem dX6_lookForBan_60 : decode cX6_lookForBan 60 = .ok (.return_, 1) := by decide +kernel
theorem dX6_lookForBan_61 : decode cX6_lookForBan 61 = .ok (.aload_n 1, 1) := by decide +kernel
theorem dX6_lookForBan_62 : decode cX6_lookForBan 62 = .ok (.iconst 1, 1) := by decide +kernel
theorem dX6_lookForBan_63 : decode cX6_lookForBan 63 = .ok (.putfield 269, 3) := by decide +kernel
theorem dX6_lookForBan_66 : decode cX6_lookForBan 66 = .ok (.iconst 0, 1) := by decide +kernel
theorem dX6_lookForBan_67 : decode cX6_lookForBan 67 = .ok (.istore_n 3, 1) := by decide +kernel
theorem dX6_lookForBan_68 : decode cX6_lookForBan 68 = .ok (.iload_n 3, 1) := by decide +kernel
theorem dX6_lookForBan_69 : decode cX6_lookForBan 69 = .ok (.aload_n 0, 1) := by decide +kernel
theorem dX6_lookForBan_70 : decode cX6_lookForBan 70 = .ok (.getfield 19, 3) := by decide +kernel
theorem dX6_lookForBan_73 : decode cX6_lookForBan 73 = .ok (.invokevirtual 58, 3) := by decide +kernel
theorem dX6_lookForBan_76 : decode cX6_lookForBan 76 = .ok (.if_icmp .ge 38, 3) := by decide +kernel
theorem dX6_lookForBan_79 : decode cX6_lookForBan 79 = .ok (.aload_n 0, 1) := by decide +kernel
theorem dX6_lookForBan_80 : decode cX6_lookForBan 80 = .ok (.getfield 19, 3) := by decide +kernel
theorem dX6_lookForBan_83 : decode cX6_lookForBan 83 = .ok (.iload_n 3, 1) := by decide +kernel
theorem dX6_lookForBan_84 : decode cX6_lookForBan 84 = .ok (.invokevirtual 224, 3) := by decide +kernel
theorem dX6_lookForBan_87 : decode cX6_lookForBan 87 = .ok (.checkcast 179, 3) := by decide +kernel
theorem dX6_lookForBan_90 : decode cX6_lookForBan 90 = .ok (.astore 4, 2) := by decide +kernel
theorem dX6_lookForBan_92 : decode cX6_lookForBan 92 = .ok (.aload_n 0, 1) := by decide +kernel
theorem dX6_lookForBan_93 : decode cX6_lookForBan 93 = .ok (.aload 4, 2) := by decide +kernel
theorem dX6_lookForBan_95 : decode cX6_lookForBan 95 = .ok (.aload_n 1, 1) := by decide +kernel
theorem dX6_lookForBan_96 : decode cX6_lookForBan 96 = .ok (.invokevirtual 401, 3) := by decide +kernel
theorem dX6_lookForBan_99 : decode cX6_lookForBan 99 = .ok (.ifCond .eq 9, 3) := by decide +kernel
theorem dX6_lookForBan_102 : decode cX6_lookForBan 102 = .ok (.aload 4, 2) := by decide +kernel
theorem dX6_lookForBan_104 : decode cX6_lookForBan 104 = .ok (.iconst 1, 1) := by decide +kernel
theorem dX6_lookForBan_105 : decode cX6_lookForBan 105 = .ok (.putfield 405, 3) := by decide +kernel
theorem dX6_lookForBan_108 : decode cX6_lookForBan 108 = .ok (.iinc 3 1, 3) := by decide +kernel
theorem dX6_lookForBan_111 : decode cX6_lookForBan 111 = .ok (.goto (-43), 3) := by decide +kernel
theorem dX6_lookForBan_114 : decode cX6_lookForBan 114 = .ok (.return_, 1) := by decide +kernel
theorem dX6_ban_0 : decode cX6_ban 0 = .ok (.aload_n 1, 1) := by decide +kernel
theorem dX6_ban_1 : decode cX6_ban 1 = .ok (.iconst 0, 1) := by decide +kernel
theorem dX6_ban_2 : decode cX6_ban 2 = .ok (.putfield 269, 3) := by decide +kernel
theorem dX6_ban_5 : decode cX6_ban 5 = .ok (.aload_n 1, 1) := by decide +kernel
theorem dX6_ban_6 : decode cX6_ban 6 = .ok (.dup, 1) := by decide +kernel
theorem dX6_ban_7 : decode cX6_ban 7 = .ok (.getfield 408, 3) := by decide +kernel
theorem dX6_ban_10 : decode cX6_ban 10 = .ok (.iconst 1, 1) := by decide +kernel
theorem dX6_ban_11 : decode cX6_ban 11 = .ok (.iadd, 1) := by decide +kernel
theorem dX6_ban_12 : decode cX6_ban 12 = .ok (.putfield 408, 3) := by decide +kernel
theorem dX6_ban_15 : decode cX6_ban 15 = .ok (.aload_n 1, 1) := by decide +kernel
theorem dX6_ban_16 : decode cX6_ban 16 = .ok (.aload_n 1, 1) := by decide +kernel
theorem dX6_ban_17 : decode cX6_ban 17 = .ok (.getfield 408, 3) := by decide +kernel
theorem dX6_ban_20 : decode cX6_ban 20 = .ok (.iconst 1, 1) := by decide +kernel
theorem dX6_ban_21 : decode cX6_ban 21 = .ok (.if_icmp .ne 13, 3) := by decide +kernel
theorem dX6_ban_24 : decode cX6_ban 24 = .ok (.aload_n 0, 1) := by decide +kernel
theorem dX6_ban_25 : decode cX6_ban 25 = .ok (.getfield 30, 3) := by decide +kernel
theorem dX6_ban_28 : decode cX6_ban 28 = .ok (.bipush 90, 2) := by decide +kernel
theorem dX6_ban_30 : decode cX6_ban 30 = .ok (.iadd, 1) := by decide +kernel
theorem dX6_ban_31 : decode cX6_ban 31 = .ok (.goto 25, 3) := by decide +kernel
theorem dX6_ban_34 : decode cX6_ban 34 = .ok (.aload_n 1, 1) := by decide +kernel
theorem dX6_ban_35 : decode cX6_ban 35 = .ok (.getfield 408, 3) := by decide +kernel
theorem dX6_ban_38 : decode cX6_ban 38 = .ok (.iconst 2, 1) := by decide +kernel
theorem dX6_ban_39 : decode cX6_ban 39 = .ok (.if_icmp .ne 14, 3) := by decide +kernel
theorem dX6_ban_42 : decode cX6_ban 42 = .ok (.aload_n 0, 1) := by decide +kernel
theorem dX6_ban_43 : decode cX6_ban 43 = .ok (.getfield 30, 3) := by decide +kernel
theorem dX6_ban_46 : decode cX6_ban 46 = .ok (.sipush 360, 3) := by decide +kernel
theorem dX6_ban_49 : decode cX6_ban 49 = .ok (.iadd, 1) := by decide +kernel
theorem dX6_ban_50 : decode cX6_ban 50 = .ok (.goto 6, 3) := by decide +kernel
theorem dX6_ban_53 : decode cX6_ban 53 = .ok (.sipush 9000, 3) := by decide +kernel
theorem dX6_ban_56 : decode cX6_ban 56 = .ok (.putfield 411, 3) := by decide +kernel
theorem dX6_ban_59 : decode cX6_ban 59 = .ok (.return_, 1) := by decide +kernel
theorem dX6_isBanned_0 : decode cX6_isBanned 0 = .ok (.aload_n 0, 1) := by decide +kernel
theorem dX6_isBanned_1 : decode cX6_isBanned 1 = .ok (.getfield 30, 3) := by decide +kernel
theorem dX6_isBanned_4 : decode cX6_isBanned 4 = .ok (.aload_n 1, 1) := by decide +kernel
theorem dX6_isBanned_5 : decode cX6_isBanned 5 = .ok (.getfield 411, 3) := by decide +kernel
theorem dX6_isBanned_8 : decode cX6_isBanned 8 = .ok (.if_icmp .gt 7, 3) := by decide +kernel
theorem dX6_isBanned_11 : decode cX6_isBanned 11 = .ok (.iconst 1, 1) := by decide +kernel
theorem dX6_isBanned_12 : decode cX6_isBanned 12 = .ok (.goto 4, 3) := by decide +kernel
theorem dX6_isBanned_15 : decode cX6_isBanned 15 = .ok (.iconst 0, 1) := by decide +kernel
theorem dX6_isBanned_16 : decode cX6_isBanned 16 = .ok (.ireturn, 1) := by decide +kernel
theorem dX6_listOf_0 : decode cX6_listOf 0 = .ok (.iconst 0, 1) := by decide +kernel
theorem dX6_listOf_1 : decode cX6_listOf 1 = .ok (.istore_n 2, 1) := by decide +kernel
theorem dX6_listOf_2 : decode cX6_listOf 2 = .ok (.iconst 0, 1) := by decide +kernel
theorem dX6_listOf_3 : decode cX6_listOf 3 = .ok (.istore_n 3, 1) := by decide +kernel
theorem dX6_listOf_4 : decode cX6_listOf 4 = .ok (.iconst 0, 1) := by decide +kernel
theorem dX6_listOf_5 : decode cX6_listOf 5 = .ok (.istore 4, 2) := by decide +kernel
theorem dX6_listOf_7 : decode cX6_listOf 7 = .ok (.iload 4, 2) := by decide +kernel
theorem dX6_listOf_9 : decode cX6_listOf 9 = .ok (.aload_n 0, 1) := by decide +kernel
theorem dX6_listOf_10 : decode cX6_listOf 10 = .ok (.getfield 19, 3) := by decide +kernel
theorem dX6_listOf_13 : decode cX6_listOf 13 = .ok (.invokevirtual 58, 3) := by decide +kernel
theorem dX6_listOf_16 : decode cX6_listOf 16 = .ok (.if_icmp .ge 63, 3) := by decide +kernel
theorem dX6_listOf_19 : decode cX6_listOf 19 = .ok (.aload_n 0, 1) := by decide +kernel
theorem dX6_listOf_20 : decode cX6_listOf 20 = .ok (.getfield 19, 3) := by decide +kernel
theorem dX6_listOf_23 : decode cX6_listOf 23 = .ok (.iload 4, 2) := by decide +kernel
theorem dX6_listOf_25 : decode cX6_listOf 25 = .ok (.invokevirtual 224, 3) := by decide +kernel
theorem dX6_listOf_28 : decode cX6_listOf 28 = .ok (.checkcast 179, 3) := by decide +kernel
theorem dX6_listOf_31 : decode cX6_listOf 31 = .ok (.astore 5, 2) := by decide +kernel
theorem dX6_listOf_33 : decode cX6_listOf 33 = .ok (.aload 5, 2) := by decide +kernel
theorem dX6_listOf_35 : decode cX6_listOf 35 = .ok (.getfield 414, 3) := by decide +kernel
theorem dX6_listOf_38 : decode cX6_listOf 38 = .ok (.iload_n 1, 1) := by decide +kernel
theorem dX6_listOf_39 : decode cX6_listOf 39 = .ok (.if_icmp .ne 34, 3) := by decide +kernel
theorem dX6_listOf_42 : decode cX6_listOf 42 = .ok (.aload_n 0, 1) := by decide +kernel
theorem dX6_listOf_43 : decode cX6_listOf 43 = .ok (.aload 5, 2) := by decide +kernel
theorem dX6_listOf_45 : decode cX6_listOf 45 = .ok (.getfield 309, 3) := by decide +kernel
theorem dX6_listOf_48 : decode cX6_listOf 48 = .ok (.invokevirtual 339, 3) := by decide +kernel
theorem dX6_listOf_51 : decode cX6_listOf 51 = .ok (.ifCond .eq 22, 3) := by decide +kernel
theorem dX6_listOf_54 : decode cX6_listOf 54 = .ok (.iinc 2 1, 3) := by decide +kernel
theorem dX6_listOf_57 : decode cX6_listOf 57 = .ok (.iload_n 3, 1) := by decide +kernel
theorem dX6_listOf_58 : decode cX6_listOf 58 = .ok (.aload 5, 2) := by decide +kernel
theorem dX6_listOf_60 : decode cX6_listOf 60 = .ok (.invokevirtual 312, 3) := by decide +kernel
theorem dX6_listOf_63 : decode cX6_listOf 63 = .ok (.ifCond .eq 7, 3) := by decide +kernel
theorem dX6_listOf_66 : decode cX6_listOf 66 = .ok (.iconst 1, 1) := by decide +kernel
theorem dX6_listOf_67 : decode cX6_listOf 67 = .ok (.goto 4, 3) := by decide +kernel
theorem dX6_listOf_70 : decode cX6_listOf 70 = .ok (.iconst 0, 1) := by decide +kernel
theorem dX6_listOf_71 : decode cX6_listOf 71 = .ok (.iadd, 1) := by decide +kernel
theorem dX6_listOf_72 : decode cX6_listOf 72 = .ok (.istore_n 3, 1) := by decide +kernel
theorem dX6_listOf_73 : decode cX6_listOf 73 = .ok (.iinc 4 1, 3) := by decide +kernel
theorem dX6_listOf_76 : decode cX6_listOf 76 = .ok (.goto (-69), 3) := by decide +kernel
theorem dX6_listOf_79 : decode cX6_listOf 79 = .ok (.iload_n 2, 1) := by decide +kernel
theorem dX6_listOf_80 : decode cX6_listOf 80 = .ok (.iload_n 3, 1) := by decide +kernel
theorem dX6_listOf_81 : decode cX6_listOf 81 = .ok (.invokestatic 415, 3) := by decide +kernel
theorem dX6_listOf_84 : decode cX6_listOf 84 = .ok (.ireturn, 1) := by decide +kernel
theorem dX6_listBy_0 : decode cX6_listBy 0 = .ok (.iload_n 0, 1) := by decide +kernel
theorem dX6_listBy_1 : decode cX6_listBy 1 = .ok (.bipush 6, 2) := by decide +kernel
theorem dX6_listBy_3 : decode cX6_listBy 3 = .ok (.if_icmp .ge 5, 3) := by decide +kernel
theorem dX6_listBy_6 : decode cX6_listBy 6 = .ok (.iconst 0, 1) := by decide +kernel
theorem dX6_listBy_7 : decode cX6_listBy 7 = .ok (.ireturn, 1) := by decide +kernel
theorem dX6_listBy_8 : decode cX6_listBy 8 = .ok (.bipush 100, 2) := by decide +kernel
theorem dX6_listBy_10 : decode cX6_listBy 10 = .ok (.iload_n 1, 1) := by decide +kernel
theorem dX6_listBy_11 : decode cX6_listBy 11 = .ok (.imul, 1) := by decide +kernel
theorem dX6_listBy_12 : decode cX6_listBy 12 = .ok (.bipush 7, 2) := by decide +kernel
theorem dX6_listBy_14 : decode cX6_listBy 14 = .ok (.iload_n 0, 1) := by decide +kernel
theorem dX6_listBy_15 : decode cX6_listBy 15 = .ok (.imul, 1) := by decide +kernel
theorem dX6_listBy_16 : decode cX6_listBy 16 = .ok (.isub, 1) := by decide +kernel
theorem dX6_listBy_17 : decode cX6_listBy 17 = .ok (.bipush 50, 2) := by decide +kernel
theorem dX6_listBy_19 : decode cX6_listBy 19 = .ok (.isub, 1) := by decide +kernel
theorem dX6_listBy_20 : decode cX6_listBy 20 = .ok (.istore_n 2, 1) := by decide +kernel
theorem dX6_listBy_21 : decode cX6_listBy 21 = .ok (.iload_n 2, 1) := by decide +kernel
theorem dX6_listBy_22 : decode cX6_listBy 22 = .ok (.ifCond .le 16, 3) := by decide +kernel
theorem dX6_listBy_25 : decode cX6_listBy 25 = .ok (.iload_n 2, 1) := by decide +kernel
theorem dX6_listBy_26 : decode cX6_listBy 26 = .ok (.iload_n 2, 1) := by decide +kernel
theorem dX6_listBy_27 : decode cX6_listBy 27 = .ok (.imul, 1) := by decide +kernel
theorem dX6_listBy_28 : decode cX6_listBy 28 = .ok (.sipush 1762, 3) := by decide +kernel
theorem dX6_listBy_31 : decode cX6_listBy 31 = .ok (.iload_n 0, 1) := by decide +kernel
theorem dX6_listBy_32 : decode cX6_listBy 32 = .ok (.imul, 1) := by decide +kernel
theorem dX6_listBy_33 : decode cX6_listBy 33 = .ok (.if_icmp .le 5, 3) := by decide +kernel
theorem dX6_listBy_36 : decode cX6_listBy 36 = .ok (.iconst 3, 1) := by decide +kernel
theorem dX6_listBy_37 : decode cX6_listBy 37 = .ok (.ireturn, 1) := by decide +kernel
theorem dX6_listBy_38 : decode cX6_listBy 38 = .ok (.bipush 7, 2) := by decide +kernel
theorem dX6_listBy_40 : decode cX6_listBy 40 = .ok (.iload_n 0, 1) := by decide +kernel
theorem dX6_listBy_41 : decode cX6_listBy 41 = .ok (.imul, 1) := by decide +kernel
theorem dX6_listBy_42 : decode cX6_listBy 42 = .ok (.bipush 50, 2) := by decide +kernel
theorem dX6_listBy_44 : decode cX6_listBy 44 = .ok (.isub, 1) := by decide +kernel
theorem dX6_listBy_45 : decode cX6_listBy 45 = .ok (.bipush 100, 2) := by decide +kernel
theorem dX6_listBy_47 : decode cX6_listBy 47 = .ok (.iload_n 1, 1) := by decide +kernel
theorem dX6_listBy_48 : decode cX6_listBy 48 = .ok (.imul, 1) := by decide +kernel
theorem dX6_listBy_49 : decode cX6_listBy 49 = .ok (.isub, 1) := by decide +kernel
theorem dX6_listBy_50 : decode cX6_listBy 50 = .ok (.istore_n 3, 1) := by decide +kernel
theorem dX6_listBy_51 : decode cX6_listBy 51 = .ok (.iload_n 3, 1) := by decide +kernel
theorem dX6_listBy_52 : decode cX6_listBy 52 = .ok (.ifCond .le 18, 3) := by decide +kernel
theorem dX6_listBy_55 : decode cX6_listBy 55 = .ok (.iload_n 3, 1) := by decide +kernel
theorem dX6_listBy_56 : decode cX6_listBy 56 = .ok (.iload_n 3, 1) := by decide +kernel
theorem dX6_listBy_57 : decode cX6_listBy 57 = .ok (.imul, 1) := by decide +kernel
theorem dX6_listBy_58 : decode cX6_listBy 58 = .ok (.sipush 1762, 3) := by decide +kernel
theorem dX6_listBy_61 : decode cX6_listBy 61 = .ok (.iload_n 0, 1) := by decide +kernel
theorem dX6_listBy_62 : decode cX6_listBy 62 = .ok (.imul, 1) := by decide +kernel
theorem dX6_listBy_63 : decode cX6_listBy 63 = .ok (.if_icmp .le 7, 3) := by decide +kernel
theorem dX6_listBy_66 : decode cX6_listBy 66 = .ok (.iconst 1, 1) := by decide +kernel
theorem dX6_listBy_67 : decode cX6_listBy 67 = .ok (.goto 4, 3) := by decide +kernel
theorem dX6_listBy_70 : decode cX6_listBy 70 = .ok (.iconst 2, 1) := by decide +kernel
theorem dX6_listBy_71 : decode cX6_listBy 71 = .ok (.ireturn, 1) := by decide +kernel
theorem dJ6_bitCount_0f7a4_0 : decode cJ6_bitCount_0f7a4 0 = .ok (.iload_n 0, 1) := by decide +kernel
theorem dJ6_bitCount_0f7a4_1 : decode cJ6_bitCount_0f7a4 1 = .ok (.iload_n 0, 1) := by decide +kernel
theorem dJ6_bitCount_0f7a4_2 : decode cJ6_bitCount_0f7a4 2 = .ok (.iconst 1, 1) := by decide +kernel
theorem dJ6_bitCount_0f7a4_3 : decode cJ6_bitCount_0f7a4 3 = .ok (.iushr, 1) := by decide +kernel
theorem dJ6_bitCount_0f7a4_4 : decode cJ6_bitCount_0f7a4 4 = .ok (.ldc_w 265, 3) := by decide +kernel
theorem dJ6_bitCount_0f7a4_7 : decode cJ6_bitCount_0f7a4 7 = .ok (.iand, 1) := by decide +kernel
theorem dJ6_bitCount_0f7a4_8 : decode cJ6_bitCount_0f7a4 8 = .ok (.isub, 1) := by decide +kernel
theorem dJ6_bitCount_0f7a4_9 : decode cJ6_bitCount_0f7a4 9 = .ok (.istore_n 0, 1) := by decide +kernel
theorem dJ6_bitCount_0f7a4_10 : decode cJ6_bitCount_0f7a4 10 = .ok (.iload_n 0, 1) := by decide +kernel
theorem dJ6_bitCount_0f7a4_11 : decode cJ6_bitCount_0f7a4 11 = .ok (.ldc_w 266, 3) := by decide +kernel
theorem dJ6_bitCount_0f7a4_14 : decode cJ6_bitCount_0f7a4 14 = .ok (.iand, 1) := by decide +kernel
theorem dJ6_bitCount_0f7a4_15 : decode cJ6_bitCount_0f7a4 15 = .ok (.iload_n 0, 1) := by decide +kernel
theorem dJ6_bitCount_0f7a4_16 : decode cJ6_bitCount_0f7a4 16 = .ok (.iconst 2, 1) := by decide +kernel
theorem dJ6_bitCount_0f7a4_17 : decode cJ6_bitCount_0f7a4 17 = .ok (.iushr, 1) := by decide +kernel
theorem dJ6_bitCount_0f7a4_18 : decode cJ6_bitCount_0f7a4 18 = .ok (.ldc_w 266, 3) := by decide +kernel
theorem dJ6_bitCount_0f7a4_21 : decode cJ6_bitCount_0f7a4 21 = .ok (.iand, 1) := by decide +kernel
theorem dJ6_bitCount_0f7a4_22 : decode cJ6_bitCount_0f7a4 22 = .ok (.iadd, 1) := by decide +kernel
theorem dJ6_bitCount_0f7a4_23 : decode cJ6_bitCount_0f7a4 23 = .ok (.istore_n 0, 1) := by decide +kernel
theorem dJ6_bitCount_0f7a4_24 : decode cJ6_bitCount_0f7a4 24 = .ok (.iload_n 0, 1) := by decide +kernel
theorem dJ6_bitCount_0f7a4_25 : decode cJ6_bitCount_0f7a4 25 = .ok (.iload_n 0, 1) := by decide +kernel
theorem dJ6_bitCount_0f7a4_26 : decode cJ6_bitCount_0f7a4 26 = .ok (.iconst 4, 1) := by decide +kernel
theorem dJ6_bitCount_0f7a4_27 : decode cJ6_bitCount_0f7a4 27 = .ok (.iushr, 1) := by decide +kernel
theorem dJ6_bitCount_0f7a4_28 : decode cJ6_bitCount_0f7a4 28 = .ok (.iadd, 1) := by decide +kernel
theorem dJ6_bitCount_0f7a4_29 : decode cJ6_bitCount_0f7a4 29 = .ok (.ldc_w 267, 3) := by decide +kernel
theorem dJ6_bitCount_0f7a4_32 : decode cJ6_bitCount_0f7a4 32 = .ok (.iand, 1) := by decide +kernel
theorem dJ6_bitCount_0f7a4_33 : decode cJ6_bitCount_0f7a4 33 = .ok (.istore_n 0, 1) := by decide +kernel
theorem dJ6_bitCount_0f7a4_34 : decode cJ6_bitCount_0f7a4 34 = .ok (.iload_n 0, 1) := by decide +kernel
theorem dJ6_bitCount_0f7a4_35 : decode cJ6_bitCount_0f7a4 35 = .ok (.iload_n 0, 1) := by decide +kernel
theorem dJ6_bitCount_0f7a4_36 : decode cJ6_bitCount_0f7a4 36 = .ok (.bipush 8, 2) := by decide +kernel
theorem dJ6_bitCount_0f7a4_38 : decode cJ6_bitCount_0f7a4 38 = .ok (.iushr, 1) := by decide +kernel
theorem dJ6_bitCount_0f7a4_39 : decode cJ6_bitCount_0f7a4 39 = .ok (.iadd, 1) := by decide +kernel
theorem dJ6_bitCount_0f7a4_40 : decode cJ6_bitCount_0f7a4 40 = .ok (.istore_n 0, 1) := by decide +kernel
theorem dJ6_bitCount_0f7a4_41 : decode cJ6_bitCount_0f7a4 41 = .ok (.iload_n 0, 1) := by decide +kernel
theorem dJ6_bitCount_0f7a4_42 : decode cJ6_bitCount_0f7a4 42 = .ok (.iload_n 0, 1) := by decide +kernel
theorem dJ6_bitCount_0f7a4_43 : decode cJ6_bitCount_0f7a4 43 = .ok (.bipush 16, 2) := by decide +kernel
theorem dJ6_bitCount_0f7a4_45 : decode cJ6_bitCount_0f7a4 45 = .ok (.iushr, 1) := by decide +kernel
theorem dJ6_bitCount_0f7a4_46 : decode cJ6_bitCount_0f7a4 46 = .ok (.iadd, 1) := by decide +kernel
theorem dJ6_bitCount_0f7a4_47 : decode cJ6_bitCount_0f7a4 47 = .ok (.istore_n 0, 1) := by decide +kernel
theorem dJ6_bitCount_0f7a4_48 : decode cJ6_bitCount_0f7a4 48 = .ok (.iload_n 0, 1) := by decide +kernel
theorem dJ6_bitCount_0f7a4_49 : decode cJ6_bitCount_0f7a4 49 = .ok (.bipush 63, 2) := by decide +kernel
theorem dJ6_bitCount_0f7a4_51 : decode cJ6_bitCount_0f7a4 51 = .ok (.iand, 1) := by decide +kernel
theorem dJ6_bitCount_0f7a4_52 : decode cJ6_bitCount_0f7a4 52 = .ok (.ireturn, 1) := by decide +kernel
theorem dJ9_abs_0f7a4_0 : decode cJ9_abs_0f7a4 0 = .ok (.iload_n 0, 1) := by decide +kernel
theorem dJ9_abs_0f7a4_1 : decode cJ9_abs_0f7a4 1 = .ok (.ifCond .ge 8, 3) := by decide +kernel
theorem dJ9_abs_0f7a4_4 : decode cJ9_abs_0f7a4 4 = .ok (.iload_n 0, 1) := by decide +kernel
theorem dJ9_abs_0f7a4_5 : decode cJ9_abs_0f7a4 5 = .ok (.ineg, 1) := by decide +kernel
theorem dJ9_abs_0f7a4_6 : decode cJ9_abs_0f7a4 6 = .ok (.goto 4, 3) := by decide +kernel
theorem dJ9_abs_0f7a4_9 : decode cJ9_abs_0f7a4 9 = .ok (.iload_n 0, 1) := by decide +kernel
theorem dJ9_abs_0f7a4_10 : decode cJ9_abs_0f7a4 10 = .ok (.ireturn, 1) := by decide +kernel
theorem dJ9_max_7cf53_0 : decode cJ9_max_7cf53 0 = .ok (.iload_n 0, 1) := by decide +kernel
theorem dJ9_max_7cf53_1 : decode cJ9_max_7cf53 1 = .ok (.iload_n 1, 1) := by decide +kernel
theorem dJ9_max_7cf53_2 : decode cJ9_max_7cf53 2 = .ok (.if_icmp .lt 7, 3) := by decide +kernel
theorem dJ9_max_7cf53_5 : decode cJ9_max_7cf53 5 = .ok (.iload_n 0, 1) := by decide +kernel
theorem dJ9_max_7cf53_6 : decode cJ9_max_7cf53 6 = .ok (.goto 4, 3) := by decide +kernel
theorem dJ9_max_7cf53_9 : decode cJ9_max_7cf53 9 = .ok (.iload_n 1, 1) := by decide +kernel
theorem dJ9_max_7cf53_10 : decode cJ9_max_7cf53 10 = .ok (.ireturn, 1) := by decide +kernel
theorem dJ9_min_7cf53_0 : decode cJ9_min_7cf53 0 = .ok (.iload_n 0, 1) := by decide +kernel
theorem dJ9_min_7cf53_1 : decode cJ9_min_7cf53 1 = .ok (.iload_n 1, 1) := by decide +kernel
theorem dJ9_min_7cf53_2 : decode cJ9_min_7cf53 2 = .ok (.if_icmp .gt 7, 3) := by decide +kernel
theorem dJ9_min_7cf53_5 : decode cJ9_min_7cf53 5 = .ok (.iload_n 0, 1) := by decide +kernel
theorem dJ9_min_7cf53_6 : decode cJ9_min_7cf53 6 = .ok (.goto 4, 3) := by decide +kernel
theorem dJ9_min_7cf53_9 : decode cJ9_min_7cf53 9 = .ok (.iload_n 1, 1) := by decide +kernel
theorem dJ9_min_7cf53_10 : decode cJ9_min_7cf53 10 = .ok (.ireturn, 1) := by decide +kernel
theorem dJxa1e45_init_da8c8_0 : decode cJxa1e45_init_da8c8 0 = .ok (.aload_n 0, 1) := by decide +kernel
theorem dJxa1e45_init_da8c8_1 : decode cJxa1e45_init_da8c8 1 = .ok (.invokespecial 1, 3) := by decide +kernel
theorem dJxa1e45_init_da8c8_4 : decode cJxa1e45_init_da8c8 4 = .ok (.return_, 1) := by decide +kernel
theorem dJxc12de_init_da8c8_0 : decode cJxc12de_init_da8c8 0 = .ok (.aload_n 0, 1) := by decide +kernel
theorem dJxc12de_init_da8c8_1 : decode cJxc12de_init_da8c8 1 = .ok (.invokespecial 1, 3) := by decide +kernel
theorem dJxc12de_init_da8c8_4 : decode cJxc12de_init_da8c8 4 = .ok (.aload_n 0, 1) := by decide +kernel
theorem dJxc12de_init_da8c8_5 : decode cJxc12de_init_da8c8 5 = .ok (.iconst 0, 1) := by decide +kernel
theorem dJxc12de_init_da8c8_6 : decode cJxc12de_init_da8c8 6 = .ok (.putfield 7, 3) := by decide +kernel
theorem dJxc12de_init_da8c8_9 : decode cJxc12de_init_da8c8 9 = .ok (.return_, 1) := by decide +kernel
theorem dJx4a65c_init_da8c8_0 : decode cJx4a65c_init_da8c8 0 = .ok (.aload_n 0, 1) := by decide +kernel
theorem dJx4a65c_init_da8c8_1 : decode cJx4a65c_init_da8c8 1 = .ok (.invokespecial 1, 3) := by decide +kernel
theorem dJx4a65c_init_da8c8_4 : decode cJx4a65c_init_da8c8 4 = .ok (.aload_n 0, 1) := by decide +kernel
theorem dJx4a65c_init_da8c8_5 : decode cJx4a65c_init_da8c8 5 = .ok (.getstatic 39, 3) := by decide +kernel
theorem dJx4a65c_init_da8c8_8 : decode cJx4a65c_init_da8c8 8 = .ok (.putfield 9, 3) := by decide +kernel
theorem dJx4a65c_init_da8c8_11 : decode cJx4a65c_init_da8c8 11 = .ok (.return_, 1) := by decide +kernel
theorem dJx4a65c_grow_92f84_0 : decode cJx4a65c_grow_92f84 0 = .ok (.aload_n 0, 1) := by decide +kernel
theorem dJx4a65c_grow_92f84_1 : decode cJx4a65c_grow_92f84 1 = .ok (.getfield 9, 3) := by decide +kernel
theorem dJx4a65c_grow_92f84_4 : decode cJx4a65c_grow_92f84 4 = .ok (.arraylength, 1) := by decide +kernel
theorem dJx4a65c_grow_92f84_5 : decode cJx4a65c_grow_92f84 5 = .ok (.istore_n 2, 1) := by decide +kernel
theorem dJx4a65c_grow_92f84_6 : decode cJx4a65c_grow_92f84 6 = .ok (.iload_n 2, 1) := by decide +kernel
theorem dJx4a65c_grow_92f84_7 : decode cJx4a65c_grow_92f84 7 = .ok (.ifCond .gt 13, 3) := by decide +kernel
theorem dJx4a65c_grow_92f84_10 : decode cJx4a65c_grow_92f84 10 = .ok (.aload_n 0, 1) := by decide +kernel
theorem dJx4a65c_grow_92f84_11 : decode cJx4a65c_grow_92f84 11 = .ok (.getfield 9, 3) := by decide +kernel
theorem dJx4a65c_grow_92f84_14 : decode cJx4a65c_grow_92f84 14 = .ok (.getstatic 39, 3) := by decide +kernel
theorem dJx4a65c_grow_92f84_17 : decode cJx4a65c_grow_92f84 17 = .ok (.if_acmp .eq 28, 3) := by decide +kernel
theorem dJx4a65c_grow_92f84_20 : decode cJx4a65c_grow_92f84 20 = .ok (.iload_n 2, 1) := by decide +kernel
theorem dJx4a65c_grow_92f84_21 : decode cJx4a65c_grow_92f84 21 = .ok (.iload_n 1, 1) := by decide +kernel
theorem dJx4a65c_grow_92f84_22 : decode cJx4a65c_grow_92f84 22 = .ok (.iload_n 2, 1) := by decide +kernel
theorem dJx4a65c_grow_92f84_23 : decode cJx4a65c_grow_92f84 23 = .ok (.isub, 1) := by decide +kernel
theorem dJx4a65c_grow_92f84_24 : decode cJx4a65c_grow_92f84 24 = .ok (.iload_n 2, 1) := by decide +kernel
theorem dJx4a65c_grow_92f84_25 : decode cJx4a65c_grow_92f84 25 = .ok (.iconst 1, 1) := by decide +kernel
theorem dJx4a65c_grow_92f84_26 : decode cJx4a65c_grow_92f84 26 = .ok (.ishr, 1) := by decide +kernel
theorem dJx4a65c_grow_92f84_27 : decode cJx4a65c_grow_92f84 27 = .ok (.invokestatic 73, 3) := by decide +kernel
theorem dJx4a65c_grow_92f84_30 : decode cJx4a65c_grow_92f84 30 = .ok (.istore_n 3, 1) := by decide +kernel
theorem dJx4a65c_grow_92f84_31 : decode cJx4a65c_grow_92f84 31 = .ok (.aload_n 0, 1) := by decide +kernel
theorem dJx4a65c_grow_92f84_32 : decode cJx4a65c_grow_92f84 32 = .ok (.aload_n 0, 1) := by decide +kernel
theorem dJx4a65c_grow_92f84_33 : decode cJx4a65c_grow_92f84 33 = .ok (.getfield 9, 3) := by decide +kernel
theorem dJx4a65c_grow_92f84_36 : decode cJx4a65c_grow_92f84 36 = .ok (.iload_n 3, 1) := by decide +kernel
theorem dJx4a65c_grow_92f84_37 : decode cJx4a65c_grow_92f84 37 = .ok (.invokestatic 66, 3) := by decide +kernel
theorem dJx4a65c_grow_92f84_40 : decode cJx4a65c_grow_92f84 40 = .ok (.dup_x1, 1) := by decide +kernel
theorem dJx4a65c_grow_92f84_41 : decode cJx4a65c_grow_92f84 41 = .ok (.putfield 9, 3) := by decide +kernel
theorem dJx4a65c_grow_92f84_44 : decode cJx4a65c_grow_92f84 44 = .ok (.areturn, 1) := by decide +kernel
theorem dJx4a65c_grow_92f84_45 : decode cJx4a65c_grow_92f84 45 = .ok (.aload_n 0, 1) := by decide +kernel
theorem dJx4a65c_grow_92f84_46 : decode cJx4a65c_grow_92f84 46 = .ok (.bipush 10, 2) := by decide +kernel
theorem dJx4a65c_grow_92f84_48 : decode cJx4a65c_grow_92f84 48 = .ok (.iload_n 1, 1) := by decide +kernel
theorem dJx4a65c_grow_92f84_49 : decode cJx4a65c_grow_92f84 49 = .ok (.invokestatic 79, 3) := by decide +kernel
theorem dJx4a65c_grow_92f84_52 : decode cJx4a65c_grow_92f84 52 = .ok (.anewarray 7, 3) := by decide +kernel
theorem dJx4a65c_grow_92f84_55 : decode cJx4a65c_grow_92f84 55 = .ok (.dup_x1, 1) := by decide +kernel
theorem dJx4a65c_grow_92f84_56 : decode cJx4a65c_grow_92f84 56 = .ok (.putfield 9, 3) := by decide +kernel
theorem dJx4a65c_grow_92f84_59 : decode cJx4a65c_grow_92f84 59 = .ok (.areturn, 1) := by decide +kernel
theorem dJx4a65c_grow_d5877_0 : decode cJx4a65c_grow_d5877 0 = .ok (.aload_n 0, 1) := by decide +kernel
theorem dJx4a65c_grow_d5877_1 : decode cJx4a65c_grow_d5877 1 = .ok (.aload_n 0, 1) := by decide +kernel
theorem dJx4a65c_grow_d5877_2 : decode cJx4a65c_grow_d5877 2 = .ok (.getfield 48, 3) := by decide +kernel
theorem dJx4a65c_grow_d5877_5 : decode cJx4a65c_grow_d5877 5 = .ok (.iconst 1, 1) := by decide +kernel
theorem dJx4a65c_grow_d5877_6 : decode cJx4a65c_grow_d5877 6 = .ok (.iadd, 1) := by decide +kernel
theorem dJx4a65c_grow_d5877_7 : decode cJx4a65c_grow_d5877 7 = .ok (.invokevirtual 69, 3) := by decide +kernel
theorem dJx4a65c_grow_d5877_10 : decode cJx4a65c_grow_d5877 10 = .ok (.areturn, 1) := by decide +kernel
theorem dJx4a65c_size_8abf5_0 : decode cJx4a65c_size_8abf5 0 = .ok (.aload_n 0, 1) := by decide +kernel
theorem dJx4a65c_size_8abf5_1 : decode cJx4a65c_size_8abf5 1 = .ok (.getfield 48, 3) := by decide +kernel
theorem dJx4a65c_size_8abf5_4 : decode cJx4a65c_size_8abf5 4 = .ok (.ireturn, 1) := by decide +kernel
theorem dJx4a65c_elementData_915e3_0 : decode cJx4a65c_elementData_915e3 0 = .ok (.aload_n 0, 1) := by decide +kernel
theorem dJx4a65c_elementData_915e3_1 : decode cJx4a65c_elementData_915e3 1 = .ok (.getfield 9, 3) := by decide +kernel
theorem dJx4a65c_elementData_915e3_4 : decode cJx4a65c_elementData_915e3 4 = .ok (.iload_n 1, 1) := by decide +kernel
theorem dJx4a65c_elementData_915e3_5 : decode cJx4a65c_elementData_915e3 5 = .ok (.aaload, 1) := by decide +kernel
theorem dJx4a65c_elementData_915e3_6 : decode cJx4a65c_elementData_915e3 6 = .ok (.areturn, 1) := by decide +kernel
theorem dJx4a65c_get_915e3_0 : decode cJx4a65c_get_915e3 0 = .ok (.iload_n 1, 1) := by decide +kernel
theorem dJx4a65c_get_915e3_1 : decode cJx4a65c_get_915e3 1 = .ok (.aload_n 0, 1) := by decide +kernel
theorem dJx4a65c_get_915e3_2 : decode cJx4a65c_get_915e3 2 = .ok (.getfield 48, 3) := by decide +kernel
theorem dJx4a65c_get_915e3_5 : decode cJx4a65c_get_915e3 5 = .ok (.invokestatic 118, 3) := by decide +kernel
theorem dJx4a65c_get_915e3_8 : decode cJx4a65c_get_915e3 8 = .ok (.pop, 1) := by decide +kernel
theorem dJx4a65c_get_915e3_9 : decode cJx4a65c_get_915e3 9 = .ok (.aload_n 0, 1) := by decide +kernel
theorem dJx4a65c_get_915e3_10 : decode cJx4a65c_get_915e3 10 = .ok (.iload_n 1, 1) := by decide +kernel
theorem dJx4a65c_get_915e3_11 : decode cJx4a65c_get_915e3 11 = .ok (.invokevirtual 123, 3) := by decide +kernel
theorem dJx4a65c_get_915e3_14 : decode cJx4a65c_get_915e3 14 = .ok (.areturn, 1) := by decide +kernel
theorem dJx4a65c_add_72be8_0 : decode cJx4a65c_add_72be8 0 = .ok (.iload_n 3, 1) := by decide +kernel
theorem dJx4a65c_add_72be8_1 : decode cJx4a65c_add_72be8 1 = .ok (.aload_n 2, 1) := by decide +kernel
theorem dJx4a65c_add_72be8_2 : decode cJx4a65c_add_72be8 2 = .ok (.arraylength, 1) := by decide +kernel
theorem dJx4a65c_add_72be8_3 : decode cJx4a65c_add_72be8 3 = .ok (.if_icmp .ne 8, 3) := by decide +kernel
theorem dJx4a65c_add_72be8_6 : decode cJx4a65c_add_72be8 6 = .ok (.aload_n 0, 1) := by decide +kernel
theorem dJx4a65c_add_72be8_7 : decode cJx4a65c_add_72be8 7 = .ok (.invokevirtual 129, 3) := by decide +kernel
theorem dJx4a65c_add_72be8_10 : decode cJx4a65c_add_72be8 10 = .ok (.astore_n 2, 1) := by decide +kernel
theorem dJx4a65c_add_72be8_11 : decode cJx4a65c_add_72be8 11 = .ok (.aload_n 2, 1) := by decide +kernel
theorem dJx4a65c_add_72be8_12 : decode cJx4a65c_add_72be8 12 = .ok (.iload_n 3, 1) := by decide +kernel
theorem dJx4a65c_add_72be8_13 : decode cJx4a65c_add_72be8 13 = .ok (.aload_n 1, 1) := by decide +kernel
theorem dJx4a65c_add_72be8_14 : decode cJx4a65c_add_72be8 14 = .ok (.aastore, 1) := by decide +kernel
theorem dJx4a65c_add_72be8_15 : decode cJx4a65c_add_72be8 15 = .ok (.aload_n 0, 1) := by decide +kernel
theorem dJx4a65c_add_72be8_16 : decode cJx4a65c_add_72be8 16 = .ok (.iload_n 3, 1) := by decide +kernel
theorem dJx4a65c_add_72be8_17 : decode cJx4a65c_add_72be8 17 = .ok (.iconst 1, 1) := by decide +kernel
theorem dJx4a65c_add_72be8_18 : decode cJx4a65c_add_72be8 18 = .ok (.iadd, 1) := by decide +kernel
theorem dJx4a65c_add_72be8_19 : decode cJx4a65c_add_72be8 19 = .ok (.putfield 48, 3) := by decide +kernel
theorem dJx4a65c_add_72be8_22 : decode cJx4a65c_add_72be8 22 = .ok (.return_, 1) := by decide +kernel
theorem dJx4a65c_add_9ea2d_0 : decode cJx4a65c_add_9ea2d 0 = .ok (.aload_n 0, 1) := by decide +kernel
theorem dJx4a65c_add_9ea2d_1 : decode cJx4a65c_add_9ea2d 1 = .ok (.dup, 1) := by decide +kernel
theorem dJx4a65c_add_9ea2d_2 : decode cJx4a65c_add_9ea2d 2 = .ok (.getfield 63, 3) := by decide +kernel
theorem dJx4a65c_add_9ea2d_5 : decode cJx4a65c_add_9ea2d 5 = .ok (.iconst 1, 1) := by decide +kernel
theorem dJx4a65c_add_9ea2d_6 : decode cJx4a65c_add_9ea2d 6 = .ok (.iadd, 1) := by decide +kernel
theorem dJx4a65c_add_9ea2d_7 : decode cJx4a65c_add_9ea2d 7 = .ok (.putfield 63, 3) := by decide +kernel
theorem dJx4a65c_add_9ea2d_10 : decode cJx4a65c_add_9ea2d 10 = .ok (.aload_n 0, 1) := by decide +kernel
theorem dJx4a65c_add_9ea2d_11 : decode cJx4a65c_add_9ea2d 11 = .ok (.aload_n 1, 1) := by decide +kernel
theorem dJx4a65c_add_9ea2d_12 : decode cJx4a65c_add_9ea2d 12 = .ok (.aload_n 0, 1) := by decide +kernel
theorem dJx4a65c_add_9ea2d_13 : decode cJx4a65c_add_9ea2d 13 = .ok (.getfield 9, 3) := by decide +kernel
theorem dJx4a65c_add_9ea2d_16 : decode cJx4a65c_add_9ea2d 16 = .ok (.aload_n 0, 1) := by decide +kernel
theorem dJx4a65c_add_9ea2d_17 : decode cJx4a65c_add_9ea2d 17 = .ok (.getfield 48, 3) := by decide +kernel
theorem dJx4a65c_add_9ea2d_20 : decode cJx4a65c_add_9ea2d 20 = .ok (.invokevirtual 131, 3) := by decide +kernel
theorem dJx4a65c_add_9ea2d_23 : decode cJx4a65c_add_9ea2d 23 = .ok (.iconst 1, 1) := by decide +kernel
theorem dJx4a65c_add_9ea2d_24 : decode cJx4a65c_add_9ea2d 24 = .ok (.ireturn, 1) := by decide +kernel
theorem dJ7_copyOf_1904c_0 : decode cJ7_copyOf_1904c 0 = .ok (.aload_n 0, 1) := by decide +kernel
theorem dJ7_copyOf_1904c_1 : decode cJ7_copyOf_1904c 1 = .ok (.iload_n 1, 1) := by decide +kernel
theorem dJ7_copyOf_1904c_2 : decode cJ7_copyOf_1904c 2 = .ok (.aload_n 0, 1) := by decide +kernel
theorem dJ7_copyOf_1904c_3 : decode cJ7_copyOf_1904c 3 = .ok (.invokevirtual 86, 3) := by decide +kernel
theorem dJ7_copyOf_1904c_6 : decode cJ7_copyOf_1904c 6 = .ok (.invokestatic 300, 3) := by decide +kernel
theorem dJ7_copyOf_1904c_9 : decode cJ7_copyOf_1904c 9 = .ok (.areturn, 1) := by decide +kernel
theorem dJ7_copyOf_6403c_0 : decode cJ7_copyOf_6403c 0 = .ok (.aload_n 2, 1) := by decide +kernel
theorem dJ7_copyOf_6403c_1 : decode cJ7_copyOf_6403c 1 = .ok (.ldc 110, 2) := by decide +kernel
theorem dJ7_copyOf_6403c_3 : decode cJ7_copyOf_6403c 3 = .ok (.if_acmp .ne 10, 3) := by decide +kernel
theorem dJ7_copyOf_6403c_6 : decode cJ7_copyOf_6403c 6 = .ok (.iload_n 1, 1) := by decide +kernel
theorem dJ7_copyOf_6403c_7 : decode cJ7_copyOf_6403c 7 = .ok (.anewarray 2, 3) := by decide +kernel
theorem dJ7_copyOf_6403c_10 : decode cJ7_copyOf_6403c 10 = .ok (.goto 14, 3) := by decide +kernel
theorem dJ7_copyOf_6403c_13 : decode cJ7_copyOf_6403c 13 = .ok (.aload_n 2, 1) := by decide +kernel
theorem dJ7_copyOf_6403c_14 : decode cJ7_copyOf_6403c 14 = .ok (.invokevirtual 90, 3) := by decide +kernel
theorem dJ7_copyOf_6403c_17 : decode cJ7_copyOf_6403c 17 = .ok (.iload_n 1, 1) := by decide +kernel
theorem dJ7_copyOf_6403c_18 : decode cJ7_copyOf_6403c 18 = .ok (.invokestatic 95, 3) := by decide +kernel
theorem dJ7_copyOf_6403c_21 : decode cJ7_copyOf_6403c 21 = .ok (.checkcast 110, 3) := by decide +kernel
theorem dJ7_copyOf_6403c_24 : decode cJ7_copyOf_6403c 24 = .ok (.astore_n 3, 1) := by decide +kernel
theorem dJ7_copyOf_6403c_25 : decode cJ7_copyOf_6403c 25 = .ok (.aload_n 0, 1) := by decide +kernel
theorem dJ7_copyOf_6403c_26 : decode cJ7_copyOf_6403c 26 = .ok (.iconst 0, 1) := by decide +kernel
theorem dJ7_copyOf_6403c_27 : decode cJ7_copyOf_6403c 27 = .ok (.aload_n 3, 1) := by decide +kernel
theorem dJ7_copyOf_6403c_28 : decode cJ7_copyOf_6403c 28 = .ok (.iconst 0, 1) := by decide +kernel
theorem dJ7_copyOf_6403c_29 : decode cJ7_copyOf_6403c 29 = .ok (.aload_n 0, 1) := by decide +kernel
theorem dJ7_copyOf_6403c_30 : decode cJ7_copyOf_6403c 30 = .ok (.arraylength, 1) := by decide +kernel
theorem dJ7_copyOf_6403c_31 : decode cJ7_copyOf_6403c 31 = .ok (.iload_n 1, 1) := by decide +kernel
theorem dJ7_copyOf_6403c_32 : decode cJ7_copyOf_6403c 32 = .ok (.invokestatic 304, 3) := by decide +kernel
theorem dJ7_copyOf_6403c_35 : decode cJ7_copyOf_6403c 35 = .ok (.invokestatic 150, 3) := by decide +kernel
theorem dJ7_copyOf_6403c_38 : decode cJ7_copyOf_6403c 38 = .ok (.aload_n 3, 1) := by decide +kernel
theorem dJ7_copyOf_6403c_39 : decode cJ7_copyOf_6403c 39 = .ok (.areturn, 1) := by decide +kernel
theorem dJ15_checkIndex_7cf53_0 : decode cJ15_checkIndex_7cf53 0 = .ok (.iload_n 0, 1) := by decide +kernel
theorem dJ15_checkIndex_7cf53_1 : decode cJ15_checkIndex_7cf53 1 = .ok (.iload_n 1, 1) := by decide +kernel
theorem dJ15_checkIndex_7cf53_2 : decode cJ15_checkIndex_7cf53 2 = .ok (.aconst_null, 1) := by decide +kernel
theorem dJ15_checkIndex_7cf53_3 : decode cJ15_checkIndex_7cf53 3 = .ok (.invokestatic 105, 3) := by decide +kernel
theorem dJ15_checkIndex_7cf53_6 : decode cJ15_checkIndex_7cf53 6 = .ok (.ireturn, 1) := by decide +kernel
theorem dJ8_newLength_cabcc_0 : decode cJ8_newLength_cabcc 0 = .ok (.iload_n 0, 1) := by decide +kernel
theorem dJ8_newLength_cabcc_1 : decode cJ8_newLength_cabcc 1 = .ok (.iload_n 1, 1) := by decide +kernel
theorem dJ8_newLength_cabcc_2 : decode cJ8_newLength_cabcc 2 = .ok (.iload_n 2, 1) := by decide +kernel
theorem dJ8_newLength_cabcc_3 : decode cJ8_newLength_cabcc 3 = .ok (.invokestatic 194, 3) := by decide +kernel
theorem dJ8_newLength_cabcc_6 : decode cJ8_newLength_cabcc 6 = .ok (.iadd, 1) := by decide +kernel
theorem dJ8_newLength_cabcc_7 : decode cJ8_newLength_cabcc 7 = .ok (.istore_n 3, 1) := by decide +kernel
theorem dJ8_newLength_cabcc_8 : decode cJ8_newLength_cabcc 8 = .ok (.iconst 0, 1) := by decide +kernel
theorem dJ8_newLength_cabcc_9 : decode cJ8_newLength_cabcc 9 = .ok (.iload_n 3, 1) := by decide +kernel
theorem dJ8_newLength_cabcc_10 : decode cJ8_newLength_cabcc 10 = .ok (.if_icmp .ge 11, 3) := by decide +kernel
theorem dJ8_newLength_cabcc_13 : decode cJ8_newLength_cabcc 13 = .ok (.iload_n 3, 1) := by decide +kernel
theorem dJ8_newLength_cabcc_14 : decode cJ8_newLength_cabcc 14 = .ok (.ldc 200, 2) := by decide +kernel
theorem dJ8_newLength_cabcc_16 : decode cJ8_newLength_cabcc 16 = .ok (.if_icmp .gt 5, 3) := by decide +kernel
theorem dJ8_newLength_cabcc_19 : decode cJ8_newLength_cabcc 19 = .ok (.iload_n 3, 1) := by decide +kernel
theorem dJ8_newLength_cabcc_20 : decode cJ8_newLength_cabcc 20 = .ok (.ireturn, 1) := by decide +kernel
theorem dJ8_newLength_cabcc_21 : decode cJ8_newLength_cabcc 21 = .ok (.iload_n 0, 1) := by decide +kernel
theorem dJ8_newLength_cabcc_22 : decode cJ8_newLength_cabcc 22 = .ok (.iload_n 1, 1) := by decide +kernel
theorem dJ8_newLength_cabcc_23 : decode cJ8_newLength_cabcc 23 = .ok (.invokestatic 201, 3) := by decide +kernel
theorem dJ8_newLength_cabcc_26 : decode cJ8_newLength_cabcc 26 = .ok (.ireturn, 1) := by decide +kernel
theorem dJ8_hugeLength_7cf53_0 : decode cJ8_hugeLength_7cf53 0 = .ok (.iload_n 0, 1) := by decide +kernel
theorem dJ8_hugeLength_7cf53_1 : decode cJ8_hugeLength_7cf53 1 = .ok (.iload_n 1, 1) := by decide +kernel
theorem dJ8_hugeLength_7cf53_2 : decode cJ8_hugeLength_7cf53 2 = .ok (.iadd, 1) := by decide +kernel
theorem dJ8_hugeLength_7cf53_3 : decode cJ8_hugeLength_7cf53 3 = .ok (.istore_n 2, 1) := by decide +kernel
theorem dJ8_hugeLength_7cf53_4 : decode cJ8_hugeLength_7cf53 4 = .ok (.iload_n 2, 1) := by decide +kernel
theorem dJ8_hugeLength_7cf53_5 : decode cJ8_hugeLength_7cf53 5 = .ok (.ifCond .ge 44, 3) := by decide +kernel
theorem dJ8_hugeLength_7cf53_8 : decode cJ8_hugeLength_7cf53 8 = .ok (.new 204, 3) := by decide +kernel
theorem dJ8_hugeLength_7cf53_11 : decode cJ8_hugeLength_7cf53 11 = .ok (.dup, 1) := by decide +kernel
theorem dJ8_hugeLength_7cf53_12 : decode cJ8_hugeLength_7cf53 12 = .ok (.new 89, 3) := by decide +kernel
theorem dJ8_hugeLength_7cf53_15 : decode cJ8_hugeLength_7cf53 15 = .ok (.dup, 1) := by decide +kernel
theorem dJ8_hugeLength_7cf53_16 : decode cJ8_hugeLength_7cf53 16 = .ok (.invokespecial 91, 3) := by decide +kernel
theorem dJ8_hugeLength_7cf53_19 : decode cJ8_hugeLength_7cf53 19 = .ok (.ldc 206, 2) := by decide +kernel
theorem dJ8_hugeLength_7cf53_21 : decode cJ8_hugeLength_7cf53 21 = .ok (.invokevirtual 94, 3) := by decide +kernel
theorem dJ8_hugeLength_7cf53_24 : decode cJ8_hugeLength_7cf53 24 = .ok (.iload_n 0, 1) := by decide +kernel
theorem dJ8_hugeLength_7cf53_25 : decode cJ8_hugeLength_7cf53 25 = .ok (.invokevirtual 98, 3) := by decide +kernel
theorem dJ8_hugeLength_7cf53_28 : decode cJ8_hugeLength_7cf53 28 = .ok (.ldc 208, 2) := by decide +kernel
theorem dJ8_hugeLength_7cf53_30 : decode cJ8_hugeLength_7cf53 30 = .ok (.invokevirtual 94, 3) := by decide +kernel
theorem dJ8_hugeLength_7cf53_33 : decode cJ8_hugeLength_7cf53 33 = .ok (.iload_n 1, 1) := by decide +kernel
theorem dJ8_hugeLength_7cf53_34 : decode cJ8_hugeLength_7cf53 34 = .ok (.invokevirtual 98, 3) := by decide +kernel
theorem dJ8_hugeLength_7cf53_37 : decode cJ8_hugeLength_7cf53 37 = .ok (.ldc 210, 2) := by decide +kernel
theorem dJ8_hugeLength_7cf53_39 : decode cJ8_hugeLength_7cf53 39 = .ok (.invokevirtual 94, 3) := by decide +kernel
theorem dJ8_hugeLength_7cf53_42 : decode cJ8_hugeLength_7cf53 42 = .ok (.invokevirtual 101, 3) := by decide +kernel
theorem dJ8_hugeLength_7cf53_45 : decode cJ8_hugeLength_7cf53 45 = .ok (.invokespecial 212, 3) := by decide +kernel
theorem dJ8_hugeLength_7cf53_48 : decode cJ8_hugeLength_7cf53 48 = .ok (.athrow, 1) := by decide +kernel
theorem dJ8_hugeLength_7cf53_49 : decode cJ8_hugeLength_7cf53 49 = .ok (.iload_n 2, 1) := by decide +kernel
theorem dJ8_hugeLength_7cf53_50 : decode cJ8_hugeLength_7cf53 50 = .ok (.ldc 200, 2) := by decide +kernel
theorem dJ8_hugeLength_7cf53_52 : decode cJ8_hugeLength_7cf53 52 = .ok (.if_icmp .gt 6, 3) := by decide +kernel
theorem dJ8_hugeLength_7cf53_55 : decode cJ8_hugeLength_7cf53 55 = .ok (.ldc 200, 2) := by decide +kernel
theorem dJ8_hugeLength_7cf53_57 : decode cJ8_hugeLength_7cf53 57 = .ok (.ireturn, 1) := by decide +kernel
theorem dJ8_hugeLength_7cf53_58 : decode cJ8_hugeLength_7cf53 58 = .ok (.iload_n 2, 1) := by decide +kernel
theorem dJ8_hugeLength_7cf53_59 : decode cJ8_hugeLength_7cf53 59 = .ok (.ireturn, 1) := by decide +kernel
theorem dJ3_checkIndex_8e157_0 : decode cJ3_checkIndex_8e157 0 = .ok (.iload_n 0, 1) := by decide +kernel
theorem dJ3_checkIndex_8e157_1 : decode cJ3_checkIndex_8e157 1 = .ok (.ifCond .lt 8, 3) := by decide +kernel
theorem dJ3_checkIndex_8e157_4 : decode cJ3_checkIndex_8e157 4 = .ok (.iload_n 0, 1) := by decide +kernel
theorem dJ3_checkIndex_8e157_5 : decode cJ3_checkIndex_8e157 5 = .ok (.iload_n 1, 1) := by decide +kernel
theorem dJ3_checkIndex_8e157_6 : decode cJ3_checkIndex_8e157 6 = .ok (.if_icmp .lt 10, 3) := by decide +kernel
theorem dJ3_checkIndex_8e157_9 : decode cJ3_checkIndex_8e157 9 = .ok (.aload_n 2, 1) := by decide +kernel
theorem dJ3_checkIndex_8e157_10 : decode cJ3_checkIndex_8e157 10 = .ok (.iload_n 0, 1) := by decide +kernel
theorem dJ3_checkIndex_8e157_11 : decode cJ3_checkIndex_8e157 11 = .ok (.iload_n 1, 1) := by decide +kernel
theorem dJ3_checkIndex_8e157_12 : decode cJ3_checkIndex_8e157 12 = .ok (.invokestatic 95, 3) := by decide +kernel
theorem dJ3_checkIndex_8e157_15 : decode cJ3_checkIndex_8e157 15 = .ok (.athrow, 1) := by decide +kernel
theorem dJ3_checkIndex_8e157_16 : decode cJ3_checkIndex_8e157 16 = .ok (.iload_n 0, 1) := by decide +kernel
theorem dJ3_checkIndex_8e157_17 : decode cJ3_checkIndex_8e157 17 = .ok (.ireturn, 1) := by decide +kernel
end
section
theorem dX7_init_0 : decode cX7_init 0 = .ok (.aload_n 0, 1) := by decide +kernel
theorem dX7_init_1 : decode cX7_init 1 = .ok (.invokespecial 1, 3) := by decide +kernel
theorem dX7_init_4 : decode cX7_init 4 = .ok (.aload_n 0, 1) := by decide +kernel
theorem dX7_init_5 : decode cX7_init 5 = .ok (.iconst 4, 1) := by decide +kernel
theorem dX7_init_6 : decode cX7_init 6 = .ok (.newarray .boolean, 2) := by decide +kernel
theorem dX7_init_8 : decode cX7_init 8 = .ok (.putfield 7, 3) := by decide +kernel
theorem dX7_init_11 : decode cX7_init 11 = .ok (.aload_n 0, 1) := by decide +kernel
theorem dX7_init_12 : decode cX7_init 12 = .ok (.bipush 12, 2) := by decide +kernel
theorem dX7_init_14 : decode cX7_init 14 = .ok (.newarray .int, 2) := by decide +kernel
theorem dX7_init_16 : decode cX7_init 16 = .ok (.putfield 13, 3) := by decide +kernel
theorem dX7_init_19 : decode cX7_init 19 = .ok (.aload_n 0, 1) := by decide +kernel
theorem dX7_init_20 : decode cX7_init 20 = .ok (.bipush 12, 2) := by decide +kernel
theorem dX7_init_22 : decode cX7_init 22 = .ok (.newarray .int, 2) := by decide +kernel
theorem dX7_init_24 : decode cX7_init 24 = .ok (.putfield 17, 3) := by decide +kernel
theorem dX7_init_27 : decode cX7_init 27 = .ok (.aload_n 0, 1) := by decide +kernel
theorem dX7_init_28 : decode cX7_init 28 = .ok (.bipush 12, 2) := by decide +kernel
theorem dX7_init_30 : decode cX7_init 30 = .ok (.newarray .int, 2) := by decide +kernel
theorem dX7_init_32 : decode cX7_init 32 = .ok (.putfield 20, 3) := by decide +kernel
theorem dX7_init_35 : decode cX7_init 35 = .ok (.aload_n 0, 1) := by decide +kernel
theorem dX7_init_36 : decode cX7_init 36 = .ok (.bipush 12, 2) := by decide +kernel
theorem dX7_init_38 : decode cX7_init 38 = .ok (.newarray .int, 2) := by decide +kernel
theorem dX7_init_40 : decode cX7_init 40 = .ok (.putfield 23, 3) := by decide +kernel
theorem dX7_init_43 : decode cX7_init 43 = .ok (.aload_n 0, 1) := by decide +kernel
theorem dX7_init_44 : decode cX7_init 44 = .ok (.bipush 12, 2) := by decide +kernel
theorem dX7_init_46 : decode cX7_init 46 = .ok (.newarray .int, 2) := by decide +kernel
theorem dX7_init_48 : decode cX7_init 48 = .ok (.putfield 26, 3) := by decide +kernel
theorem dX7_init_51 : decode cX7_init 51 = .ok (.aload_n 0, 1) := by decide +kernel
theorem dX7_init_52 : decode cX7_init 52 = .ok (.bipush 12, 2) := by decide +kernel
theorem dX7_init_54 : decode cX7_init 54 = .ok (.newarray .int, 2) := by decide +kernel
theorem dX7_init_56 : decode cX7_init 56 = .ok (.putfield 29, 3) := by decide +kernel
theorem dX7_init_59 : decode cX7_init 59 = .ok (.aload_n 0, 1) := by decide +kernel
theorem dX7_init_60 : decode cX7_init 60 = .ok (.bipush 12, 2) := by decide +kernel
theorem dX7_init_62 : decode cX7_init 62 = .ok (.newarray .int, 2) := by decide +kernel
theorem dX7_init_64 : decode cX7_init 64 = .ok (.putfield 32, 3) := by decide +kernel
theorem dX7_init_67 : decode cX7_init 67 = .ok (.aload_n 0, 1) := by decide +kernel
theorem dX7_init_68 : decode cX7_init 68 = .ok (.bipush 12, 2) := by decide +kernel
theorem dX7_init_70 : decode cX7_init 70 = .ok (.newarray .int, 2) := by decide +kernel
theorem dX7_init_72 : decode cX7_init 72 = .ok (.putfield 35, 3) := by decide +kernel
theorem dX7_init_75 : decode cX7_init 75 = .ok (.aload_n 0, 1) := by decide +kernel
theorem dX7_init_76 : decode cX7_init 76 = .ok (.bipush 12, 2) := by decide +kernel
theorem dX7_init_78 : decode cX7_init 78 = .ok (.newarray .int, 2) := by decide +kernel
theorem dX7_init_80 : decode cX7_init 80 = .ok (.putfield 38, 3) := by decide +kernel
theorem dX7_init_83 : decode cX7_init 83 = .ok (.aload_n 0, 1) := by decide +kernel
theorem dX7_init_84 : decode cX7_init 84 = .ok (.bipush 12, 2) := by decide +kernel
theorem dX7_init_86 : decode cX7_init 86 = .ok (.newarray .int, 2) := by decide +kernel
theorem dX7_init_88 : decode cX7_init 88 = .ok (.putfield 41, 3) := by decide +kernel
theorem dX7_init_91 : decode cX7_init 91 = .ok (.aload_n 0, 1) := by decide +kernel
theorem dX7_init_92 : decode cX7_init 92 = .ok (.bipush 12, 2) := by decide +kernel
theorem dX7_init_94 : decode cX7_init 94 = .ok (.newarray .boolean, 2) := by decide +kernel
theorem dX7_init_96 : decode cX7_init 96 = .ok (.putfield 44, 3) := by decide +kernel
theorem dX7_init_99 : decode cX7_init 99 = .ok (.aload_n 0, 1) := by decide +kernel
theorem dX7_init_100 : decode cX7_init 100 = .ok (.bipush 12, 2) := by decide +kernel
theorem dX7_init_102 : decode cX7_init 102 = .ok (.newarray .int, 2) := by decide +kernel
theorem dX7_init_104 : decode cX7_init 104 = .ok (.putfield 47, 3) := by decide +kernel
theorem dX7_init_107 : decode cX7_init 107 = .ok (.aload_n 0, 1) := by decide +kernel
theorem dX7_init_108 : decode cX7_init 108 = .ok (.bipush 12, 2) := by decide +kernel
theorem dX7_init_110 : decode cX7_init 110 = .ok (.newarray .int, 2) := by decide +kernel
theorem dX7_init_112 : decode cX7_init 112 = .ok (.putfield 50, 3) := by decide +kernel
theorem dX7_init_115 : decode cX7_init 115 = .ok (.aload_n 0, 1) := by decide +kernel
theorem dX7_init_116 : decode cX7_init 116 = .ok (.bipush 12, 2) := by decide +kernel
theorem dX7_init_118 : decode cX7_init 118 = .ok (.newarray .int, 2) := by decide +kernel
theorem dX7_init_120 : decode cX7_init 120 = .ok (.putfield 53, 3) := by decide +kernel
theorem dX7_init_123 : decode cX7_init 123 = .ok (.aload_n 0, 1) := by decide +kernel
theorem dX7_init_124 : decode cX7_init 124 = .ok (.bipush 60, 2) := by decide +kernel
theorem dX7_init_126 : decode cX7_init 126 = .ok (.newarray .boolean, 2) := by decide +kernel
theorem dX7_init_128 : decode cX7_init 128 = .ok (.putfield 56, 3) := by decide +kernel
theorem dX7_init_131 : decode cX7_init 131 = .ok (.aload_n 0, 1) := by decide +kernel
theorem dX7_init_132 : decode cX7_init 132 = .ok (.bipush 60, 2) := by decide +kernel
theorem dX7_init_134 : decode cX7_init 134 = .ok (.newarray .int, 2) := by decide +kernel
theorem dX7_init_136 : decode cX7_init 136 = .ok (.putfield 59, 3) := by decide +kernel
theorem dX7_init_139 : decode cX7_init 139 = .ok (.aload_n 0, 1) := by decide +kernel
theorem dX7_init_140 : decode cX7_init 140 = .ok (.bipush 60, 2) := by decide +kernel
theorem dX7_init_142 : decode cX7_init 142 = .ok (.newarray .int, 2) := by decide +kernel
theorem dX7_init_144 : decode cX7_init 144 = .ok (.putfield 62, 3) := by decide +kernel
theorem dX7_init_147 : decode cX7_init 147 = .ok (.aload_n 0, 1) := by decide +kernel
theorem dX7_init_148 : decode cX7_init 148 = .ok (.bipush 60, 2) := by decide +kernel
theorem dX7_init_150 : decode cX7_init 150 = .ok (.newarray .int, 2) := by decide +kernel
theorem dX7_init_152 : decode cX7_init 152 = .ok (.putfield 65, 3) := by decide +kernel
theorem dX7_init_155 : decode cX7_init 155 = .ok (.aload_n 0, 1) := by decide +kernel
theorem dX7_init_156 : decode cX7_init 156 = .ok (.bipush 60, 2) := by decide +kernel
theorem dX7_init_158 : decode cX7_init 158 = .ok (.newarray .int, 2) := by decide +kernel
theorem dX7_init_160 : decode cX7_init 160 = .ok (.putfield 68, 3) := by decide +kernel
theorem dX7_init_163 : decode cX7_init 163 = .ok (.aload_n 0, 1) := by decide +kernel
theorem dX7_init_164 : decode cX7_init 164 = .ok (.bipush 20, 2) := by decide +kernel
theorem dX7_init_166 : decode cX7_init 166 = .ok (.newarray .int, 2) := by decide +kernel
theorem dX7_init_168 : decode cX7_init 168 = .ok (.putfield 71, 3) := by decide +kernel
theorem dX7_init_171 : decode cX7_init 171 = .ok (.aload_n 0, 1) := by decide +kernel
theorem dX7_init_172 : decode cX7_init 172 = .ok (.bipush 20, 2) := by decide +kernel
theorem dX7_init_174 : decode cX7_init 174 = .ok (.newarray .int, 2) := by decide +kernel
theorem dX7_init_176 : decode cX7_init 176 = .ok (.putfield 74, 3) := by decide +kernel
theorem dX7_init_179 : decode cX7_init 179 = .ok (.aload_n 0, 1) := by decide +kernel
theorem dX7_init_180 : decode cX7_init 180 = .ok (.bipush 20, 2) := by decide +kernel
theorem dX7_init_182 : decode cX7_init 182 = .ok (.newarray .int, 2) := by decide +kernel
theorem dX7_init_184 : decode cX7_init 184 = .ok (.putfield 77, 3) := by decide +kernel
theorem dX7_init_187 : decode cX7_init 187 = .ok (.aload_n 0, 1) := by decide +kernel
theorem dX7_init_188 : decode cX7_init 188 = .ok (.bipush 20, 2) := by decide +kernel
theorem dX7_init_190 : decode cX7_init 190 = .ok (.newarray .int, 2) := by decide +kernel
theorem dX7_init_192 : decode cX7_init 192 = .ok (.putfield 80, 3) := by decide +kernel
theorem dX7_init_195 : decode cX7_init 195 = .ok (.aload_n 0, 1) := by decide +kernel
theorem dX7_init_196 : decode cX7_init 196 = .ok (.bipush 20, 2) := by decide +kernel
theorem dX7_init_198 : decode cX7_init 198 = .ok (.newarray .int, 2) := by decide +kernel
theorem dX7_init_200 : decode cX7_init 200 = .ok (.putfield 83, 3) := by decide +kernel
theorem dX7_init_203 : decode cX7_init 203 = .ok (.aload_n 0, 1) := by decide +kernel
theorem dX7_init_204 : decode cX7_init 204 = .ok (.bipush 60, 2) := by decide +kernel
theorem dX7_init_206 : decode cX7_init 206 = .ok (.newarray .int, 2) := by decide +kernel
theorem dX7_init_208 : decode cX7_init 208 = .ok (.putfield 86, 3) := by decide +kernel
theorem dX7_init_211 : decode cX7_init 211 = .ok (.aload_n 0, 1) := by decide +kernel
theorem dX7_init_212 : decode cX7_init 212 = .ok (.bipush 60, 2) := by decide +kernel
theorem dX7_init_214 : decode cX7_init 214 = .ok (.newarray .int, 2) := by decide +kernel
theorem dX7_init_216 : decode cX7_init 216 = .ok (.putfield 89, 3) := by decide +kernel
theorem dX7_init_219 : decode cX7_init 219 = .ok (.aload_n 0, 1) := by decide +kernel
theorem dX7_init_220 : decode cX7_init 220 = .ok (.bipush 60, 2) := by decide +kernel
theorem dX7_init_222 : decode cX7_init 222 = .ok (.newarray .int, 2) := by decide +kernel
theorem dX7_init_224 : decode cX7_init 224 = .ok (.putfield 92, 3) := by decide +kernel
theorem dX7_init_227 : decode cX7_init 227 = .ok (.aload_n 0, 1) := by decide +kernel
theorem dX7_init_228 : decode cX7_init 228 = .ok (.bipush 60, 2) := by decide +kernel
theorem dX7_init_230 : decode cX7_init 230 = .ok (.newarray .int, 2) := by decide +kernel
theorem dX7_init_232 : decode cX7_init 232 = .ok (.putfield 95, 3) := by decide +kernel
theorem dX7_init_235 : decode cX7_init 235 = .ok (.aload_n 0, 1) := by decide +kernel
theorem dX7_init_236 : decode cX7_init 236 = .ok (.bipush 60, 2) := by decide +kernel
theorem dX7_init_238 : decode cX7_init 238 = .ok (.newarray .int, 2) := by decide +kernel
theorem dX7_init_240 : decode cX7_init 240 = .ok (.putfield 98, 3) := by decide +kernel
theorem dX7_init_243 : decode cX7_init 243 = .ok (.aload_n 0, 1) := by decide +kernel
theorem dX7_init_244 : decode cX7_init 244 = .ok (.bipush 60, 2) := by decide +kernel
theorem dX7_init_246 : decode cX7_init 246 = .ok (.newarray .int, 2) := by decide +kernel
theorem dX7_init_248 : decode cX7_init 248 = .ok (.putfield 101, 3) := by decide +kernel
theorem dX7_init_251 : decode cX7_init 251 = .ok (.aload_n 0, 1) := by decide +kernel
theorem dX7_init_252 : decode cX7_init 252 = .ok (.sipush 720, 3) := by decide +kernel
theorem dX7_init_255 : decode cX7_init 255 = .ok (.newarray .int, 2) := by decide +kernel
theorem dX7_init_257 : decode cX7_init 257 = .ok (.putfield 104, 3) := by decide +kernel
theorem dX7_init_260 : decode cX7_init 260 = .ok (.aload_n 0, 1) := by decide +kernel
theorem dX7_init_261 : decode cX7_init 261 = .ok (.sipush 720, 3) := by decide +kernel
theorem dX7_init_264 : decode cX7_init 264 = .ok (.newarray .int, 2) := by decide +kernel
theorem dX7_init_266 : decode cX7_init 266 = .ok (.putfield 107, 3) := by decide +kernel
theorem dX7_init_269 : decode cX7_init 269 = .ok (.aload_n 0, 1) := by decide +kernel
theorem dX7_init_270 : decode cX7_init 270 = .ok (.bipush 60, 2) := by decide +kernel
theorem dX7_init_272 : decode cX7_init 272 = .ok (.newarray .int, 2) := by decide +kernel
theorem dX7_init_274 : decode cX7_init 274 = .ok (.putfield 110, 3) := by decide +kernel
theorem dX7_init_277 : decode cX7_init 277 = .ok (.aload_n 0, 1) := by decide +kernel
theorem dX7_init_278 : decode cX7_init 278 = .ok (.bipush 60, 2) := by decide +kernel
theorem dX7_init_280 : decode cX7_init 280 = .ok (.newarray .boolean, 2) := by decide +kernel
theorem dX7_init_282 : decode cX7_init 282 = .ok (.putfield 113, 3) := by decide +kernel
theorem dX7_init_285 : decode cX7_init 285 = .ok (.aload_n 0, 1) := by decide +kernel
theorem dX7_init_286 : decode cX7_init 286 = .ok (.bipush 60, 2) := by decide +kernel
theorem dX7_init_288 : decode cX7_init 288 = .ok (.newarray .int, 2) := by decide +kernel
theorem dX7_init_290 : decode cX7_init 290 = .ok (.putfield 116, 3) := by decide +kernel
theorem dX7_init_293 : decode cX7_init 293 = .ok (.aload_n 0, 1) := by decide +kernel
theorem dX7_init_294 : decode cX7_init 294 = .ok (.bipush 60, 2) := by decide +kernel
theorem dX7_init_296 : decode cX7_init 296 = .ok (.newarray .int, 2) := by decide +kernel
theorem dX7_init_298 : decode cX7_init 298 = .ok (.putfield 119, 3) := by decide +kernel
theorem dX7_init_301 : decode cX7_init 301 = .ok (.aload_n 0, 1) := by decide +kernel
theorem dX7_init_302 : decode cX7_init 302 = .ok (.bipush 60, 2) := by decide +kernel
theorem dX7_init_304 : decode cX7_init 304 = .ok (.newarray .boolean, 2) := by decide +kernel
theorem dX7_init_306 : decode cX7_init 306 = .ok (.putfield 122, 3) := by decide +kernel
theorem dX7_init_309 : decode cX7_init 309 = .ok (.aload_n 0, 1) := by decide +kernel
theorem dX7_init_310 : decode cX7_init 310 = .ok (.iconst 4, 1) := by decide +kernel
theorem dX7_init_311 : decode cX7_init 311 = .ok (.newarray .int, 2) := by decide +kernel
theorem dX7_init_313 : decode cX7_init 313 = .ok (.putfield 125, 3) := by decide +kernel
theorem dX7_init_316 : decode cX7_init 316 = .ok (.return_, 1) := by decide +kernel
theorem dX7_thrown_0 : decode cX7_thrown 0 = .ok (.aload_n 0, 1) := by decide +kernel
theorem dX7_thrown_1 : decode cX7_thrown 1 = .ok (.getfield 128, 3) := by decide +kernel
theorem dX7_thrown_4 : decode cX7_thrown 4 = .ok (.ireturn, 1) := by decide +kernel
theorem dX7_in_0 : decode cX7_in 0 = .ok (.iload_n 0, 1) := by decide +kernel
theorem dX7_in_1 : decode cX7_in 1 = .ok (.iload_n 1, 1) := by decide +kernel
theorem dX7_in_2 : decode cX7_in 2 = .ok (.if_icmp .lt 12, 3) := by decide +kernel
theorem dX7_in_5 : decode cX7_in 5 = .ok (.iload_n 0, 1) := by decide +kernel
theorem dX7_in_6 : decode cX7_in 6 = .ok (.iload_n 2, 1) := by decide +kernel
theorem dX7_in_7 : decode cX7_in 7 = .ok (.if_icmp .gt 7, 3) := by decide +kernel
theorem dX7_in_10 : decode cX7_in 10 = .ok (.iconst 1, 1) := by decide +kernel
theorem dX7_in_11 : decode cX7_in 11 = .ok (.goto 4, 3) := by decide +kernel
theorem dX7_in_14 : decode cX7_in 14 = .ok (.iconst 0, 1) := by decide +kernel
theorem dX7_in_15 : decode cX7_in 15 = .ok (.ireturn, 1) := by decide +kernel
theorem dX7_isShip_0 : decode cX7_isShip 0 = .ok (.iload_n 1, 1) := by decide +kernel
theorem dX7_isShip_1 : decode cX7_isShip 1 = .ok (.iconst 0, 1) := by decide +kernel
theorem dX7_isShip_2 : decode cX7_isShip 2 = .ok (.aload_n 0, 1) := by decide +kernel
theorem dX7_isShip_3 : decode cX7_isShip 3 = .ok (.getfield 132, 3) := by decide +kernel
theorem dX7_isShip_6 : decode cX7_isShip 6 = .ok (.iconst 1, 1) := by decide +kernel
theorem dX7_isShip_7 : decode cX7_isShip 7 = .ok (.isub, 1) := by decide +kernel
theorem dX7_isShip_8 : decode cX7_isShip 8 = .ok (.invokestatic 135, 3) := by decide +kernel
theorem dX7_isShip_11 : decode cX7_isShip 11 = .ok (.ireturn, 1) := by decide +kernel
theorem dX7_isVisit_0 : decode cX7_isVisit 0 = .ok (.iload_n 1, 1) := by decide +kernel
theorem dX7_isVisit_1 : decode cX7_isVisit 1 = .ok (.iconst 0, 1) := by decide +kernel
theorem dX7_isVisit_2 : decode cX7_isVisit 2 = .ok (.aload_n 0, 1) := by decide +kernel
theorem dX7_isVisit_3 : decode cX7_isVisit 3 = .ok (.getfield 139, 3) := by decide +kernel
theorem dX7_isVisit_6 : decode cX7_isVisit 6 = .ok (.iconst 1, 1) := by decide +kernel
theorem dX7_isVisit_7 : decode cX7_isVisit 7 = .ok (.isub, 1) := by decide +kernel
theorem dX7_isVisit_8 : decode cX7_isVisit 8 = .ok (.invokestatic 135, 3) := by decide +kernel
theorem dX7_isVisit_11 : decode cX7_isVisit 11 = .ok (.ireturn, 1) := by decide +kernel
theorem dX7_isFlag_0 : decode cX7_isFlag 0 = .ok (.iload_n 0, 1) := by decide +kernel
theorem dX7_isFlag_1 : decode cX7_isFlag 1 = .ok (.iconst 0, 1) := by decide +kernel
theorem dX7_isFlag_2 : decode cX7_isFlag 2 = .ok (.iconst 5, 1) := by decide +kernel
theorem dX7_isFlag_3 : decode cX7_isFlag 3 = .ok (.invokestatic 135, 3) := by decide +kernel
theorem dX7_isFlag_6 : decode cX7_isFlag 6 = .ok (.ireturn, 1) := by decide +kernel
theorem dX7_isBody_0 : decode cX7_isBody 0 = .ok (.iload_n 0, 1) := by decide +kernel
theorem dX7_isBody_1 : decode cX7_isBody 1 = .ok (.iconst 0, 1) := by decide +kernel
theorem dX7_isBody_2 : decode cX7_isBody 2 = .ok (.iconst 3, 1) := by decide +kernel
theorem dX7_isBody_3 : decode cX7_isBody 3 = .ok (.invokestatic 135, 3) := by decide +kernel
theorem dX7_isBody_6 : decode cX7_isBody 6 = .ok (.ireturn, 1) := by decide +kernel
theorem dX7_isPort_0 : decode cX7_isPort 0 = .ok (.iload_n 0, 1) := by decide +kernel
theorem dX7_isPort_1 : decode cX7_isPort 1 = .ok (.iconst 0, 1) := by decide +kernel
theorem dX7_isPort_2 : decode cX7_isPort 2 = .ok (.iconst 3, 1) := by decide +kernel
theorem dX7_isPort_3 : decode cX7_isPort 3 = .ok (.invokestatic 135, 3) := by decide +kernel
theorem dX7_isPort_6 : decode cX7_isPort 6 = .ok (.ireturn, 1) := by decide +kernel
theorem dX7_isIn_0 : decode cX7_isIn 0 = .ok (.iload_n 0, 1) := by decide +kernel
theorem dX7_isIn_1 : decode cX7_isIn 1 = .ok (.iload_n 1, 1) := by decide +kernel
theorem dX7_isIn_2 : decode cX7_isIn 2 = .ok (.ishr, 1) := by decide +kernel
theorem dX7_isIn_3 : decode cX7_isIn 3 = .ok (.iconst 1, 1) := by decide +kernel
theorem dX7_isIn_4 : decode cX7_isIn 4 = .ok (.iand, 1) := by decide +kernel
theorem dX7_isIn_5 : decode cX7_isIn 5 = .ok (.iconst 1, 1) := by decide +kernel
theorem dX7_isIn_6 : decode cX7_isIn 6 = .ok (.if_icmp .ne 7, 3) := by decide +kernel
theorem dX7_isIn_9 : decode cX7_isIn 9 = .ok (.iconst 1, 1) := by decide +kernel
theorem dX7_isIn_10 : decode cX7_isIn 10 = .ok (.goto 4, 3) := by decide +kernel
theorem dX7_isIn_13 : decode cX7_isIn 13 = .ok (.iconst 0, 1) := by decide +kernel
theorem dX7_isIn_14 : decode cX7_isIn 14 = .ok (.ireturn, 1) := by decide +kernel
theorem dX7_pass_0 : decode cX7_pass 0 = .ok (.aload_n 0, 1) := by decide +kernel
theorem dX7_pass_1 : decode cX7_pass 1 = .ok (.iload_n 1, 1) := by decide +kernel
theorem dX7_pass_2 : decode cX7_pass 2 = .ok (.iconst 1, 1) := by decide +kernel
theorem dX7_pass_3 : decode cX7_pass 3 = .ok (.sipush 500, 3) := by decide +kernel
theorem dX7_pass_6 : decode cX7_pass 6 = .ok (.invokestatic 135, 3) := by decide +kernel
theorem dX7_pass_9 : decode cX7_pass 9 = .ok (.ifCond .ne 7, 3) := by decide +kernel
theorem dX7_pass_12 : decode cX7_pass 12 = .ok (.iconst 1, 1) := by decide +kernel
theorem dX7_pass_13 : decode cX7_pass 13 = .ok (.goto 20, 3) := by decide +kernel
theorem dX7_pass_16 : decode cX7_pass 16 = .ok (.aload_n 0, 1) := by decide +kernel
theorem dX7_pass_17 : decode cX7_pass 17 = .ok (.getfield 142, 3) := by decide +kernel
theorem dX7_pass_20 : decode cX7_pass 20 = .ok (.iload_n 1, 1) := by decide +kernel
theorem dX7_pass_21 : decode cX7_pass 21 = .ok (.iadd, 1) := by decide +kernel
theorem dX7_pass_22 : decode cX7_pass 22 = .ok (.sipush 9000, 3) := by decide +kernel
theorem dX7_pass_25 : decode cX7_pass 25 = .ok (.if_icmp .le 7, 3) := by decide +kernel
theorem dX7_pass_28 : decode cX7_pass 28 = .ok (.iconst 2, 1) := by decide +kernel
theorem dX7_pass_29 : decode cX7_pass 29 = .ok (.goto 4, 3) := by decide +kernel
theorem dX7_pass_32 : decode cX7_pass 32 = .ok (.iconst 0, 1) := by decide +kernel
theorem dX7_pass_33 : decode cX7_pass 33 = .ok (.putfield 128, 3) := by decide +kernel
theorem dX7_pass_36 : decode cX7_pass 36 = .ok (.aload_n 0, 1) := by decide +kernel
theorem dX7_pass_37 : decode cX7_pass 37 = .ok (.getfield 128, 3) := by decide +kernel
theorem dX7_pass_40 : decode cX7_pass 40 = .ok (.ifCond .le 5, 3) := by decide +kernel
theorem dX7_pass_43 : decode cX7_pass 43 = .ok (.iconst 0, 1) := by decide +kernel
theorem dX7_pass_44 : decode cX7_pass 44 = .ok (.ireturn, 1) := by decide +kernel
theorem dX7_pass_45 : decode cX7_pass 45 = .ok (.aload_n 0, 1) := by decide +kernel
theorem dX7_pass_46 : decode cX7_pass 46 = .ok (.dup, 1) := by decide +kernel
theorem dX7_pass_47 : decode cX7_pass 47 = .ok (.getfield 142, 3) := by decide +kernel
theorem dX7_pass_50 : decode cX7_pass 50 = .ok (.iload_n 1, 1) := by decide +kernel
theorem dX7_pass_51 : decode cX7_pass 51 = .ok (.iadd, 1) := by decide +kernel
theorem dX7_pass_52 : decode cX7_pass 52 = .ok (.putfield 142, 3) := by decide +kernel
theorem dX7_pass_55 : decode cX7_pass 55 = .ok (.aload_n 0, 1) := by decide +kernel
theorem dX7_pass_56 : decode cX7_pass 56 = .ok (.getfield 142, 3) := by decide +kernel
theorem dX7_pass_59 : decode cX7_pass 59 = .ok (.ireturn, 1) := by decide +kernel
theorem dX7_ship_0 : decode cX7_ship 0 = .ok (.iload_n 1, 1) := by decide +kernel
theorem dX7_ship_1 : decode cX7_ship 1 = .ok (.sipush (-10000), 3) := by decide +kernel
theorem dX7_ship_4 : decode cX7_ship 4 = .ok (.aload_n 0, 1) := by decide +kernel
theorem dX7_ship_5 : decode cX7_ship 5 = .ok (.getfield 142, 3) := by decide +kernel
theorem dX7_ship_8 : decode cX7_ship 8 = .ok (.invokestatic 135, 3) := by decide +kernel
theorem dX7_ship_11 : decode cX7_ship 11 = .ok (.ifCond .eq 27, 3) := by decide +kernel
theorem dX7_ship_14 : decode cX7_ship 14 = .ok (.iload_n 2, 1) := by decide +kernel
theorem dX7_ship_15 : decode cX7_ship 15 = .ok (.bipush 100, 2) := by decide +kernel
theorem dX7_ship_17 : decode cX7_ship 17 = .ok (.ldc 145, 2) := by decide +kernel
theorem dX7_ship_19 : decode cX7_ship 19 = .ok (.invokestatic 135, 3) := by decide +kernel
theorem dX7_ship_22 : decode cX7_ship 22 = .ok (.ifCond .eq 16, 3) := by decide +kernel
theorem dX7_ship_25 : decode cX7_ship 25 = .ok (.iload_n 3, 1) := by decide +kernel
theorem dX7_ship_26 : decode cX7_ship 26 = .ok (.iconst 0, 1) := by decide +kernel
theorem dX7_ship_27 : decode cX7_ship 27 = .ok (.iconst 2, 1) := by decide +kernel
theorem dX7_ship_28 : decode cX7_ship 28 = .ok (.invokestatic 135, 3) := by decide +kernel
theorem dX7_ship_31 : decode cX7_ship 31 = .ok (.ifCond .eq 7, 3) := by decide +kernel
theorem dX7_ship_34 : decode cX7_ship 34 = .ok (.iconst 1, 1) := by decide +kernel
theorem dX7_ship_35 : decode cX7_ship 35 = .ok (.goto 4, 3) := by decide +kernel
theorem dX7_ship_38 : decode cX7_ship 38 = .ok (.iconst 0, 1) := by decide +kernel
theorem dX7_ship_39 : decode cX7_ship 39 = .ok (.istore 6, 2) := by decide +kernel
theorem dX7_ship_41 : decode cX7_ship 41 = .ok (.aload_n 0, 1) := by decide +kernel
theorem dX7_ship_42 : decode cX7_ship 42 = .ok (.iload 4, 2) := by decide +kernel
theorem dX7_ship_44 : decode cX7_ship 44 = .ok (.invokestatic 146, 3) := by decide +kernel
theorem dX7_ship_47 : decode cX7_ship 47 = .ok (.ifCond .eq 11, 3) := by decide +kernel
theorem dX7_ship_50 : decode cX7_ship 50 = .ok (.iload 5, 2) := by decide +kernel
theorem dX7_ship_52 : decode cX7_ship 52 = .ok (.invokestatic 150, 3) := by decide +kernel
theorem dX7_ship_55 : decode cX7_ship 55 = .ok (.ifCond .ne 7, 3) := by decide +kernel
theorem dX7_ship_58 : decode cX7_ship 58 = .ok (.iconst 1, 1) := by decide +kernel
theorem dX7_ship_59 : decode cX7_ship 59 = .ok (.goto 26, 3) := by decide +kernel
theorem dX7_ship_62 : decode cX7_ship 62 = .ok (.iload 6, 2) := by decide +kernel
theorem dX7_ship_64 : decode cX7_ship 64 = .ok (.ifCond .ne 7, 3) := by decide +kernel
theorem dX7_ship_67 : decode cX7_ship 67 = .ok (.iconst 2, 1) := by decide +kernel
theorem dX7_ship_68 : decode cX7_ship 68 = .ok (.goto 17, 3) := by decide +kernel
theorem dX7_ship_71 : decode cX7_ship 71 = .ok (.aload_n 0, 1) := by decide +kernel
theorem dX7_ship_72 : decode cX7_ship 72 = .ok (.getfield 132, 3) := by decide +kernel
theorem dX7_ship_75 : decode cX7_ship 75 = .ok (.bipush 12, 2) := by decide +kernel
theorem dX7_ship_77 : decode cX7_ship 77 = .ok (.if_icmp .ne 7, 3) := by decide +kernel
theorem dX7_ship_80 : decode cX7_ship 80 = .ok (.iconst 3, 1) := by decide +kernel
theorem dX7_ship_81 : decode cX7_ship 81 = .ok (.goto 4, 3) := by decide +kernel
theorem dX7_ship_84 : decode cX7_ship 84 = .ok (.iconst 0, 1) := by decide +kernel
theorem dX7_ship_85 : decode cX7_ship 85 = .ok (.putfield 128, 3) := by decide +kernel
theorem dX7_ship_88 : decode cX7_ship 88 = .ok (.aload_n 0, 1) := by decide +kernel
theorem dX7_ship_89 : decode cX7_ship 89 = .ok (.getfield 128, 3) := by decide +kernel
theorem dX7_ship_92 : decode cX7_ship 92 = .ok (.ifCond .le 5, 3) := by decide +kernel
theorem dX7_ship_95 : decode cX7_ship 95 = .ok (.iconst 0, 1) := by decide +kernel
theorem dX7_ship_96 : decode cX7_ship 96 = .ok (.ireturn, 1) := by decide +kernel
theorem dX7_ship_97 : decode cX7_ship 97 = .ok (.aload_n 0, 1) := by decide +kernel
theorem dX7_ship_98 : decode cX7_ship 98 = .ok (.getfield 13, 3) := by decide +kernel
theorem dX7_ship_101 : decode cX7_ship 101 = .ok (.aload_n 0, 1) := by decide +kernel
theorem dX7_ship_102 : decode cX7_ship 102 = .ok (.getfield 132, 3) := by decide +kernel
theorem dX7_ship_105 : decode cX7_ship 105 = .ok (.iload_n 1, 1) := by decide +kernel
theorem dX7_ship_106 : decode cX7_ship 106 = .ok (.iastore, 1) := by decide +kernel
theorem dX7_ship_107 : decode cX7_ship 107 = .ok (.aload_n 0, 1) := by decide +kernel
theorem dX7_ship_108 : decode cX7_ship 108 = .ok (.getfield 17, 3) := by decide +kernel
theorem dX7_ship_111 : decode cX7_ship 111 = .ok (.aload_n 0, 1) := by decide +kernel
theorem dX7_ship_112 : decode cX7_ship 112 = .ok (.getfield 132, 3) := by decide +kernel
theorem dX7_ship_115 : decode cX7_ship 115 = .ok (.iload_n 2, 1) := by decide +kernel
theorem dX7_ship_116 : decode cX7_ship 116 = .ok (.iastore, 1) := by decide +kernel
theorem dX7_ship_117 : decode cX7_ship 117 = .ok (.aload_n 0, 1) := by decide +kernel
theorem dX7_ship_118 : decode cX7_ship 118 = .ok (.getfield 20, 3) := by decide +kernel
theorem dX7_ship_121 : decode cX7_ship 121 = .ok (.aload_n 0, 1) := by decide +kernel
theorem dX7_ship_122 : decode cX7_ship 122 = .ok (.getfield 132, 3) := by decide +kernel
theorem dX7_ship_125 : decode cX7_ship 125 = .ok (.iload_n 3, 1) := by decide +kernel
theorem dX7_ship_126 : decode cX7_ship 126 = .ok (.iastore, 1) := by decide +kernel
theorem dX7_ship_127 : decode cX7_ship 127 = .ok (.aload_n 0, 1) := by decide +kernel
theorem dX7_ship_128 : decode cX7_ship 128 = .ok (.getfield 23, 3) := by decide +kernel
theorem dX7_ship_131 : decode cX7_ship 131 = .ok (.aload_n 0, 1) := by decide +kernel
theorem dX7_ship_132 : decode cX7_ship 132 = .ok (.getfield 132, 3) := by decide +kernel
theorem dX7_ship_135 : decode cX7_ship 135 = .ok (.iload 4, 2) := by decide +kernel
theorem dX7_ship_137 : decode cX7_ship 137 = .ok (.iastore, 1) := by decide +kernel
theorem dX7_ship_138 : decode cX7_ship 138 = .ok (.aload_n 0, 1) := by decide +kernel
theorem dX7_ship_139 : decode cX7_ship 139 = .ok (.getfield 26, 3) := by decide +kernel
theorem dX7_ship_142 : decode cX7_ship 142 = .ok (.aload_n 0, 1) := by decide +kernel
theorem dX7_ship_143 : decode cX7_ship 143 = .ok (.getfield 132, 3) := by decide +kernel
theorem dX7_ship_146 : decode cX7_ship 146 = .ok (.iload 5, 2) := by decide +kernel
theorem dX7_ship_148 : decode cX7_ship 148 = .ok (.iastore, 1) := by decide +kernel
theorem dX7_ship_149 : decode cX7_ship 149 = .ok (.aload_n 0, 1) := by decide +kernel
theorem dX7_ship_150 : decode cX7_ship 150 = .ok (.getfield 32, 3) := by decide +kernel
theorem dX7_ship_153 : decode cX7_ship 153 = .ok (.aload_n 0, 1) := by decide +kernel
theorem dX7_ship_154 : decode cX7_ship 154 = .ok (.getfield 132, 3) := by decide +kernel
theorem dX7_ship_157 : decode cX7_ship 157 = .ok (.iconst (-1), 1) := by decide +kernel
theorem dX7_ship_158 : decode cX7_ship 158 = .ok (.iastore, 1) := by decide +kernel
theorem dX7_ship_159 : decode cX7_ship 159 = .ok (.aload_n 0, 1) := by decide +kernel
theorem dX7_ship_160 : decode cX7_ship 160 = .ok (.getfield 35, 3) := by decide +kernel
theorem dX7_ship_163 : decode cX7_ship 163 = .ok (.aload_n 0, 1) := by decide +kernel
theorem dX7_ship_164 : decode cX7_ship 164 = .ok (.getfield 132, 3) := by decide +kernel
theorem dX7_ship_167 : decode cX7_ship 167 = .ok (.iconst (-1), 1) := by decide +kernel
theorem dX7_ship_168 : decode cX7_ship 168 = .ok (.iastore, 1) := by decide +kernel
theorem dX7_ship_169 : decode cX7_ship 169 = .ok (.aload_n 0, 1) := by decide +kernel
theorem dX7_ship_170 : decode cX7_ship 170 = .ok (.getfield 38, 3) := by decide +kernel
theorem dX7_ship_173 : decode cX7_ship 173 = .ok (.aload_n 0, 1) := by decide +kernel
theorem dX7_ship_174 : decode cX7_ship 174 = .ok (.getfield 132, 3) := by decide +kernel
theorem dX7_ship_177 : decode cX7_ship 177 = .ok (.iconst (-1), 1) := by decide +kernel
theorem dX7_ship_178 : decode cX7_ship 178 = .ok (.iastore, 1) := by decide +kernel
theorem dX7_ship_179 : decode cX7_ship 179 = .ok (.aload_n 0, 1) := by decide +kernel
theorem dX7_ship_180 : decode cX7_ship 180 = .ok (.getfield 41, 3) := by decide +kernel
theorem dX7_ship_183 : decode cX7_ship 183 = .ok (.aload_n 0, 1) := by decide +kernel
theorem dX7_ship_184 : decode cX7_ship 184 = .ok (.getfield 132, 3) := by decide +kernel
theorem dX7_ship_187 : decode cX7_ship 187 = .ok (.iconst (-1), 1) := by decide +kernel
theorem dX7_ship_188 : decode cX7_ship 188 = .ok (.iastore, 1) := by decide +kernel
theorem dX7_ship_189 : decode cX7_ship 189 = .ok (.aload_n 0, 1) := by decide +kernel
theorem dX7_ship_190 : decode cX7_ship 190 = .ok (.getfield 50, 3) := by decide +kernel
theorem dX7_ship_193 : decode cX7_ship 193 = .ok (.aload_n 0, 1) := by decide +kernel
theorem dX7_ship_194 : decode cX7_ship 194 = .ok (.getfield 132, 3) := by decide +kernel
theorem dX7_ship_197 : decode cX7_ship 197 = .ok (.iconst (-1), 1) := by decide +kernel
theorem dX7_ship_198 : decode cX7_ship 198 = .ok (.iastore, 1) := by decide +kernel
theorem dX7_ship_199 : decode cX7_ship 199 = .ok (.aload_n 0, 1) := by decide +kernel
theorem dX7_ship_200 : decode cX7_ship 200 = .ok (.dup, 1) := by decide +kernel
theorem dX7_ship_201 : decode cX7_ship 201 = .ok (.getfield 132, 3) := by decide +kernel
theorem dX7_ship_204 : decode cX7_ship 204 = .ok (.iconst 1, 1) := by decide +kernel
theorem dX7_ship_205 : decode cX7_ship 205 = .ok (.iadd, 1) := by decide +kernel
theorem dX7_ship_206 : decode cX7_ship 206 = .ok (.putfield 132, 3) := by decide +kernel
theorem dX7_ship_209 : decode cX7_ship 209 = .ok (.aload_n 0, 1) := by decide +kernel
theorem dX7_ship_210 : decode cX7_ship 210 = .ok (.getfield 132, 3) := by decide +kernel
theorem dX7_ship_213 : decode cX7_ship 213 = .ok (.iconst 1, 1) := by decide +kernel
theorem dX7_ship_214 : decode cX7_ship 214 = .ok (.isub, 1) := by decide +kernel
theorem dX7_ship_215 : decode cX7_ship 215 = .ok (.ireturn, 1) := by decide +kernel
theorem dX7_changes_0 : decode cX7_changes 0 = .ok (.aload_n 0, 1) := by decide +kernel
theorem dX7_changes_1 : decode cX7_changes 1 = .ok (.aload_n 0, 1) := by decide +kernel
theorem dX7_changes_2 : decode cX7_changes 2 = .ok (.iload_n 1, 1) := by decide +kernel
theorem dX7_changes_3 : decode cX7_changes 3 = .ok (.invokevirtual 153, 3) := by decide +kernel
theorem dX7_changes_6 : decode cX7_changes 6 = .ok (.ifCond .eq 21, 3) := by decide +kernel
theorem dX7_changes_9 : decode cX7_changes 9 = .ok (.iload_n 2, 1) := by decide +kernel
theorem dX7_changes_10 : decode cX7_changes 10 = .ok (.invokestatic 146, 3) := by decide +kernel
theorem dX7_changes_13 : decode cX7_changes 13 = .ok (.ifCond .eq 14, 3) := by decide +kernel
theorem dX7_changes_16 : decode cX7_changes 16 = .ok (.iload_n 3, 1) := by decide +kernel
theorem dX7_changes_17 : decode cX7_changes 17 = .ok (.invokestatic 150, 3) := by decide +kernel
theorem dX7_changes_20 : decode cX7_changes 20 = .ok (.ifCond .eq 7, 3) := by decide +kernel
theorem dX7_changes_23 : decode cX7_changes 23 = .ok (.iconst 0, 1) := by decide +kernel
theorem dX7_changes_24 : decode cX7_changes 24 = .ok (.goto 4, 3) := by decide +kernel
theorem dX7_changes_27 : decode cX7_changes 27 = .ok (.iconst 1, 1) := by decide +kernel
theorem dX7_changes_28 : decode cX7_changes 28 = .ok (.putfield 128, 3) := by decide +kernel
theorem dX7_changes_31 : decode cX7_changes 31 = .ok (.aload_n 0, 1) := by decide +kernel
theorem dX7_changes_32 : decode cX7_changes 32 = .ok (.getfield 128, 3) := by decide +kernel
theorem dX7_changes_35 : decode cX7_changes 35 = .ok (.ifCond .le 5, 3) := by decide +kernel
theorem dX7_changes_38 : decode cX7_changes 38 = .ok (.iconst 0, 1) := by decide +kernel
theorem dX7_changes_39 : decode cX7_changes 39 = .ok (.ireturn, 1) := by decide +kernel
theorem dX7_changes_40 : decode cX7_changes 40 = .ok (.aload_n 0, 1) := by decide +kernel
theorem dX7_changes_41 : decode cX7_changes 41 = .ok (.getfield 23, 3) := by decide +kernel
theorem dX7_changes_44 : decode cX7_changes 44 = .ok (.iload_n 1, 1) := by decide +kernel
theorem dX7_changes_45 : decode cX7_changes 45 = .ok (.iload_n 2, 1) := by decide +kernel
theorem dX7_changes_46 : decode cX7_changes 46 = .ok (.iastore, 1) := by decide +kernel
theorem dX7_changes_47 : decode cX7_changes 47 = .ok (.aload_n 0, 1) := by decide +kernel
theorem dX7_changes_48 : decode cX7_changes 48 = .ok (.getfield 26, 3) := by decide +kernel
theorem dX7_changes_51 : decode cX7_changes 51 = .ok (.iload_n 1, 1) := by decide +kernel
theorem dX7_changes_52 : decode cX7_changes 52 = .ok (.iload_n 3, 1) := by decide +kernel
theorem dX7_changes_53 : decode cX7_changes 53 = .ok (.iastore, 1) := by decide +kernel
theorem dX7_changes_54 : decode cX7_changes 54 = .ok (.aload_n 0, 1) := by decide +kernel
theorem dX7_changes_55 : decode cX7_changes 55 = .ok (.getfield 29, 3) := by decide +kernel
theorem dX7_changes_58 : decode cX7_changes 58 = .ok (.iload_n 1, 1) := by decide +kernel
theorem dX7_changes_59 : decode cX7_changes 59 = .ok (.dup2, 1) := by decide +kernel
theorem dX7_changes_60 : decode cX7_changes 60 = .ok (.iaload, 1) := by decide +kernel
theorem dX7_changes_61 : decode cX7_changes 61 = .ok (.iconst 1, 1) := by decide +kernel
theorem dX7_changes_62 : decode cX7_changes 62 = .ok (.iadd, 1) := by decide +kernel
theorem dX7_changes_63 : decode cX7_changes 63 = .ok (.iastore, 1) := by decide +kernel
theorem dX7_changes_64 : decode cX7_changes 64 = .ok (.aload_n 0, 1) := by decide +kernel
theorem dX7_changes_65 : decode cX7_changes 65 = .ok (.getfield 29, 3) := by decide +kernel
theorem dX7_changes_68 : decode cX7_changes 68 = .ok (.iload_n 1, 1) := by decide +kernel
theorem dX7_changes_69 : decode cX7_changes 69 = .ok (.iaload, 1) := by decide +kernel
theorem dX7_changes_70 : decode cX7_changes 70 = .ok (.ireturn, 1) := by decide +kernel
theorem dX7_suspend_0 : decode cX7_suspend 0 = .ok (.aload_n 0, 1) := by decide +kernel
theorem dX7_suspend_1 : decode cX7_suspend 1 = .ok (.iload_n 1, 1) := by decide +kernel
theorem dX7_suspend_2 : decode cX7_suspend 2 = .ok (.invokestatic 150, 3) := by decide +kernel
theorem dX7_suspend_5 : decode cX7_suspend 5 = .ok (.ifCond .eq 7, 3) := by decide +kernel
theorem dX7_suspend_8 : decode cX7_suspend 8 = .ok (.iconst 0, 1) := by decide +kernel
theorem dX7_suspend_9 : decode cX7_suspend 9 = .ok (.goto 4, 3) := by decide +kernel
theorem dX7_suspend_12 : decode cX7_suspend 12 = .ok (.iconst 1, 1) := by decide +kernel
theorem dX7_suspend_13 : decode cX7_suspend 13 = .ok (.putfield 128, 3) := by decide +kernel
theorem dX7_suspend_16 : decode cX7_suspend 16 = .ok (.aload_n 0, 1) := by decide +kernel
theorem dX7_suspend_17 : decode cX7_suspend 17 = .ok (.getfield 128, 3) := by decide +kernel
theorem dX7_suspend_20 : decode cX7_suspend 20 = .ok (.ifCond .le 5, 3) := by decide +kernel
theorem dX7_suspend_23 : decode cX7_suspend 23 = .ok (.iconst 0, 1) := by decide +kernel
theorem dX7_suspend_24 : decode cX7_suspend 24 = .ok (.ireturn, 1) := by decide +kernel
theorem dX7_suspend_25 : decode cX7_suspend 25 = .ok (.aload_n 0, 1) := by decide +kernel
theorem dX7_suspend_26 : decode cX7_suspend 26 = .ok (.getfield 7, 3) := by decide +kernel
theorem dX7_suspend_29 : decode cX7_suspend 29 = .ok (.iload_n 1, 1) := by decide +kernel
theorem dX7_suspend_30 : decode cX7_suspend 30 = .ok (.baload, 1) := by decide +kernel
theorem dX7_suspend_31 : decode cX7_suspend 31 = .ok (.istore_n 3, 1) := by decide +kernel
theorem dX7_suspend_32 : decode cX7_suspend 32 = .ok (.aload_n 0, 1) := by decide +kernel
theorem dX7_suspend_33 : decode cX7_suspend 33 = .ok (.getfield 7, 3) := by decide +kernel
theorem dX7_suspend_36 : decode cX7_suspend 36 = .ok (.iload_n 1, 1) := by decide +kernel
theorem dX7_suspend_37 : decode cX7_suspend 37 = .ok (.iload_n 2, 1) := by decide +kernel
theorem dX7_suspend_38 : decode cX7_suspend 38 = .ok (.bastore, 1) := by decide +kernel
theorem dX7_suspend_39 : decode cX7_suspend 39 = .ok (.iload_n 3, 1) := by decide +kernel
theorem dX7_suspend_40 : decode cX7_suspend 40 = .ok (.ireturn, 1) := by decide +kernel
theorem dX7_rule_0 : decode cX7_rule 0 = .ok (.iload_n 1, 1) := by decide +kernel
theorem dX7_rule_1 : decode cX7_rule 1 = .ok (.iconst 0, 1) := by decide +kernel
theorem dX7_rule_2 : decode cX7_rule 2 = .ok (.bipush 9, 2) := by decide +kernel
theorem dX7_rule_4 : decode cX7_rule 4 = .ok (.invokestatic 135, 3) := by decide +kernel
theorem dX7_rule_7 : decode cX7_rule 7 = .ok (.ifCond .eq 51, 3) := by decide +kernel
theorem dX7_rule_10 : decode cX7_rule 10 = .ok (.iload_n 2, 1) := by decide +kernel
theorem dX7_rule_11 : decode cX7_rule 11 = .ok (.iconst 0, 1) := by decide +kernel
theorem dX7_rule_12 : decode cX7_rule 12 = .ok (.ldc 145, 2) := by decide +kernel
theorem dX7_rule_14 : decode cX7_rule 14 = .ok (.invokestatic 135, 3) := by decide +kernel
theorem dX7_rule_17 : decode cX7_rule 17 = .ok (.ifCond .eq 41, 3) := by decide +kernel
theorem dX7_rule_20 : decode cX7_rule 20 = .ok (.iload_n 3, 1) := by decide +kernel
theorem dX7_rule_21 : decode cX7_rule 21 = .ok (.iconst 1, 1) := by decide +kernel
theorem dX7_rule_22 : decode cX7_rule 22 = .ok (.bipush 7, 2) := by decide +kernel
theorem dX7_rule_24 : decode cX7_rule 24 = .ok (.invokestatic 135, 3) := by decide +kernel
theorem dX7_rule_27 : decode cX7_rule 27 = .ok (.ifCond .eq 31, 3) := by decide +kernel
theorem dX7_rule_30 : decode cX7_rule 30 = .ok (.iload 4, 2) := by decide +kernel
theorem dX7_rule_32 : decode cX7_rule 32 = .ok (.iconst 0, 1) := by decide +kernel
theorem dX7_rule_33 : decode cX7_rule 33 = .ok (.sipush 9000, 3) := by decide +kernel
theorem dX7_rule_36 : decode cX7_rule 36 = .ok (.invokestatic 135, 3) := by decide +kernel
theorem dX7_rule_39 : decode cX7_rule 39 = .ok (.ifCond .eq 19, 3) := by decide +kernel
theorem dX7_rule_42 : decode cX7_rule 42 = .ok (.iload 5, 2) := by decide +kernel
theorem dX7_rule_44 : decode cX7_rule 44 = .ok (.iconst 0, 1) := by decide +kernel
theorem dX7_rule_45 : decode cX7_rule 45 = .ok (.sipush 3000, 3) := by decide +kernel
theorem dX7_rule_48 : decode cX7_rule 48 = .ok (.invokestatic 135, 3) := by decide +kernel
theorem dX7_rule_51 : decode cX7_rule 51 = .ok (.ifCond .eq 7, 3) := by decide +kernel
theorem dX7_rule_54 : decode cX7_rule 54 = .ok (.iconst 1, 1) := by decide +kernel
theorem dX7_rule_55 : decode cX7_rule 55 = .ok (.goto 4, 3) := by decide +kernel
theorem dX7_rule_58 : decode cX7_rule 58 = .ok (.iconst 0, 1) := by decide +kernel
theorem dX7_rule_59 : decode cX7_rule 59 = .ok (.istore 6, 2) := by decide +kernel
theorem dX7_rule_61 : decode cX7_rule 61 = .ok (.aload_n 0, 1) := by decide +kernel
theorem dX7_rule_62 : decode cX7_rule 62 = .ok (.iload 6, 2) := by decide +kernel
theorem dX7_rule_64 : decode cX7_rule 64 = .ok (.ifCond .ne 7, 3) := by decide +kernel
theorem dX7_rule_67 : decode cX7_rule 67 = .ok (.iconst 1, 1) := by decide +kernel
theorem dX7_rule_68 : decode cX7_rule 68 = .ok (.goto 17, 3) := by decide +kernel
theorem dX7_rule_71 : decode cX7_rule 71 = .ok (.aload_n 0, 1) := by decide +kernel
theorem dX7_rule_72 : decode cX7_rule 72 = .ok (.getfield 156, 3) := by decide +kernel
theorem dX7_rule_75 : decode cX7_rule 75 = .ok (.bipush 20, 2) := by decide +kernel
theorem dX7_rule_77 : decode cX7_rule 77 = .ok (.if_icmp .ne 7, 3) := by decide +kernel
theorem dX7_rule_80 : decode cX7_rule 80 = .ok (.iconst 2, 1) := by decide +kernel
theorem dX7_rule_81 : decode cX7_rule 81 = .ok (.goto 4, 3) := by decide +kernel
theorem dX7_rule_84 : decode cX7_rule 84 = .ok (.iconst 0, 1) := by decide +kernel
theorem dX7_rule_85 : decode cX7_rule 85 = .ok (.putfield 128, 3) := by decide +kernel
theorem dX7_rule_88 : decode cX7_rule 88 = .ok (.aload_n 0, 1) := by decide +kernel
theorem dX7_rule_89 : decode cX7_rule 89 = .ok (.getfield 128, 3) := by decide +kernel
theorem dX7_rule_92 : decode cX7_rule 92 = .ok (.ifCond .le 5, 3) := by decide +kernel
theorem dX7_rule_95 : decode cX7_rule 95 = .ok (.iconst 0, 1) := by decide +kernel
theorem dX7_rule_96 : decode cX7_rule 96 = .ok (.ireturn, 1) := by decide +kernel
theorem dX7_rule_97 : decode cX7_rule 97 = .ok (.aload_n 0, 1) := by decide +kernel
theorem dX7_rule_98 : decode cX7_rule 98 = .ok (.getfield 71, 3) := by decide +kernel
theorem dX7_rule_101 : decode cX7_rule 101 = .ok (.aload_n 0, 1) := by decide +kernel
theorem dX7_rule_102 : decode cX7_rule 102 = .ok (.getfield 156, 3) := by decide +kernel
theorem dX7_rule_105 : decode cX7_rule 105 = .ok (.iload_n 1, 1) := by decide +kernel
theorem dX7_rule_106 : decode cX7_rule 106 = .ok (.iastore, 1) := by decide +kernel
theorem dX7_rule_107 : decode cX7_rule 107 = .ok (.aload_n 0, 1) := by decide +kernel
theorem dX7_rule_108 : decode cX7_rule 108 = .ok (.getfield 74, 3) := by decide +kernel
theorem dX7_rule_111 : decode cX7_rule 111 = .ok (.aload_n 0, 1) := by decide +kernel
theorem dX7_rule_112 : decode cX7_rule 112 = .ok (.getfield 156, 3) := by decide +kernel
theorem dX7_rule_115 : decode cX7_rule 115 = .ok (.iload_n 2, 1) := by decide +kernel
theorem dX7_rule_116 : decode cX7_rule 116 = .ok (.iastore, 1) := by decide +kernel
theorem dX7_rule_117 : decode cX7_rule 117 = .ok (.aload_n 0, 1) := by decide +kernel
theorem dX7_rule_118 : decode cX7_rule 118 = .ok (.getfield 77, 3) := by decide +kernel
theorem dX7_rule_121 : decode cX7_rule 121 = .ok (.aload_n 0, 1) := by decide +kernel
theorem dX7_rule_122 : decode cX7_rule 122 = .ok (.getfield 156, 3) := by decide +kernel
theorem dX7_rule_125 : decode cX7_rule 125 = .ok (.iload_n 3, 1) := by decide +kernel
theorem dX7_rule_126 : decode cX7_rule 126 = .ok (.iastore, 1) := by decide +kernel
theorem dX7_rule_127 : decode cX7_rule 127 = .ok (.aload_n 0, 1) := by decide +kernel
theorem dX7_rule_128 : decode cX7_rule 128 = .ok (.getfield 80, 3) := by decide +kernel
theorem dX7_rule_131 : decode cX7_rule 131 = .ok (.aload_n 0, 1) := by decide +kernel
theorem dX7_rule_132 : decode cX7_rule 132 = .ok (.getfield 156, 3) := by decide +kernel
theorem dX7_rule_135 : decode cX7_rule 135 = .ok (.iload 4, 2) := by decide +kernel
theorem dX7_rule_137 : decode cX7_rule 137 = .ok (.iastore, 1) := by decide +kernel
theorem dX7_rule_138 : decode cX7_rule 138 = .ok (.aload_n 0, 1) := by decide +kernel
theorem dX7_rule_139 : decode cX7_rule 139 = .ok (.getfield 83, 3) := by decide +kernel
theorem dX7_rule_142 : decode cX7_rule 142 = .ok (.aload_n 0, 1) := by decide +kernel
theorem dX7_rule_143 : decode cX7_rule 143 = .ok (.getfield 156, 3) := by decide +kernel
theorem dX7_rule_146 : decode cX7_rule 146 = .ok (.iload 5, 2) := by decide +kernel
theorem dX7_rule_148 : decode cX7_rule 148 = .ok (.iastore, 1) := by decide +kernel
theorem dX7_rule_149 : decode cX7_rule 149 = .ok (.aload_n 0, 1) := by decide +kernel
theorem dX7_rule_150 : decode cX7_rule 150 = .ok (.dup, 1) := by decide +kernel
theorem dX7_rule_151 : decode cX7_rule 151 = .ok (.getfield 156, 3) := by decide +kernel
theorem dX7_rule_154 : decode cX7_rule 154 = .ok (.iconst 1, 1) := by decide +kernel
theorem dX7_rule_155 : decode cX7_rule 155 = .ok (.iadd, 1) := by decide +kernel
theorem dX7_rule_156 : decode cX7_rule 156 = .ok (.putfield 156, 3) := by decide +kernel
theorem dX7_rule_159 : decode cX7_rule 159 = .ok (.aload_n 0, 1) := by decide +kernel
theorem dX7_rule_160 : decode cX7_rule 160 = .ok (.getfield 156, 3) := by decide +kernel
theorem dX7_rule_163 : decode cX7_rule 163 = .ok (.iconst 1, 1) := by decide +kernel
theorem dX7_rule_164 : decode cX7_rule 164 = .ok (.isub, 1) := by decide +kernel
theorem dX7_rule_165 : decode cX7_rule 165 = .ok (.ireturn, 1) := by decide +kernel
theorem dX7_isOld_0 : decode cX7_isOld 0 = .ok (.aload_n 0, 1) := by decide +kernel
theorem dX7_isOld_1 : decode cX7_isOld 1 = .ok (.getfield 142, 3) := by decide +kernel
theorem dX7_isOld_4 : decode cX7_isOld 4 = .ok (.aload_n 0, 1) := by decide +kernel
theorem dX7_isOld_5 : decode cX7_isOld 5 = .ok (.getfield 13, 3) := by decide +kernel
theorem dX7_isOld_8 : decode cX7_isOld 8 = .ok (.iload_n 1, 1) := by decide +kernel
theorem dX7_isOld_9 : decode cX7_isOld 9 = .ok (.iaload, 1) := by decide +kernel
theorem dX7_isOld_10 : decode cX7_isOld 10 = .ok (.isub, 1) := by decide +kernel
theorem dX7_isOld_11 : decode cX7_isOld 11 = .ok (.sipush 4380, 3) := by decide +kernel
theorem dX7_isOld_14 : decode cX7_isOld 14 = .ok (.if_icmp .le 7, 3) := by decide +kernel
theorem dX7_isOld_17 : decode cX7_isOld 17 = .ok (.iconst 1, 1) := by decide +kernel
theorem dX7_isOld_18 : decode cX7_isOld 18 = .ok (.goto 4, 3) := by decide +kernel
theorem dX7_isOld_21 : decode cX7_isOld 21 = .ok (.iconst 0, 1) := by decide +kernel
theorem dX7_isOld_22 : decode cX7_isOld 22 = .ok (.ireturn, 1) := by decide +kernel
theorem dX7_isInForce_0 : decode cX7_isInForce 0 = .ok (.aload_n 0, 1) := by decide +kernel
theorem dX7_isInForce_1 : decode cX7_isInForce 1 = .ok (.getfield 80, 3) := by decide +kernel
theorem dX7_isInForce_4 : decode cX7_isInForce 4 = .ok (.iload_n 1, 1) := by decide +kernel
theorem dX7_isInForce_5 : decode cX7_isInForce 5 = .ok (.iaload, 1) := by decide +kernel
theorem dX7_isInForce_6 : decode cX7_isInForce 6 = .ok (.aload_n 0, 1) := by decide +kernel
theorem dX7_isInForce_7 : decode cX7_isInForce 7 = .ok (.getfield 13, 3) := by decide +kernel
theorem dX7_isInForce_10 : decode cX7_isInForce 10 = .ok (.iload_n 2, 1) := by decide +kernel
theorem dX7_isInForce_11 : decode cX7_isInForce 11 = .ok (.iaload, 1) := by decide +kernel
theorem dX7_isInForce_12 : decode cX7_isInForce 12 = .ok (.aload_n 0, 1) := by decide +kernel
theorem dX7_isInForce_13 : decode cX7_isInForce 13 = .ok (.getfield 80, 3) := by decide +kernel
theorem dX7_isInForce_16 : decode cX7_isInForce 16 = .ok (.iload_n 1, 1) := by decide +kernel
theorem dX7_isInForce_17 : decode cX7_isInForce 17 = .ok (.iaload, 1) := by decide +kernel
theorem dX7_isInForce_18 : decode cX7_isInForce 18 = .ok (.if_icmp .ge 12, 3) := by decide +kernel
theorem dX7_isInForce_21 : decode cX7_isInForce 21 = .ok (.aload_n 0, 1) := by decide +kernel
theorem dX7_isInForce_22 : decode cX7_isInForce 22 = .ok (.getfield 83, 3) := by decide +kernel
theorem dX7_isInForce_25 : decode cX7_isInForce 25 = .ok (.iload_n 1, 1) := by decide +kernel
theorem dX7_isInForce_26 : decode cX7_isInForce 26 = .ok (.iaload, 1) := by decide +kernel
theorem dX7_isInForce_27 : decode cX7_isInForce 27 = .ok (.goto 4, 3) := by decide +kernel
theorem dX7_isInForce_30 : decode cX7_isInForce 30 = .ok (.iconst 0, 1) := by decide +kernel
theorem dX7_isInForce_31 : decode cX7_isInForce 31 = .ok (.iadd, 1) := by decide +kernel
theorem dX7_isInForce_32 : decode cX7_isInForce 32 = .ok (.istore_n 3, 1) := by decide +kernel
theorem dX7_isInForce_33 : decode cX7_isInForce 33 = .ok (.aload_n 0, 1) := by decide +kernel
theorem dX7_isInForce_34 : decode cX7_isInForce 34 = .ok (.getfield 17, 3) := by decide +kernel
theorem dX7_isInForce_37 : decode cX7_isInForce 37 = .ok (.iload_n 2, 1) := by decide +kernel
theorem dX7_isInForce_38 : decode cX7_isInForce 38 = .ok (.iaload, 1) := by decide +kernel
theorem dX7_isInForce_39 : decode cX7_isInForce 39 = .ok (.aload_n 0, 1) := by decide +kernel
theorem dX7_isInForce_40 : decode cX7_isInForce 40 = .ok (.getfield 74, 3) := by decide +kernel
theorem dX7_isInForce_43 : decode cX7_isInForce 43 = .ok (.iload_n 1, 1) := by decide +kernel
theorem dX7_isInForce_44 : decode cX7_isInForce 44 = .ok (.iaload, 1) := by decide +kernel
theorem dX7_isInForce_45 : decode cX7_isInForce 45 = .ok (.if_icmp .lt 33, 3) := by decide +kernel
theorem dX7_isInForce_48 : decode cX7_isInForce 48 = .ok (.aload_n 0, 1) := by decide +kernel
theorem dX7_isInForce_49 : decode cX7_isInForce 49 = .ok (.getfield 77, 3) := by decide +kernel
theorem dX7_isInForce_52 : decode cX7_isInForce 52 = .ok (.iload_n 1, 1) := by decide +kernel
theorem dX7_isInForce_53 : decode cX7_isInForce 53 = .ok (.iaload, 1) := by decide +kernel
theorem dX7_isInForce_54 : decode cX7_isInForce 54 = .ok (.aload_n 0, 1) := by decide +kernel
theorem dX7_isInForce_55 : decode cX7_isInForce 55 = .ok (.getfield 20, 3) := by decide +kernel
theorem dX7_isInForce_58 : decode cX7_isInForce 58 = .ok (.iload_n 2, 1) := by decide +kernel
theorem dX7_isInForce_59 : decode cX7_isInForce 59 = .ok (.iaload, 1) := by decide +kernel
theorem dX7_isInForce_60 : decode cX7_isInForce 60 = .ok (.invokestatic 159, 3) := by decide +kernel
theorem dX7_isInForce_63 : decode cX7_isInForce 63 = .ok (.ifCond .eq 15, 3) := by decide +kernel
theorem dX7_isInForce_66 : decode cX7_isInForce 66 = .ok (.aload_n 0, 1) := by decide +kernel
theorem dX7_isInForce_67 : decode cX7_isInForce 67 = .ok (.getfield 142, 3) := by decide +kernel
theorem dX7_isInForce_70 : decode cX7_isInForce 70 = .ok (.iload_n 3, 1) := by decide +kernel
theorem dX7_isInForce_71 : decode cX7_isInForce 71 = .ok (.if_icmp .lt 7, 3) := by decide +kernel
theorem dX7_isInForce_74 : decode cX7_isInForce 74 = .ok (.iconst 1, 1) := by decide +kernel
theorem dX7_isInForce_75 : decode cX7_isInForce 75 = .ok (.goto 4, 3) := by decide +kernel
theorem dX7_isInForce_78 : decode cX7_isInForce 78 = .ok (.iconst 0, 1) := by decide +kernel
theorem dX7_isInForce_79 : decode cX7_isInForce 79 = .ok (.ireturn, 1) := by decide +kernel
theorem dX7_isGroundFor_0 : decode cX7_isGroundFor 0 = .ok (.iconst 0, 1) := by decide +kernel
theorem dX7_isGroundFor_1 : decode cX7_isGroundFor 1 = .ok (.istore_n 3, 1) := by decide +kernel
theorem dX7_isGroundFor_2 : decode cX7_isGroundFor 2 = .ok (.iconst 0, 1) := by decide +kernel
theorem dX7_isGroundFor_3 : decode cX7_isGroundFor 3 = .ok (.istore 4, 2) := by decide +kernel
theorem dX7_isGroundFor_5 : decode cX7_isGroundFor 5 = .ok (.iload 4, 2) := by decide +kernel
theorem dX7_isGroundFor_7 : decode cX7_isGroundFor 7 = .ok (.aload_n 0, 1) := by decide +kernel
theorem dX7_isGroundFor_8 : decode cX7_isGroundFor 8 = .ok (.getfield 156, 3) := by decide +kernel
theorem dX7_isGroundFor_11 : decode cX7_isGroundFor 11 = .ok (.if_icmp .ge 40, 3) := by decide +kernel
theorem dX7_isGroundFor_14 : decode cX7_isGroundFor 14 = .ok (.iload_n 3, 1) := by decide +kernel
theorem dX7_isGroundFor_15 : decode cX7_isGroundFor 15 = .ok (.ifCond .ne 24, 3) := by decide +kernel
theorem dX7_isGroundFor_18 : decode cX7_isGroundFor 18 = .ok (.aload_n 0, 1) := by decide +kernel
theorem dX7_isGroundFor_19 : decode cX7_isGroundFor 19 = .ok (.getfield 71, 3) := by decide +kernel
theorem dX7_isGroundFor_22 : decode cX7_isGroundFor 22 = .ok (.iload 4, 2) := by decide +kernel
theorem dX7_isGroundFor_24 : decode cX7_isGroundFor 24 = .ok (.iaload, 1) := by decide +kernel
theorem dX7_isGroundFor_25 : decode cX7_isGroundFor 25 = .ok (.iload_n 2, 1) := by decide +kernel
theorem dX7_isGroundFor_26 : decode cX7_isGroundFor 26 = .ok (.if_icmp .ne 17, 3) := by decide +kernel
theorem dX7_isGroundFor_29 : decode cX7_isGroundFor 29 = .ok (.aload_n 0, 1) := by decide +kernel
theorem dX7_isGroundFor_30 : decode cX7_isGroundFor 30 = .ok (.iload 4, 2) := by decide +kernel
theorem dX7_isGroundFor_32 : decode cX7_isGroundFor 32 = .ok (.iload_n 1, 1) := by decide +kernel
theorem dX7_isGroundFor_33 : decode cX7_isGroundFor 33 = .ok (.invokevirtual 163, 3) := by decide +kernel
theorem dX7_isGroundFor_36 : decode cX7_isGroundFor 36 = .ok (.ifCond .eq 7, 3) := by decide +kernel
theorem dX7_isGroundFor_39 : decode cX7_isGroundFor 39 = .ok (.iconst 1, 1) := by decide +kernel
theorem dX7_isGroundFor_40 : decode cX7_isGroundFor 40 = .ok (.goto 4, 3) := by decide +kernel
theorem dX7_isGroundFor_43 : decode cX7_isGroundFor 43 = .ok (.iconst 0, 1) := by decide +kernel
theorem dX7_isGroundFor_44 : decode cX7_isGroundFor 44 = .ok (.istore_n 3, 1) := by decide +kernel
theorem dX7_isGroundFor_45 : decode cX7_isGroundFor 45 = .ok (.iinc 4 1, 3) := by decide +kernel
theorem dX7_isGroundFor_48 : decode cX7_isGroundFor 48 = .ok (.goto (-43), 3) := by decide +kernel
theorem dX7_isGroundFor_51 : decode cX7_isGroundFor 51 = .ok (.iload_n 3, 1) := by decide +kernel
theorem dX7_isGroundFor_52 : decode cX7_isGroundFor 52 = .ok (.ireturn, 1) := by decide +kernel
theorem dX7_at_0 : decode cX7_at 0 = .ok (.iconst 5, 1) := by decide +kernel
theorem dX7_at_1 : decode cX7_at 1 = .ok (.iload_n 0, 1) := by decide +kernel
theorem dX7_at_2 : decode cX7_at 2 = .ok (.imul, 1) := by decide +kernel
theorem dX7_at_3 : decode cX7_at 3 = .ok (.iload_n 1, 1) := by decide +kernel
theorem dX7_at_4 : decode cX7_at 4 = .ok (.iadd, 1) := by decide +kernel
theorem dX7_at_5 : decode cX7_at 5 = .ok (.ireturn, 1) := by decide +kernel
theorem dX7_isOver_0 : decode cX7_isOver 0 = .ok (.aload_n 0, 1) := by decide +kernel
theorem dX7_isOver_1 : decode cX7_isOver 1 = .ok (.getfield 142, 3) := by decide +kernel
theorem dX7_isOver_4 : decode cX7_isOver 4 = .ok (.aload_n 0, 1) := by decide +kernel
theorem dX7_isOver_5 : decode cX7_isOver 5 = .ok (.getfield 59, 3) := by decide +kernel
theorem dX7_isOver_8 : decode cX7_isOver 8 = .ok (.iload_n 1, 1) := by decide +kernel
theorem dX7_isOver_9 : decode cX7_isOver 9 = .ok (.iaload, 1) := by decide +kernel
theorem dX7_isOver_10 : decode cX7_isOver 10 = .ok (.aload_n 0, 1) := by decide +kernel
theorem dX7_isOver_11 : decode cX7_isOver 11 = .ok (.getfield 62, 3) := by decide +kernel
theorem dX7_isOver_14 : decode cX7_isOver 14 = .ok (.iload_n 1, 1) := by decide +kernel
theorem dX7_isOver_15 : decode cX7_isOver 15 = .ok (.iaload, 1) := by decide +kernel
theorem dX7_isOver_16 : decode cX7_isOver 16 = .ok (.iadd, 1) := by decide +kernel
theorem dX7_isOver_17 : decode cX7_isOver 17 = .ok (.if_icmp .le 7, 3) := by decide +kernel
theorem dX7_isOver_20 : decode cX7_isOver 20 = .ok (.iconst 1, 1) := by decide +kernel
theorem dX7_isOver_21 : decode cX7_isOver 21 = .ok (.goto 4, 3) := by decide +kernel
theorem dX7_isOver_24 : decode cX7_isOver 24 = .ok (.iconst 0, 1) := by decide +kernel
theorem dX7_isOver_25 : decode cX7_isOver 25 = .ok (.istore_n 2, 1) := by decide +kernel
theorem dX7_isOver_26 : decode cX7_isOver 26 = .ok (.iconst 1, 1) := by decide +kernel
theorem dX7_isOver_27 : decode cX7_isOver 27 = .ok (.istore_n 3, 1) := by decide +kernel
theorem dX7_isOver_28 : decode cX7_isOver 28 = .ok (.sipush 365, 3) := by decide +kernel
theorem dX7_isOver_31 : decode cX7_isOver 31 = .ok (.iload_n 3, 1) := by decide +kernel
theorem dX7_isOver_32 : decode cX7_isOver 32 = .ok (.imul, 1) := by decide +kernel
theorem dX7_isOver_33 : decode cX7_isOver 33 = .ok (.aload_n 0, 1) := by decide +kernel
theorem dX7_isOver_34 : decode cX7_isOver 34 = .ok (.getfield 62, 3) := by decide +kernel
theorem dX7_isOver_37 : decode cX7_isOver 37 = .ok (.iload_n 1, 1) := by decide +kernel
theorem dX7_isOver_38 : decode cX7_isOver 38 = .ok (.iaload, 1) := by decide +kernel
theorem dX7_isOver_39 : decode cX7_isOver 39 = .ok (.if_icmp .ge 54, 3) := by decide +kernel
theorem dX7_isOver_42 : decode cX7_isOver 42 = .ok (.iload_n 2, 1) := by decide +kernel
theorem dX7_isOver_43 : decode cX7_isOver 43 = .ok (.ifCond .ne 38, 3) := by decide +kernel
theorem dX7_isOver_46 : decode cX7_isOver 46 = .ok (.aload_n 0, 1) := by decide +kernel
theorem dX7_isOver_47 : decode cX7_isOver 47 = .ok (.getfield 68, 3) := by decide +kernel
theorem dX7_isOver_50 : decode cX7_isOver 50 = .ok (.iload_n 1, 1) := by decide +kernel
theorem dX7_isOver_51 : decode cX7_isOver 51 = .ok (.iaload, 1) := by decide +kernel
theorem dX7_isOver_52 : decode cX7_isOver 52 = .ok (.iload_n 3, 1) := by decide +kernel
theorem dX7_isOver_53 : decode cX7_isOver 53 = .ok (.invokestatic 159, 3) := by decide +kernel
theorem dX7_isOver_56 : decode cX7_isOver 56 = .ok (.ifCond .ne 29, 3) := by decide +kernel
theorem dX7_isOver_59 : decode cX7_isOver 59 = .ok (.aload_n 0, 1) := by decide +kernel
theorem dX7_isOver_60 : decode cX7_isOver 60 = .ok (.getfield 142, 3) := by decide +kernel
theorem dX7_isOver_63 : decode cX7_isOver 63 = .ok (.aload_n 0, 1) := by decide +kernel
theorem dX7_isOver_64 : decode cX7_isOver 64 = .ok (.getfield 59, 3) := by decide +kernel
theorem dX7_isOver_67 : decode cX7_isOver 67 = .ok (.iload_n 1, 1) := by decide +kernel
theorem dX7_isOver_68 : decode cX7_isOver 68 = .ok (.iaload, 1) := by decide +kernel
theorem dX7_isOver_69 : decode cX7_isOver 69 = .ok (.sipush 365, 3) := by decide +kernel
theorem dX7_isOver_72 : decode cX7_isOver 72 = .ok (.iload_n 3, 1) := by decide +kernel
theorem dX7_isOver_73 : decode cX7_isOver 73 = .ok (.imul, 1) := by decide +kernel
theorem dX7_isOver_74 : decode cX7_isOver 74 = .ok (.iadd, 1) := by decide +kernel
theorem dX7_isOver_75 : decode cX7_isOver 75 = .ok (.bipush 90, 2) := by decide +kernel
theorem dX7_isOver_77 : decode cX7_isOver 77 = .ok (.iadd, 1) := by decide +kernel
theorem dX7_isOver_78 : decode cX7_isOver 78 = .ok (.if_icmp .le 7, 3) := by decide +kernel
theorem dX7_isOver_81 : decode cX7_isOver 81 = .ok (.iconst 1, 1) := by decide +kernel
theorem dX7_isOver_82 : decode cX7_isOver 82 = .ok (.goto 4, 3) := by decide +kernel
theorem dX7_isOver_85 : decode cX7_isOver 85 = .ok (.iconst 0, 1) := by decide +kernel
theorem dX7_isOver_86 : decode cX7_isOver 86 = .ok (.istore_n 2, 1) := by decide +kernel
theorem dX7_isOver_87 : decode cX7_isOver 87 = .ok (.iinc 3 1, 3) := by decide +kernel
theorem dX7_isOver_90 : decode cX7_isOver 90 = .ok (.goto (-62), 3) := by decide +kernel
theorem dX7_isOver_93 : decode cX7_isOver 93 = .ok (.iload_n 2, 1) := by decide +kernel
theorem dX7_isOver_94 : decode cX7_isOver 94 = .ok (.ireturn, 1) := by decide +kernel
theorem dX7_lapsedAlone_0 : decode cX7_lapsedAlone 0 = .ok (.aload_n 0, 1) := by decide +kernel
theorem dX7_lapsedAlone_1 : decode cX7_lapsedAlone 1 = .ok (.getfield 56, 3) := by decide +kernel
theorem dX7_lapsedAlone_4 : decode cX7_lapsedAlone 4 = .ok (.iload_n 1, 1) := by decide +kernel
theorem dX7_lapsedAlone_5 : decode cX7_lapsedAlone 5 = .ok (.baload, 1) := by decide +kernel
theorem dX7_lapsedAlone_6 : decode cX7_lapsedAlone 6 = .ok (.ifCond .eq 25, 3) := by decide +kernel
theorem dX7_lapsedAlone_9 : decode cX7_lapsedAlone 9 = .ok (.aload_n 0, 1) := by decide +kernel
theorem dX7_lapsedAlone_10 : decode cX7_lapsedAlone 10 = .ok (.iload_n 1, 1) := by decide +kernel
theorem dX7_lapsedAlone_11 : decode cX7_lapsedAlone 11 = .ok (.invokevirtual 166, 3) := by decide +kernel
theorem dX7_lapsedAlone_14 : decode cX7_lapsedAlone 14 = .ok (.ifCond .ne 17, 3) := by decide +kernel
theorem dX7_lapsedAlone_17 : decode cX7_lapsedAlone 17 = .ok (.aload_n 0, 1) := by decide +kernel
theorem dX7_lapsedAlone_18 : decode cX7_lapsedAlone 18 = .ok (.getfield 7, 3) := by decide +kernel
theorem dX7_lapsedAlone_21 : decode cX7_lapsedAlone 21 = .ok (.aload_n 0, 1) := by decide +kernel
theorem dX7_lapsedAlone_22 : decode cX7_lapsedAlone 22 = .ok (.getfield 65, 3) := by decide +kernel
theorem dX7_lapsedAlone_25 : decode cX7_lapsedAlone 25 = .ok (.iload_n 1, 1) := by decide +kernel
theorem dX7_lapsedAlone_26 : decode cX7_lapsedAlone 26 = .ok (.iaload, 1) := by decide +kernel
theorem dX7_lapsedAlone_27 : decode cX7_lapsedAlone 27 = .ok (.baload, 1) := by decide +kernel
theorem dX7_lapsedAlone_28 : decode cX7_lapsedAlone 28 = .ok (.ifCond .eq 7, 3) := by decide +kernel
theorem dX7_lapsedAlone_31 : decode cX7_lapsedAlone 31 = .ok (.iconst 1, 1) := by decide +kernel
theorem dX7_lapsedAlone_32 : decode cX7_lapsedAlone 32 = .ok (.goto 4, 3) := by decide +kernel
theorem dX7_lapsedAlone_35 : decode cX7_lapsedAlone 35 = .ok (.iconst 0, 1) := by decide +kernel
theorem dX7_lapsedAlone_36 : decode cX7_lapsedAlone 36 = .ok (.ireturn, 1) := by decide +kernel
theorem dX7_isLapsed_0 : decode cX7_isLapsed 0 = .ok (.aload_n 0, 1) := by decide +kernel
theorem dX7_isLapsed_1 : decode cX7_isLapsed 1 = .ok (.iload_n 1, 1) := by decide +kernel
theorem dX7_isLapsed_2 : decode cX7_isLapsed 2 = .ok (.iload_n 2, 1) := by decide +kernel
theorem dX7_isLapsed_3 : decode cX7_isLapsed 3 = .ok (.invokestatic 169, 3) := by decide +kernel
theorem dX7_isLapsed_6 : decode cX7_isLapsed 6 = .ok (.invokevirtual 173, 3) := by decide +kernel
theorem dX7_isLapsed_9 : decode cX7_isLapsed 9 = .ok (.istore_n 3, 1) := by decide +kernel
theorem dX7_isLapsed_10 : decode cX7_isLapsed 10 = .ok (.iload_n 2, 1) := by decide +kernel
theorem dX7_isLapsed_11 : decode cX7_isLapsed 11 = .ok (.iconst 2, 1) := by decide +kernel
theorem dX7_isLapsed_12 : decode cX7_isLapsed 12 = .ok (.if_icmp .ne 25, 3) := by decide +kernel
theorem dX7_isLapsed_15 : decode cX7_isLapsed 15 = .ok (.iload_n 3, 1) := by decide +kernel
theorem dX7_isLapsed_16 : decode cX7_isLapsed 16 = .ok (.ifCond .ne 15, 3) := by decide +kernel
theorem dX7_isLapsed_19 : decode cX7_isLapsed 19 = .ok (.aload_n 0, 1) := by decide +kernel
theorem dX7_isLapsed_20 : decode cX7_isLapsed 20 = .ok (.iload_n 1, 1) := by decide +kernel
theorem dX7_isLapsed_21 : decode cX7_isLapsed 21 = .ok (.iconst 1, 1) := by decide +kernel
theorem dX7_isLapsed_22 : decode cX7_isLapsed 22 = .ok (.invokestatic 169, 3) := by decide +kernel
theorem dX7_isLapsed_25 : decode cX7_isLapsed 25 = .ok (.invokevirtual 173, 3) := by decide +kernel
theorem dX7_isLapsed_28 : decode cX7_isLapsed 28 = .ok (.ifCond .eq 7, 3) := by decide +kernel
theorem dX7_isLapsed_31 : decode cX7_isLapsed 31 = .ok (.iconst 1, 1) := by decide +kernel
theorem dX7_isLapsed_32 : decode cX7_isLapsed 32 = .ok (.goto 4, 3) := by decide +kernel
theorem dX7_isLapsed_35 : decode cX7_isLapsed 35 = .ok (.iconst 0, 1) := by decide +kernel
theorem dX7_isLapsed_36 : decode cX7_isLapsed 36 = .ok (.istore_n 3, 1) := by decide +kernel
theorem dX7_isLapsed_37 : decode cX7_isLapsed 37 = .ok (.iload_n 2, 1) := by decide +kernel
theorem dX7_isLapsed_38 : decode cX7_isLapsed 38 = .ok (.iconst 1, 1) := by decide +kernel
theorem dX7_isLapsed_39 : decode cX7_isLapsed 39 = .ok (.if_icmp .eq 13, 3) := by decide +kernel
theorem dX7_isLapsed_42 : decode cX7_isLapsed 42 = .ok (.iload_n 2, 1) := by decide +kernel
theorem dX7_isLapsed_43 : decode cX7_isLapsed 43 = .ok (.iconst 2, 1) := by decide +kernel
theorem dX7_isLapsed_44 : decode cX7_isLapsed 44 = .ok (.if_icmp .eq 8, 3) := by decide +kernel
theorem dX7_isLapsed_47 : decode cX7_isLapsed 47 = .ok (.iload_n 2, 1) := by decide +kernel
theorem dX7_isLapsed_48 : decode cX7_isLapsed 48 = .ok (.iconst 3, 1) := by decide +kernel
theorem dX7_isLapsed_49 : decode cX7_isLapsed 49 = .ok (.if_icmp .ne 25, 3) := by decide +kernel
theorem dX7_isLapsed_52 : decode cX7_isLapsed 52 = .ok (.iload_n 3, 1) := by decide +kernel
theorem dX7_isLapsed_53 : decode cX7_isLapsed 53 = .ok (.ifCond .ne 15, 3) := by decide +kernel
theorem dX7_isLapsed_56 : decode cX7_isLapsed 56 = .ok (.aload_n 0, 1) := by decide +kernel
theorem dX7_isLapsed_57 : decode cX7_isLapsed 57 = .ok (.iload_n 1, 1) := by decide +kernel
theorem dX7_isLapsed_58 : decode cX7_isLapsed 58 = .ok (.iconst 0, 1) := by decide +kernel
theorem dX7_isLapsed_59 : decode cX7_isLapsed 59 = .ok (.invokestatic 169, 3) := by decide +kernel
theorem dX7_isLapsed_62 : decode cX7_isLapsed 62 = .ok (.invokevirtual 173, 3) := by decide +kernel
theorem dX7_isLapsed_65 : decode cX7_isLapsed 65 = .ok (.ifCond .eq 7, 3) := by decide +kernel
theorem dX7_isLapsed_68 : decode cX7_isLapsed 68 = .ok (.iconst 1, 1) := by decide +kernel
theorem dX7_isLapsed_69 : decode cX7_isLapsed 69 = .ok (.goto 4, 3) := by decide +kernel
theorem dX7_isLapsed_72 : decode cX7_isLapsed 72 = .ok (.iconst 0, 1) := by decide +kernel
theorem dX7_isLapsed_73 : decode cX7_isLapsed 73 = .ok (.istore_n 3, 1) := by decide +kernel
theorem dX7_isLapsed_74 : decode cX7_isLapsed 74 = .ok (.iload_n 3, 1) := by decide +kernel
theorem dX7_isLapsed_75 : decode cX7_isLapsed 75 = .ok (.ireturn, 1) := by decide +kernel
theorem dX7_lapsedOf_0 : decode cX7_lapsedOf 0 = .ok (.iconst 0, 1) := by decide +kernel
theorem dX7_lapsedOf_1 : decode cX7_lapsedOf 1 = .ok (.istore_n 2, 1) := by decide +kernel
theorem dX7_lapsedOf_2 : decode cX7_lapsedOf 2 = .ok (.iconst 0, 1) := by decide +kernel
theorem dX7_lapsedOf_3 : decode cX7_lapsedOf 3 = .ok (.istore_n 3, 1) := by decide +kernel
theorem dX7_lapsedOf_4 : decode cX7_lapsedOf 4 = .ok (.iload_n 3, 1) := by decide +kernel
theorem dX7_lapsedOf_5 : decode cX7_lapsedOf 5 = .ok (.iconst 5, 1) := by decide +kernel
theorem dX7_lapsedOf_6 : decode cX7_lapsedOf 6 = .ok (.if_icmp .ge 28, 3) := by decide +kernel
theorem dX7_lapsedOf_9 : decode cX7_lapsedOf 9 = .ok (.iload_n 2, 1) := by decide +kernel
theorem dX7_lapsedOf_10 : decode cX7_lapsedOf 10 = .ok (.aload_n 0, 1) := by decide +kernel
theorem dX7_lapsedOf_11 : decode cX7_lapsedOf 11 = .ok (.iload_n 1, 1) := by decide +kernel
theorem dX7_lapsedOf_12 : decode cX7_lapsedOf 12 = .ok (.iload_n 3, 1) := by decide +kernel
theorem dX7_lapsedOf_13 : decode cX7_lapsedOf 13 = .ok (.invokevirtual 176, 3) := by decide +kernel
theorem dX7_lapsedOf_16 : decode cX7_lapsedOf 16 = .ok (.ifCond .eq 9, 3) := by decide +kernel
theorem dX7_lapsedOf_19 : decode cX7_lapsedOf 19 = .ok (.iconst 1, 1) := by decide +kernel
theorem dX7_lapsedOf_20 : decode cX7_lapsedOf 20 = .ok (.iload_n 3, 1) := by decide +kernel
theorem dX7_lapsedOf_21 : decode cX7_lapsedOf 21 = .ok (.ishl, 1) := by decide +kernel
theorem dX7_lapsedOf_22 : decode cX7_lapsedOf 22 = .ok (.goto 4, 3) := by decide +kernel
theorem dX7_lapsedOf_25 : decode cX7_lapsedOf 25 = .ok (.iconst 0, 1) := by decide +kernel
theorem dX7_lapsedOf_26 : decode cX7_lapsedOf 26 = .ok (.ior, 1) := by decide +kernel
theorem dX7_lapsedOf_27 : decode cX7_lapsedOf 27 = .ok (.istore_n 2, 1) := by decide +kernel
theorem dX7_lapsedOf_28 : decode cX7_lapsedOf 28 = .ok (.iinc 3 1, 3) := by decide +kernel
theorem dX7_lapsedOf_31 : decode cX7_lapsedOf 31 = .ok (.goto (-27), 3) := by decide +kernel
theorem dX7_lapsedOf_34 : decode cX7_lapsedOf 34 = .ok (.iload_n 2, 1) := by decide +kernel
theorem dX7_lapsedOf_35 : decode cX7_lapsedOf 35 = .ok (.ireturn, 1) := by decide +kernel
theorem dX7_hangsOnLapsed_0 : decode cX7_hangsOnLapsed 0 = .ok (.iload_n 2, 1) := by decide +kernel
theorem dX7_hangsOnLapsed_1 : decode cX7_hangsOnLapsed 1 = .ok (.iconst 2, 1) := by decide +kernel
theorem dX7_hangsOnLapsed_2 : decode cX7_hangsOnLapsed 2 = .ok (.if_icmp .ne 12, 3) := by decide +kernel
theorem dX7_hangsOnLapsed_5 : decode cX7_hangsOnLapsed 5 = .ok (.aload_n 0, 1) := by decide +kernel
theorem dX7_hangsOnLapsed_6 : decode cX7_hangsOnLapsed 6 = .ok (.iload_n 1, 1) := by decide +kernel
theorem dX7_hangsOnLapsed_7 : decode cX7_hangsOnLapsed 7 = .ok (.iconst 1, 1) := by decide +kernel
theorem dX7_hangsOnLapsed_8 : decode cX7_hangsOnLapsed 8 = .ok (.invokevirtual 176, 3) := by decide +kernel
theorem dX7_hangsOnLapsed_11 : decode cX7_hangsOnLapsed 11 = .ok (.goto 27, 3) := by decide +kernel
theorem dX7_hangsOnLapsed_14 : decode cX7_hangsOnLapsed 14 = .ok (.iload_n 2, 1) := by decide +kernel
theorem dX7_hangsOnLapsed_15 : decode cX7_hangsOnLapsed 15 = .ok (.iconst 1, 1) := by decide +kernel
theorem dX7_hangsOnLapsed_16 : decode cX7_hangsOnLapsed 16 = .ok (.if_icmp .eq 8, 3) := by decide +kernel
theorem dX7_hangsOnLapsed_19 : decode cX7_hangsOnLapsed 19 = .ok (.iload_n 2, 1) := by decide +kernel
theorem dX7_hangsOnLapsed_20 : decode cX7_hangsOnLapsed 20 = .ok (.iconst 3, 1) := by decide +kernel
theorem dX7_hangsOnLapsed_21 : decode cX7_hangsOnLapsed 21 = .ok (.if_icmp .ne 16, 3) := by decide +kernel
theorem dX7_hangsOnLapsed_24 : decode cX7_hangsOnLapsed 24 = .ok (.aload_n 0, 1) := by decide +kernel
theorem dX7_hangsOnLapsed_25 : decode cX7_hangsOnLapsed 25 = .ok (.iload_n 1, 1) := by decide +kernel
theorem dX7_hangsOnLapsed_26 : decode cX7_hangsOnLapsed 26 = .ok (.iconst 0, 1) := by decide +kernel
theorem dX7_hangsOnLapsed_27 : decode cX7_hangsOnLapsed 27 = .ok (.invokevirtual 176, 3) := by decide +kernel
theorem dX7_hangsOnLapsed_30 : decode cX7_hangsOnLapsed 30 = .ok (.ifCond .eq 7, 3) := by decide +kernel
theorem dX7_hangsOnLapsed_33 : decode cX7_hangsOnLapsed 33 = .ok (.iconst 1, 1) := by decide +kernel
theorem dX7_hangsOnLapsed_34 : decode cX7_hangsOnLapsed 34 = .ok (.goto 4, 3) := by decide +kernel
theorem dX7_hangsOnLapsed_37 : decode cX7_hangsOnLapsed 37 = .ok (.iconst 0, 1) := by decide +kernel
theorem dX7_hangsOnLapsed_38 : decode cX7_hangsOnLapsed 38 = .ok (.ireturn, 1) := by decide +kernel
theorem dX7_issue_0 : decode cX7_issue 0 = .ok (.aload_n 0, 1) := by decide +kernel
theorem dX7_issue_1 : decode cX7_issue 1 = .ok (.aload_n 0, 1) := by decide +kernel
theorem dX7_issue_2 : decode cX7_issue 2 = .ok (.iload_n 1, 1) := by decide +kernel
theorem dX7_issue_3 : decode cX7_issue 3 = .ok (.invokevirtual 153, 3) := by decide +kernel
theorem dX7_issue_6 : decode cX7_issue 6 = .ok (.ifCond .ne 7, 3) := by decide +kernel
theorem dX7_issue_9 : decode cX7_issue 9 = .ok (.iconst 1, 1) := by decide +kernel
theorem dX7_issue_10 : decode cX7_issue 10 = .ok (.goto 28, 3) := by decide +kernel
theorem dX7_issue_13 : decode cX7_issue 13 = .ok (.iload_n 2, 1) := by decide +kernel
theorem dX7_issue_14 : decode cX7_issue 14 = .ok (.iconst 0, 1) := by decide +kernel
theorem dX7_issue_15 : decode cX7_issue 15 = .ok (.iconst 4, 1) := by decide +kernel
theorem dX7_issue_16 : decode cX7_issue 16 = .ok (.invokestatic 135, 3) := by decide +kernel
theorem dX7_issue_19 : decode cX7_issue 19 = .ok (.ifCond .eq 18, 3) := by decide +kernel
theorem dX7_issue_22 : decode cX7_issue 22 = .ok (.iload_n 3, 1) := by decide +kernel
theorem dX7_issue_23 : decode cX7_issue 23 = .ok (.iconst 1, 1) := by decide +kernel
theorem dX7_issue_24 : decode cX7_issue 24 = .ok (.sipush 1825, 3) := by decide +kernel
theorem dX7_issue_27 : decode cX7_issue 27 = .ok (.invokestatic 135, 3) := by decide +kernel
theorem dX7_issue_30 : decode cX7_issue 30 = .ok (.ifCond .eq 7, 3) := by decide +kernel
theorem dX7_issue_33 : decode cX7_issue 33 = .ok (.iconst 0, 1) := by decide +kernel
theorem dX7_issue_34 : decode cX7_issue 34 = .ok (.goto 4, 3) := by decide +kernel
theorem dX7_issue_37 : decode cX7_issue 37 = .ok (.iconst 2, 1) := by decide +kernel
theorem dX7_issue_38 : decode cX7_issue 38 = .ok (.putfield 128, 3) := by decide +kernel
theorem dX7_issue_41 : decode cX7_issue 41 = .ok (.aload_n 0, 1) := by decide +kernel
theorem dX7_issue_42 : decode cX7_issue 42 = .ok (.getfield 128, 3) := by decide +kernel
theorem dX7_issue_45 : decode cX7_issue 45 = .ok (.ifCond .ne 35, 3) := by decide +kernel
theorem dX7_issue_48 : decode cX7_issue 48 = .ok (.aload_n 0, 1) := by decide +kernel
theorem dX7_issue_49 : decode cX7_issue 49 = .ok (.aload_n 0, 1) := by decide +kernel
theorem dX7_issue_50 : decode cX7_issue 50 = .ok (.getfield 7, 3) := by decide +kernel
theorem dX7_issue_53 : decode cX7_issue 53 = .ok (.aload_n 0, 1) := by decide +kernel
theorem dX7_issue_54 : decode cX7_issue 54 = .ok (.getfield 26, 3) := by decide +kernel
theorem dX7_issue_57 : decode cX7_issue 57 = .ok (.iload_n 1, 1) := by decide +kernel
theorem dX7_issue_58 : decode cX7_issue 58 = .ok (.iaload, 1) := by decide +kernel
theorem dX7_issue_59 : decode cX7_issue 59 = .ok (.baload, 1) := by decide +kernel
theorem dX7_issue_60 : decode cX7_issue 60 = .ok (.ifCond .ne 12, 3) := by decide +kernel
theorem dX7_issue_63 : decode cX7_issue 63 = .ok (.aload_n 0, 1) := by decide +kernel
theorem dX7_issue_64 : decode cX7_issue 64 = .ok (.iload_n 1, 1) := by decide +kernel
theorem dX7_issue_65 : decode cX7_issue 65 = .ok (.iload_n 2, 1) := by decide +kernel
theorem dX7_issue_66 : decode cX7_issue 66 = .ok (.invokevirtual 179, 3) := by decide +kernel
theorem dX7_issue_69 : decode cX7_issue 69 = .ok (.ifCond .eq 7, 3) := by decide +kernel
theorem dX7_issue_72 : decode cX7_issue 72 = .ok (.iconst 3, 1) := by decide +kernel
theorem dX7_issue_73 : decode cX7_issue 73 = .ok (.goto 4, 3) := by decide +kernel
theorem dX7_issue_76 : decode cX7_issue 76 = .ok (.iconst 0, 1) := by decide +kernel
theorem dX7_issue_77 : decode cX7_issue 77 = .ok (.putfield 128, 3) := by decide +kernel
theorem dX7_issue_80 : decode cX7_issue 80 = .ok (.aload_n 0, 1) := by decide +kernel
theorem dX7_issue_81 : decode cX7_issue 81 = .ok (.getfield 128, 3) := by decide +kernel
theorem dX7_issue_84 : decode cX7_issue 84 = .ok (.ifCond .le 5, 3) := by decide +kernel
theorem dX7_issue_87 : decode cX7_issue 87 = .ok (.iconst 0, 1) := by decide +kernel
theorem dX7_issue_88 : decode cX7_issue 88 = .ok (.ireturn, 1) := by decide +kernel
theorem dX7_issue_89 : decode cX7_issue 89 = .ok (.iload_n 1, 1) := by decide +kernel
theorem dX7_issue_90 : decode cX7_issue 90 = .ok (.iload_n 2, 1) := by decide +kernel
theorem dX7_issue_91 : decode cX7_issue 91 = .ok (.invokestatic 169, 3) := by decide +kernel
theorem dX7_issue_94 : decode cX7_issue 94 = .ok (.istore 4, 2) := by decide +kernel
theorem dX7_issue_96 : decode cX7_issue 96 = .ok (.aload_n 0, 1) := by decide +kernel
theorem dX7_issue_97 : decode cX7_issue 97 = .ok (.getfield 56, 3) := by decide +kernel
theorem dX7_issue_100 : decode cX7_issue 100 = .ok (.iload 4, 2) := by decide +kernel
theorem dX7_issue_102 : decode cX7_issue 102 = .ok (.iconst 1, 1) := by decide +kernel
theorem dX7_issue_103 : decode cX7_issue 103 = .ok (.bastore, 1) := by decide +kernel
theorem dX7_issue_104 : decode cX7_issue 104 = .ok (.aload_n 0, 1) := by decide +kernel
theorem dX7_issue_105 : decode cX7_issue 105 = .ok (.getfield 59, 3) := by decide +kernel
theorem dX7_issue_108 : decode cX7_issue 108 = .ok (.iload 4, 2) := by decide +kernel
theorem dX7_issue_110 : decode cX7_issue 110 = .ok (.aload_n 0, 1) := by decide +kernel
theorem dX7_issue_111 : decode cX7_issue 111 = .ok (.getfield 142, 3) := by decide +kernel
theorem dX7_issue_114 : decode cX7_issue 114 = .ok (.iastore, 1) := by decide +kernel
theorem dX7_issue_115 : decode cX7_issue 115 = .ok (.aload_n 0, 1) := by decide +kernel
theorem dX7_issue_116 : decode cX7_issue 116 = .ok (.getfield 62, 3) := by decide +kernel
theorem dX7_issue_119 : decode cX7_issue 119 = .ok (.iload 4, 2) := by decide +kernel
theorem dX7_issue_121 : decode cX7_issue 121 = .ok (.iload_n 3, 1) := by decide +kernel
theorem dX7_issue_122 : decode cX7_issue 122 = .ok (.iastore, 1) := by decide +kernel
theorem dX7_issue_123 : decode cX7_issue 123 = .ok (.aload_n 0, 1) := by decide +kernel
theorem dX7_issue_124 : decode cX7_issue 124 = .ok (.getfield 65, 3) := by decide +kernel
theorem dX7_issue_127 : decode cX7_issue 127 = .ok (.iload 4, 2) := by decide +kernel
theorem dX7_issue_129 : decode cX7_issue 129 = .ok (.aload_n 0, 1) := by decide +kernel
theorem dX7_issue_130 : decode cX7_issue 130 = .ok (.getfield 26, 3) := by decide +kernel
theorem dX7_issue_133 : decode cX7_issue 133 = .ok (.iload_n 1, 1) := by decide +kernel
theorem dX7_issue_134 : decode cX7_issue 134 = .ok (.iaload, 1) := by decide +kernel
theorem dX7_issue_135 : decode cX7_issue 135 = .ok (.iastore, 1) := by decide +kernel
theorem dX7_issue_136 : decode cX7_issue 136 = .ok (.aload_n 0, 1) := by decide +kernel
theorem dX7_issue_137 : decode cX7_issue 137 = .ok (.getfield 68, 3) := by decide +kernel
theorem dX7_issue_140 : decode cX7_issue 140 = .ok (.iload 4, 2) := by decide +kernel
theorem dX7_issue_142 : decode cX7_issue 142 = .ok (.iconst 0, 1) := by decide +kernel
theorem dX7_issue_143 : decode cX7_issue 143 = .ok (.iastore, 1) := by decide +kernel
theorem dX7_issue_144 : decode cX7_issue 144 = .ok (.aload_n 0, 1) := by decide +kernel
theorem dX7_issue_145 : decode cX7_issue 145 = .ok (.getfield 142, 3) := by decide +kernel
theorem dX7_issue_148 : decode cX7_issue 148 = .ok (.iload_n 3, 1) := by decide +kernel
theorem dX7_issue_149 : decode cX7_issue 149 = .ok (.iadd, 1) := by decide +kernel
theorem dX7_issue_150 : decode cX7_issue 150 = .ok (.ireturn, 1) := by decide +kernel
theorem dX7_anniversary_0 : decode cX7_anniversary 0 = .ok (.iconst (-1), 1) := by decide +kernel
theorem dX7_anniversary_1 : decode cX7_anniversary 1 = .ok (.istore_n 2, 1) := by decide +kernel
theorem dX7_anniversary_2 : decode cX7_anniversary 2 = .ok (.iconst 1, 1) := by decide +kernel
theorem dX7_anniversary_3 : decode cX7_anniversary 3 = .ok (.istore_n 3, 1) := by decide +kernel
theorem dX7_anniversary_4 : decode cX7_anniversary 4 = .ok (.sipush 365, 3) := by decide +kernel
theorem dX7_anniversary_7 : decode cX7_anniversary 7 = .ok (.iload_n 3, 1) := by decide +kernel
theorem dX7_anniversary_8 : decode cX7_anniversary 8 = .ok (.imul, 1) := by decide +kernel
theorem dX7_anniversary_9 : decode cX7_anniversary 9 = .ok (.aload_n 0, 1) := by decide +kernel
theorem dX7_anniversary_10 : decode cX7_anniversary 10 = .ok (.getfield 62, 3) := by decide +kernel
theorem dX7_anniversary_13 : decode cX7_anniversary 13 = .ok (.iload_n 1, 1) := by decide +kernel
theorem dX7_anniversary_14 : decode cX7_anniversary 14 = .ok (.iaload, 1) := by decide +kernel
theorem dX7_anniversary_15 : decode cX7_anniversary 15 = .ok (.if_icmp .ge 67, 3) := by decide +kernel
theorem dX7_anniversary_18 : decode cX7_anniversary 18 = .ok (.aload_n 0, 1) := by decide +kernel
theorem dX7_anniversary_19 : decode cX7_anniversary 19 = .ok (.getfield 59, 3) := by decide +kernel
theorem dX7_anniversary_22 : decode cX7_anniversary 22 = .ok (.iload_n 1, 1) := by decide +kernel
theorem dX7_anniversary_23 : decode cX7_anniversary 23 = .ok (.iaload, 1) := by decide +kernel
theorem dX7_anniversary_24 : decode cX7_anniversary 24 = .ok (.sipush 365, 3) := by decide +kernel
theorem dX7_anniversary_27 : decode cX7_anniversary 27 = .ok (.iload_n 3, 1) := by decide +kernel
theorem dX7_anniversary_28 : decode cX7_anniversary 28 = .ok (.imul, 1) := by decide +kernel
theorem dX7_anniversary_29 : decode cX7_anniversary 29 = .ok (.iadd, 1) := by decide +kernel
theorem dX7_anniversary_30 : decode cX7_anniversary 30 = .ok (.istore 4, 2) := by decide +kernel
theorem dX7_anniversary_32 : decode cX7_anniversary 32 = .ok (.iload_n 2, 1) := by decide +kernel
theorem dX7_anniversary_33 : decode cX7_anniversary 33 = .ok (.iconst (-1), 1) := by decide +kernel
theorem dX7_anniversary_34 : decode cX7_anniversary 34 = .ok (.if_icmp .ne 40, 3) := by decide +kernel
theorem dX7_anniversary_37 : decode cX7_anniversary 37 = .ok (.aload_n 0, 1) := by decide +kernel
theorem dX7_anniversary_38 : decode cX7_anniversary 38 = .ok (.getfield 68, 3) := by decide +kernel
theorem dX7_anniversary_41 : decode cX7_anniversary 41 = .ok (.iload_n 1, 1) := by decide +kernel
theorem dX7_anniversary_42 : decode cX7_anniversary 42 = .ok (.iaload, 1) := by decide +kernel
theorem dX7_anniversary_43 : decode cX7_anniversary 43 = .ok (.iload_n 3, 1) := by decide +kernel
theorem dX7_anniversary_44 : decode cX7_anniversary 44 = .ok (.invokestatic 159, 3) := by decide +kernel
theorem dX7_anniversary_47 : decode cX7_anniversary 47 = .ok (.ifCond .ne 27, 3) := by decide +kernel
theorem dX7_anniversary_50 : decode cX7_anniversary 50 = .ok (.aload_n 0, 1) := by decide +kernel
theorem dX7_anniversary_51 : decode cX7_anniversary 51 = .ok (.getfield 142, 3) := by decide +kernel
theorem dX7_anniversary_54 : decode cX7_anniversary 54 = .ok (.iload 4, 2) := by decide +kernel
theorem dX7_anniversary_56 : decode cX7_anniversary 56 = .ok (.bipush 90, 2) := by decide +kernel
theorem dX7_anniversary_58 : decode cX7_anniversary 58 = .ok (.isub, 1) := by decide +kernel
theorem dX7_anniversary_59 : decode cX7_anniversary 59 = .ok (.iload 4, 2) := by decide +kernel
theorem dX7_anniversary_61 : decode cX7_anniversary 61 = .ok (.bipush 90, 2) := by decide +kernel
theorem dX7_anniversary_63 : decode cX7_anniversary 63 = .ok (.iadd, 1) := by decide +kernel
theorem dX7_anniversary_64 : decode cX7_anniversary 64 = .ok (.invokestatic 135, 3) := by decide +kernel
theorem dX7_anniversary_67 : decode cX7_anniversary 67 = .ok (.ifCond .eq 7, 3) := by decide +kernel
theorem dX7_anniversary_70 : decode cX7_anniversary 70 = .ok (.iload_n 3, 1) := by decide +kernel
theorem dX7_anniversary_71 : decode cX7_anniversary 71 = .ok (.goto 4, 3) := by decide +kernel
theorem dX7_anniversary_74 : decode cX7_anniversary 74 = .ok (.iload_n 2, 1) := by decide +kernel
theorem dX7_anniversary_75 : decode cX7_anniversary 75 = .ok (.istore_n 2, 1) := by decide +kernel
theorem dX7_anniversary_76 : decode cX7_anniversary 76 = .ok (.iinc 3 1, 3) := by decide +kernel
theorem dX7_anniversary_79 : decode cX7_anniversary 79 = .ok (.goto (-75), 3) := by decide +kernel
theorem dX7_anniversary_82 : decode cX7_anniversary 82 = .ok (.iload_n 2, 1) := by decide +kernel
theorem dX7_anniversary_83 : decode cX7_anniversary 83 = .ok (.ireturn, 1) := by decide +kernel
theorem dX7_many_0 : decode cX7_many 0 = .ok (.iconst 0, 1) := by decide +kernel
theorem dX7_many_1 : decode cX7_many 1 = .ok (.istore_n 1, 1) := by decide +kernel
theorem dX7_many_2 : decode cX7_many 2 = .ok (.iconst 0, 1) := by decide +kernel
theorem dX7_many_3 : decode cX7_many 3 = .ok (.istore_n 2, 1) := by decide +kernel
theorem dX7_many_4 : decode cX7_many 4 = .ok (.iload_n 2, 1) := by decide +kernel
theorem dX7_many_5 : decode cX7_many 5 = .ok (.bipush 31, 2) := by decide +kernel
theorem dX7_many_7 : decode cX7_many 7 = .ok (.if_icmp .ge 17, 3) := by decide +kernel
theorem dX7_many_10 : decode cX7_many 10 = .ok (.iload_n 1, 1) := by decide +kernel
theorem dX7_many_11 : decode cX7_many 11 = .ok (.iload_n 0, 1) := by decide +kernel
theorem dX7_many_12 : decode cX7_many 12 = .ok (.iload_n 2, 1) := by decide +kernel
theorem dX7_many_13 : decode cX7_many 13 = .ok (.ishr, 1) := by decide +kernel
theorem dX7_many_14 : decode cX7_many 14 = .ok (.iconst 1, 1) := by decide +kernel
theorem dX7_many_15 : decode cX7_many 15 = .ok (.iand, 1) := by decide +kernel
theorem dX7_many_16 : decode cX7_many 16 = .ok (.iadd, 1) := by decide +kernel
theorem dX7_many_17 : decode cX7_many 17 = .ok (.istore_n 1, 1) := by decide +kernel
theorem dX7_many_18 : decode cX7_many 18 = .ok (.iinc 2 1, 3) := by decide +kernel
theorem dX7_many_21 : decode cX7_many 21 = .ok (.goto (-17), 3) := by decide +kernel
theorem dX7_many_24 : decode cX7_many 24 = .ok (.iload_n 1, 1) := by decide +kernel
theorem dX7_many_25 : decode cX7_many 25 = .ok (.ireturn, 1) := by decide +kernel
theorem dX7_endorse_0 : decode cX7_endorse 0 = .ok (.aload_n 0, 1) := by decide +kernel
theorem dX7_endorse_1 : decode cX7_endorse 1 = .ok (.aload_n 0, 1) := by decide +kernel
theorem dX7_endorse_2 : decode cX7_endorse 2 = .ok (.iload_n 1, 1) := by decide +kernel
theorem dX7_endorse_3 : decode cX7_endorse 3 = .ok (.invokevirtual 153, 3) := by decide +kernel
theorem dX7_endorse_6 : decode cX7_endorse 6 = .ok (.ifCond .ne 7, 3) := by decide +kernel
theorem dX7_endorse_9 : decode cX7_endorse 9 = .ok (.iconst 1, 1) := by decide +kernel
theorem dX7_endorse_10 : decode cX7_endorse 10 = .ok (.goto 17, 3) := by decide +kernel
theorem dX7_endorse_13 : decode cX7_endorse 13 = .ok (.iload_n 2, 1) := by decide +kernel
theorem dX7_endorse_14 : decode cX7_endorse 14 = .ok (.iconst 0, 1) := by decide +kernel
theorem dX7_endorse_15 : decode cX7_endorse 15 = .ok (.iconst 4, 1) := by decide +kernel
theorem dX7_endorse_16 : decode cX7_endorse 16 = .ok (.invokestatic 135, 3) := by decide +kernel
theorem dX7_endorse_19 : decode cX7_endorse 19 = .ok (.ifCond .eq 7, 3) := by decide +kernel
theorem dX7_endorse_22 : decode cX7_endorse 22 = .ok (.iconst 0, 1) := by decide +kernel
theorem dX7_endorse_23 : decode cX7_endorse 23 = .ok (.goto 4, 3) := by decide +kernel
theorem dX7_endorse_26 : decode cX7_endorse 26 = .ok (.iconst 2, 1) := by decide +kernel
theorem dX7_endorse_27 : decode cX7_endorse 27 = .ok (.putfield 128, 3) := by decide +kernel
theorem dX7_endorse_30 : decode cX7_endorse 30 = .ok (.aload_n 0, 1) := by decide +kernel
theorem dX7_endorse_31 : decode cX7_endorse 31 = .ok (.getfield 128, 3) := by decide +kernel
theorem dX7_endorse_34 : decode cX7_endorse 34 = .ok (.ifCond .ne 34, 3) := by decide +kernel
theorem dX7_endorse_37 : decode cX7_endorse 37 = .ok (.aload_n 0, 1) := by decide +kernel
theorem dX7_endorse_38 : decode cX7_endorse 38 = .ok (.aload_n 0, 1) := by decide +kernel
theorem dX7_endorse_39 : decode cX7_endorse 39 = .ok (.iload_n 1, 1) := by decide +kernel
theorem dX7_endorse_40 : decode cX7_endorse 40 = .ok (.iload_n 2, 1) := by decide +kernel
theorem dX7_endorse_41 : decode cX7_endorse 41 = .ok (.invokevirtual 176, 3) := by decide +kernel
theorem dX7_endorse_44 : decode cX7_endorse 44 = .ok (.ifCond .ne 16, 3) := by decide +kernel
theorem dX7_endorse_47 : decode cX7_endorse 47 = .ok (.aload_n 0, 1) := by decide +kernel
theorem dX7_endorse_48 : decode cX7_endorse 48 = .ok (.iload_n 1, 1) := by decide +kernel
theorem dX7_endorse_49 : decode cX7_endorse 49 = .ok (.iload_n 2, 1) := by decide +kernel
theorem dX7_endorse_50 : decode cX7_endorse 50 = .ok (.invokestatic 169, 3) := by decide +kernel
theorem dX7_endorse_53 : decode cX7_endorse 53 = .ok (.invokevirtual 182, 3) := by decide +kernel
theorem dX7_endorse_56 : decode cX7_endorse 56 = .ok (.iconst (-1), 1) := by decide +kernel
theorem dX7_endorse_57 : decode cX7_endorse 57 = .ok (.if_icmp .ne 7, 3) := by decide +kernel
theorem dX7_endorse_60 : decode cX7_endorse 60 = .ok (.iconst 3, 1) := by decide +kernel
theorem dX7_endorse_61 : decode cX7_endorse 61 = .ok (.goto 4, 3) := by decide +kernel
theorem dX7_endorse_64 : decode cX7_endorse 64 = .ok (.iconst 0, 1) := by decide +kernel
theorem dX7_endorse_65 : decode cX7_endorse 65 = .ok (.putfield 128, 3) := by decide +kernel
theorem dX7_endorse_68 : decode cX7_endorse 68 = .ok (.aload_n 0, 1) := by decide +kernel
theorem dX7_endorse_69 : decode cX7_endorse 69 = .ok (.getfield 128, 3) := by decide +kernel
theorem dX7_endorse_72 : decode cX7_endorse 72 = .ok (.ifCond .le 5, 3) := by decide +kernel
theorem dX7_endorse_75 : decode cX7_endorse 75 = .ok (.iconst 0, 1) := by decide +kernel
theorem dX7_endorse_76 : decode cX7_endorse 76 = .ok (.ireturn, 1) := by decide +kernel
theorem dX7_endorse_77 : decode cX7_endorse 77 = .ok (.iload_n 1, 1) := by decide +kernel
theorem dX7_endorse_78 : decode cX7_endorse 78 = .ok (.iload_n 2, 1) := by decide +kernel
theorem dX7_endorse_79 : decode cX7_endorse 79 = .ok (.invokestatic 169, 3) := by decide +kernel
theorem dX7_endorse_82 : decode cX7_endorse 82 = .ok (.istore_n 3, 1) := by decide +kernel
theorem dX7_endorse_83 : decode cX7_endorse 83 = .ok (.aload_n 0, 1) := by decide +kernel
theorem dX7_endorse_84 : decode cX7_endorse 84 = .ok (.getfield 68, 3) := by decide +kernel
theorem dX7_endorse_87 : decode cX7_endorse 87 = .ok (.iload_n 3, 1) := by decide +kernel
theorem dX7_endorse_88 : decode cX7_endorse 88 = .ok (.dup2, 1) := by decide +kernel
theorem dX7_endorse_89 : decode cX7_endorse 89 = .ok (.iaload, 1) := by decide +kernel
theorem dX7_endorse_90 : decode cX7_endorse 90 = .ok (.iconst 1, 1) := by decide +kernel
theorem dX7_endorse_91 : decode cX7_endorse 91 = .ok (.aload_n 0, 1) := by decide +kernel
theorem dX7_endorse_92 : decode cX7_endorse 92 = .ok (.iload_n 3, 1) := by decide +kernel
theorem dX7_endorse_93 : decode cX7_endorse 93 = .ok (.invokevirtual 182, 3) := by decide +kernel
theorem dX7_endorse_96 : decode cX7_endorse 96 = .ok (.ishl, 1) := by decide +kernel
theorem dX7_endorse_97 : decode cX7_endorse 97 = .ok (.ior, 1) := by decide +kernel
theorem dX7_endorse_98 : decode cX7_endorse 98 = .ok (.iastore, 1) := by decide +kernel
theorem dX7_endorse_99 : decode cX7_endorse 99 = .ok (.aload_n 0, 1) := by decide +kernel
theorem dX7_endorse_100 : decode cX7_endorse 100 = .ok (.getfield 68, 3) := by decide +kernel
theorem dX7_endorse_103 : decode cX7_endorse 103 = .ok (.iload_n 3, 1) := by decide +kernel
theorem dX7_endorse_104 : decode cX7_endorse 104 = .ok (.iaload, 1) := by decide +kernel
theorem dX7_endorse_105 : decode cX7_endorse 105 = .ok (.invokestatic 186, 3) := by decide +kernel
theorem dX7_endorse_108 : decode cX7_endorse 108 = .ok (.ireturn, 1) := by decide +kernel
theorem dX7_isLatest_0 : decode cX7_isLatest 0 = .ok (.aload_n 0, 1) := by decide +kernel
theorem dX7_isLatest_1 : decode cX7_isLatest 1 = .ok (.getfield 142, 3) := by decide +kernel
theorem dX7_isLatest_4 : decode cX7_isLatest 4 = .ok (.aload_n 0, 1) := by decide +kernel
theorem dX7_isLatest_5 : decode cX7_isLatest 5 = .ok (.getfield 92, 3) := by decide +kernel
theorem dX7_isLatest_8 : decode cX7_isLatest 8 = .ok (.iload_n 1, 1) := by decide +kernel
theorem dX7_isLatest_9 : decode cX7_isLatest 9 = .ok (.iaload, 1) := by decide +kernel
theorem dX7_isLatest_10 : decode cX7_isLatest 10 = .ok (.isub, 1) := by decide +kernel
theorem dX7_isLatest_11 : decode cX7_isLatest 11 = .ok (.sipush 1095, 3) := by decide +kernel
theorem dX7_isLatest_14 : decode cX7_isLatest 14 = .ok (.if_icmp .ge 7, 3) := by decide +kernel
theorem dX7_isLatest_17 : decode cX7_isLatest 17 = .ok (.iconst 1, 1) := by decide +kernel
theorem dX7_isLatest_18 : decode cX7_isLatest 18 = .ok (.goto 4, 3) := by decide +kernel
theorem dX7_isLatest_21 : decode cX7_isLatest 21 = .ok (.iconst 0, 1) := by decide +kernel
theorem dX7_isLatest_22 : decode cX7_isLatest 22 = .ok (.ireturn, 1) := by decide +kernel
theorem dX7_counts_0 : decode cX7_counts 0 = .ok (.aload_n 0, 1) := by decide +kernel
theorem dX7_counts_1 : decode cX7_counts 1 = .ok (.getfield 110, 3) := by decide +kernel
theorem dX7_counts_4 : decode cX7_counts 4 = .ok (.iload_n 1, 1) := by decide +kernel
theorem dX7_counts_5 : decode cX7_counts 5 = .ok (.iaload, 1) := by decide +kernel
theorem dX7_counts_6 : decode cX7_counts 6 = .ok (.iconst (-1), 1) := by decide +kernel
theorem dX7_counts_7 : decode cX7_counts 7 = .ok (.if_icmp .eq 17, 3) := by decide +kernel
theorem dX7_counts_10 : decode cX7_counts 10 = .ok (.aload_n 0, 1) := by decide +kernel
theorem dX7_counts_11 : decode cX7_counts 11 = .ok (.getfield 116, 3) := by decide +kernel
theorem dX7_counts_14 : decode cX7_counts 14 = .ok (.iload_n 1, 1) := by decide +kernel
theorem dX7_counts_15 : decode cX7_counts 15 = .ok (.iaload, 1) := by decide +kernel
theorem dX7_counts_16 : decode cX7_counts 16 = .ok (.iconst 2, 1) := by decide +kernel
theorem dX7_counts_17 : decode cX7_counts 17 = .ok (.if_icmp .ge 7, 3) := by decide +kernel
theorem dX7_counts_20 : decode cX7_counts 20 = .ok (.iconst 1, 1) := by decide +kernel
theorem dX7_counts_21 : decode cX7_counts 21 = .ok (.goto 4, 3) := by decide +kernel
theorem dX7_counts_24 : decode cX7_counts 24 = .ok (.iconst 0, 1) := by decide +kernel
theorem dX7_counts_25 : decode cX7_counts 25 = .ok (.ireturn, 1) := by decide +kernel
theorem dX7_detentionsOf_0 : decode cX7_detentionsOf 0 = .ok (.iconst 0, 1) := by decide +kernel
theorem dX7_detentionsOf_1 : decode cX7_detentionsOf 1 = .ok (.istore_n 2, 1) := by decide +kernel
theorem dX7_detentionsOf_2 : decode cX7_detentionsOf 2 = .ok (.iconst 0, 1) := by decide +kernel
theorem dX7_detentionsOf_3 : decode cX7_detentionsOf 3 = .ok (.istore_n 3, 1) := by decide +kernel
theorem dX7_detentionsOf_4 : decode cX7_detentionsOf 4 = .ok (.iload_n 3, 1) := by decide +kernel
theorem dX7_detentionsOf_5 : decode cX7_detentionsOf 5 = .ok (.aload_n 0, 1) := by decide +kernel
theorem dX7_detentionsOf_6 : decode cX7_detentionsOf 6 = .ok (.getfield 139, 3) := by decide +kernel
theorem dX7_detentionsOf_9 : decode cX7_detentionsOf 9 = .ok (.if_icmp .ge 43, 3) := by decide +kernel
theorem dX7_detentionsOf_12 : decode cX7_detentionsOf 12 = .ok (.iload_n 2, 1) := by decide +kernel
theorem dX7_detentionsOf_13 : decode cX7_detentionsOf 13 = .ok (.aload_n 0, 1) := by decide +kernel
theorem dX7_detentionsOf_14 : decode cX7_detentionsOf 14 = .ok (.getfield 86, 3) := by decide +kernel
theorem dX7_detentionsOf_17 : decode cX7_detentionsOf 17 = .ok (.iload_n 3, 1) := by decide +kernel
theorem dX7_detentionsOf_18 : decode cX7_detentionsOf 18 = .ok (.iaload, 1) := by decide +kernel
theorem dX7_detentionsOf_19 : decode cX7_detentionsOf 19 = .ok (.iload_n 1, 1) := by decide +kernel
theorem dX7_detentionsOf_20 : decode cX7_detentionsOf 20 = .ok (.if_icmp .ne 23, 3) := by decide +kernel
theorem dX7_detentionsOf_23 : decode cX7_detentionsOf 23 = .ok (.aload_n 0, 1) := by decide +kernel
theorem dX7_detentionsOf_24 : decode cX7_detentionsOf 24 = .ok (.iload_n 3, 1) := by decide +kernel
theorem dX7_detentionsOf_25 : decode cX7_detentionsOf 25 = .ok (.invokevirtual 189, 3) := by decide +kernel
theorem dX7_detentionsOf_28 : decode cX7_detentionsOf 28 = .ok (.ifCond .eq 15, 3) := by decide +kernel
theorem dX7_detentionsOf_31 : decode cX7_detentionsOf 31 = .ok (.aload_n 0, 1) := by decide +kernel
theorem dX7_detentionsOf_32 : decode cX7_detentionsOf 32 = .ok (.iload_n 3, 1) := by decide +kernel
theorem dX7_detentionsOf_33 : decode cX7_detentionsOf 33 = .ok (.invokevirtual 192, 3) := by decide +kernel
theorem dX7_detentionsOf_36 : decode cX7_detentionsOf 36 = .ok (.ifCond .eq 7, 3) := by decide +kernel
theorem dX7_detentionsOf_39 : decode cX7_detentionsOf 39 = .ok (.iconst 1, 1) := by decide +kernel
theorem dX7_detentionsOf_40 : decode cX7_detentionsOf 40 = .ok (.goto 4, 3) := by decide +kernel
theorem dX7_detentionsOf_43 : decode cX7_detentionsOf 43 = .ok (.iconst 0, 1) := by decide +kernel
theorem dX7_detentionsOf_44 : decode cX7_detentionsOf 44 = .ok (.iadd, 1) := by decide +kernel
theorem dX7_detentionsOf_45 : decode cX7_detentionsOf 45 = .ok (.istore_n 2, 1) := by decide +kernel
theorem dX7_detentionsOf_46 : decode cX7_detentionsOf 46 = .ok (.iinc 3 1, 3) := by decide +kernel
theorem dX7_detentionsOf_49 : decode cX7_detentionsOf 49 = .ok (.goto (-45), 3) := by decide +kernel
theorem dX7_detentionsOf_52 : decode cX7_detentionsOf 52 = .ok (.iload_n 2, 1) := by decide +kernel
theorem dX7_detentionsOf_53 : decode cX7_detentionsOf 53 = .ok (.ireturn, 1) := by decide +kernel
theorem dX7_hadMany_0 : decode cX7_hadMany 0 = .ok (.iconst 0, 1) := by decide +kernel
theorem dX7_hadMany_1 : decode cX7_hadMany 1 = .ok (.istore_n 2, 1) := by decide +kernel
theorem dX7_hadMany_2 : decode cX7_hadMany 2 = .ok (.iconst 0, 1) := by decide +kernel
theorem dX7_hadMany_3 : decode cX7_hadMany 3 = .ok (.istore_n 3, 1) := by decide +kernel
theorem dX7_hadMany_4 : decode cX7_hadMany 4 = .ok (.iload_n 3, 1) := by decide +kernel
theorem dX7_hadMany_5 : decode cX7_hadMany 5 = .ok (.aload_n 0, 1) := by decide +kernel
theorem dX7_hadMany_6 : decode cX7_hadMany 6 = .ok (.getfield 139, 3) := by decide +kernel
theorem dX7_hadMany_9 : decode cX7_hadMany 9 = .ok (.if_icmp .ge 47, 3) := by decide +kernel
theorem dX7_hadMany_12 : decode cX7_hadMany 12 = .ok (.iload_n 2, 1) := by decide +kernel
theorem dX7_hadMany_13 : decode cX7_hadMany 13 = .ok (.ifCond .ne 31, 3) := by decide +kernel
theorem dX7_hadMany_16 : decode cX7_hadMany 16 = .ok (.aload_n 0, 1) := by decide +kernel
theorem dX7_hadMany_17 : decode cX7_hadMany 17 = .ok (.getfield 86, 3) := by decide +kernel
theorem dX7_hadMany_20 : decode cX7_hadMany 20 = .ok (.iload_n 3, 1) := by decide +kernel
theorem dX7_hadMany_21 : decode cX7_hadMany 21 = .ok (.iaload, 1) := by decide +kernel
theorem dX7_hadMany_22 : decode cX7_hadMany 22 = .ok (.iload_n 1, 1) := by decide +kernel
theorem dX7_hadMany_23 : decode cX7_hadMany 23 = .ok (.if_icmp .ne 25, 3) := by decide +kernel
theorem dX7_hadMany_26 : decode cX7_hadMany 26 = .ok (.aload_n 0, 1) := by decide +kernel
theorem dX7_hadMany_27 : decode cX7_hadMany 27 = .ok (.iload_n 3, 1) := by decide +kernel
theorem dX7_hadMany_28 : decode cX7_hadMany 28 = .ok (.invokevirtual 189, 3) := by decide +kernel
theorem dX7_hadMany_31 : decode cX7_hadMany 31 = .ok (.ifCond .eq 17, 3) := by decide +kernel
theorem dX7_hadMany_34 : decode cX7_hadMany 34 = .ok (.aload_n 0, 1) := by decide +kernel
theorem dX7_hadMany_35 : decode cX7_hadMany 35 = .ok (.getfield 101, 3) := by decide +kernel
theorem dX7_hadMany_38 : decode cX7_hadMany 38 = .ok (.iload_n 3, 1) := by decide +kernel
theorem dX7_hadMany_39 : decode cX7_hadMany 39 = .ok (.iaload, 1) := by decide +kernel
theorem dX7_hadMany_40 : decode cX7_hadMany 40 = .ok (.iconst 5, 1) := by decide +kernel
theorem dX7_hadMany_41 : decode cX7_hadMany 41 = .ok (.if_icmp .le 7, 3) := by decide +kernel
theorem dX7_hadMany_44 : decode cX7_hadMany 44 = .ok (.iconst 1, 1) := by decide +kernel
theorem dX7_hadMany_45 : decode cX7_hadMany 45 = .ok (.goto 4, 3) := by decide +kernel
theorem dX7_hadMany_48 : decode cX7_hadMany 48 = .ok (.iconst 0, 1) := by decide +kernel
theorem dX7_hadMany_49 : decode cX7_hadMany 49 = .ok (.istore_n 2, 1) := by decide +kernel
theorem dX7_hadMany_50 : decode cX7_hadMany 50 = .ok (.iinc 3 1, 3) := by decide +kernel
theorem dX7_hadMany_53 : decode cX7_hadMany 53 = .ok (.goto (-49), 3) := by decide +kernel
theorem dX7_hadMany_56 : decode cX7_hadMany 56 = .ok (.iload_n 2, 1) := by decide +kernel
theorem dX7_hadMany_57 : decode cX7_hadMany 57 = .ok (.ireturn, 1) := by decide +kernel
theorem dX7_listOf_0 : decode cX7_listOf 0 = .ok (.iconst 0, 1) := by decide +kernel
theorem dX7_listOf_1 : decode cX7_listOf 1 = .ok (.istore_n 2, 1) := by decide +kernel
theorem dX7_listOf_2 : decode cX7_listOf 2 = .ok (.iconst 0, 1) := by decide +kernel
theorem dX7_listOf_3 : decode cX7_listOf 3 = .ok (.istore_n 3, 1) := by decide +kernel
theorem dX7_listOf_4 : decode cX7_listOf 4 = .ok (.iconst 0, 1) := by decide +kernel
theorem dX7_listOf_5 : decode cX7_listOf 5 = .ok (.istore 4, 2) := by decide +kernel
theorem dX7_listOf_7 : decode cX7_listOf 7 = .ok (.iload 4, 2) := by decide +kernel
theorem dX7_listOf_9 : decode cX7_listOf 9 = .ok (.aload_n 0, 1) := by decide +kernel
theorem dX7_listOf_10 : decode cX7_listOf 10 = .ok (.getfield 139, 3) := by decide +kernel
theorem dX7_listOf_13 : decode cX7_listOf 13 = .ok (.if_icmp .ge 71, 3) := by decide +kernel
theorem dX7_listOf_16 : decode cX7_listOf 16 = .ok (.aload_n 0, 1) := by decide +kernel
theorem dX7_listOf_17 : decode cX7_listOf 17 = .ok (.getfield 98, 3) := by decide +kernel
theorem dX7_listOf_20 : decode cX7_listOf 20 = .ok (.iload 4, 2) := by decide +kernel
theorem dX7_listOf_22 : decode cX7_listOf 22 = .ok (.iaload, 1) := by decide +kernel
theorem dX7_listOf_23 : decode cX7_listOf 23 = .ok (.iload_n 1, 1) := by decide +kernel
theorem dX7_listOf_24 : decode cX7_listOf 24 = .ok (.if_icmp .ne 16, 3) := by decide +kernel
theorem dX7_listOf_27 : decode cX7_listOf 27 = .ok (.aload_n 0, 1) := by decide +kernel
theorem dX7_listOf_28 : decode cX7_listOf 28 = .ok (.iload 4, 2) := by decide +kernel
theorem dX7_listOf_30 : decode cX7_listOf 30 = .ok (.invokevirtual 189, 3) := by decide +kernel
theorem dX7_listOf_33 : decode cX7_listOf 33 = .ok (.ifCond .eq 7, 3) := by decide +kernel
theorem dX7_listOf_36 : decode cX7_listOf 36 = .ok (.iconst 1, 1) := by decide +kernel
theorem dX7_listOf_37 : decode cX7_listOf 37 = .ok (.goto 4, 3) := by decide +kernel
theorem dX7_listOf_40 : decode cX7_listOf 40 = .ok (.iconst 0, 1) := by decide +kernel
theorem dX7_listOf_41 : decode cX7_listOf 41 = .ok (.istore 5, 2) := by decide +kernel
theorem dX7_listOf_43 : decode cX7_listOf 43 = .ok (.iload_n 2, 1) := by decide +kernel
theorem dX7_listOf_44 : decode cX7_listOf 44 = .ok (.iload 5, 2) := by decide +kernel
theorem dX7_listOf_46 : decode cX7_listOf 46 = .ok (.ifCond .eq 7, 3) := by decide +kernel
theorem dX7_listOf_49 : decode cX7_listOf 49 = .ok (.iconst 1, 1) := by decide +kernel
theorem dX7_listOf_50 : decode cX7_listOf 50 = .ok (.goto 4, 3) := by decide +kernel
theorem dX7_listOf_53 : decode cX7_listOf 53 = .ok (.iconst 0, 1) := by decide +kernel
theorem dX7_listOf_54 : decode cX7_listOf 54 = .ok (.iadd, 1) := by decide +kernel
theorem dX7_listOf_55 : decode cX7_listOf 55 = .ok (.istore_n 2, 1) := by decide +kernel
theorem dX7_listOf_56 : decode cX7_listOf 56 = .ok (.iload_n 3, 1) := by decide +kernel
theorem dX7_listOf_57 : decode cX7_listOf 57 = .ok (.iload 5, 2) := by decide +kernel
theorem dX7_listOf_59 : decode cX7_listOf 59 = .ok (.ifCond .eq 16, 3) := by decide +kernel
theorem dX7_listOf_62 : decode cX7_listOf 62 = .ok (.aload_n 0, 1) := by decide +kernel
theorem dX7_listOf_63 : decode cX7_listOf 63 = .ok (.iload 4, 2) := by decide +kernel
theorem dX7_listOf_65 : decode cX7_listOf 65 = .ok (.invokevirtual 192, 3) := by decide +kernel
theorem dX7_listOf_68 : decode cX7_listOf 68 = .ok (.ifCond .eq 7, 3) := by decide +kernel
theorem dX7_listOf_71 : decode cX7_listOf 71 = .ok (.iconst 1, 1) := by decide +kernel
theorem dX7_listOf_72 : decode cX7_listOf 72 = .ok (.goto 4, 3) := by decide +kernel
theorem dX7_listOf_75 : decode cX7_listOf 75 = .ok (.iconst 0, 1) := by decide +kernel
theorem dX7_listOf_76 : decode cX7_listOf 76 = .ok (.iadd, 1) := by decide +kernel
theorem dX7_listOf_77 : decode cX7_listOf 77 = .ok (.istore_n 3, 1) := by decide +kernel
theorem dX7_listOf_78 : decode cX7_listOf 78 = .ok (.iinc 4 1, 3) := by decide +kernel
theorem dX7_listOf_81 : decode cX7_listOf 81 = .ok (.goto (-74), 3) := by decide +kernel
theorem dX7_listOf_84 : decode cX7_listOf 84 = .ok (.bipush 100, 2) := by decide +kernel
theorem dX7_listOf_86 : decode cX7_listOf 86 = .ok (.iload_n 3, 1) := by decide +kernel
theorem dX7_listOf_87 : decode cX7_listOf 87 = .ok (.imul, 1) := by decide +kernel
theorem dX7_listOf_88 : decode cX7_listOf 88 = .ok (.bipush 7, 2) := by decide +kernel
theorem dX7_listOf_90 : decode cX7_listOf 90 = .ok (.iload_n 2, 1) := by decide +kernel
theorem dX7_listOf_91 : decode cX7_listOf 91 = .ok (.imul, 1) := by decide +kernel
theorem dX7_listOf_92 : decode cX7_listOf 92 = .ok (.isub, 1) := by decide +kernel
theorem dX7_listOf_93 : decode cX7_listOf 93 = .ok (.bipush 50, 2) := by decide +kernel
theorem dX7_listOf_95 : decode cX7_listOf 95 = .ok (.isub, 1) := by decide +kernel
theorem dX7_listOf_96 : decode cX7_listOf 96 = .ok (.istore 4, 2) := by decide +kernel
theorem dX7_listOf_98 : decode cX7_listOf 98 = .ok (.bipush 7, 2) := by decide +kernel
theorem dX7_listOf_100 : decode cX7_listOf 100 = .ok (.iload_n 2, 1) := by decide +kernel
theorem dX7_listOf_101 : decode cX7_listOf 101 = .ok (.imul, 1) := by decide +kernel
theorem dX7_listOf_102 : decode cX7_listOf 102 = .ok (.bipush 50, 2) := by decide +kernel
theorem dX7_listOf_104 : decode cX7_listOf 104 = .ok (.isub, 1) := by decide +kernel
theorem dX7_listOf_105 : decode cX7_listOf 105 = .ok (.bipush 100, 2) := by decide +kernel
theorem dX7_listOf_107 : decode cX7_listOf 107 = .ok (.iload_n 3, 1) := by decide +kernel
theorem dX7_listOf_108 : decode cX7_listOf 108 = .ok (.imul, 1) := by decide +kernel
theorem dX7_listOf_109 : decode cX7_listOf 109 = .ok (.isub, 1) := by decide +kernel
theorem dX7_listOf_110 : decode cX7_listOf 110 = .ok (.istore 5, 2) := by decide +kernel
theorem dX7_listOf_112 : decode cX7_listOf 112 = .ok (.iload_n 2, 1) := by decide +kernel
theorem dX7_listOf_113 : decode cX7_listOf 113 = .ok (.bipush 6, 2) := by decide +kernel
theorem dX7_listOf_115 : decode cX7_listOf 115 = .ok (.if_icmp .ge 5, 3) := by decide +kernel
theorem dX7_listOf_118 : decode cX7_listOf 118 = .ok (.iconst 0, 1) := by decide +kernel
theorem dX7_listOf_119 : decode cX7_listOf 119 = .ok (.ireturn, 1) := by decide +kernel
theorem dX7_listOf_120 : decode cX7_listOf 120 = .ok (.iload 4, 2) := by decide +kernel
theorem dX7_listOf_122 : decode cX7_listOf 122 = .ok (.ifCond .le 20, 3) := by decide +kernel
theorem dX7_listOf_125 : decode cX7_listOf 125 = .ok (.iload 4, 2) := by decide +kernel
theorem dX7_listOf_127 : decode cX7_listOf 127 = .ok (.iload 4, 2) := by decide +kernel
theorem dX7_listOf_129 : decode cX7_listOf 129 = .ok (.imul, 1) := by decide +kernel
theorem dX7_listOf_130 : decode cX7_listOf 130 = .ok (.sipush 1762, 3) := by decide +kernel
theorem dX7_listOf_133 : decode cX7_listOf 133 = .ok (.iload_n 2, 1) := by decide +kernel
theorem dX7_listOf_134 : decode cX7_listOf 134 = .ok (.imul, 1) := by decide +kernel
theorem dX7_listOf_135 : decode cX7_listOf 135 = .ok (.if_icmp .le 7, 3) := by decide +kernel
theorem dX7_listOf_138 : decode cX7_listOf 138 = .ok (.iconst 3, 1) := by decide +kernel
theorem dX7_listOf_139 : decode cX7_listOf 139 = .ok (.goto 26, 3) := by decide +kernel
theorem dX7_listOf_142 : decode cX7_listOf 142 = .ok (.iload 5, 2) := by decide +kernel
theorem dX7_listOf_144 : decode cX7_listOf 144 = .ok (.ifCond .le 20, 3) := by decide +kernel
theorem dX7_listOf_147 : decode cX7_listOf 147 = .ok (.iload 5, 2) := by decide +kernel
theorem dX7_listOf_149 : decode cX7_listOf 149 = .ok (.iload 5, 2) := by decide +kernel
theorem dX7_listOf_151 : decode cX7_listOf 151 = .ok (.imul, 1) := by decide +kernel
theorem dX7_listOf_152 : decode cX7_listOf 152 = .ok (.sipush 1762, 3) := by decide +kernel
theorem dX7_listOf_155 : decode cX7_listOf 155 = .ok (.iload_n 2, 1) := by decide +kernel
theorem dX7_listOf_156 : decode cX7_listOf 156 = .ok (.imul, 1) := by decide +kernel
theorem dX7_listOf_157 : decode cX7_listOf 157 = .ok (.if_icmp .le 7, 3) := by decide +kernel
theorem dX7_listOf_160 : decode cX7_listOf 160 = .ok (.iconst 1, 1) := by decide +kernel
theorem dX7_listOf_161 : decode cX7_listOf 161 = .ok (.goto 4, 3) := by decide +kernel
theorem dX7_listOf_164 : decode cX7_listOf 164 = .ok (.iconst 2, 1) := by decide +kernel
theorem dX7_listOf_165 : decode cX7_listOf 165 = .ok (.ireturn, 1) := by decide +kernel
theorem dX7_pointsOf_0 : decode cX7_pointsOf 0 = .ok (.aload_n 0, 1) := by decide +kernel
theorem dX7_pointsOf_1 : decode cX7_pointsOf 1 = .ok (.aload_n 0, 1) := by decide +kernel
theorem dX7_pointsOf_2 : decode cX7_pointsOf 2 = .ok (.getfield 23, 3) := by decide +kernel
theorem dX7_pointsOf_5 : decode cX7_pointsOf 5 = .ok (.iload_n 1, 1) := by decide +kernel
theorem dX7_pointsOf_6 : decode cX7_pointsOf 6 = .ok (.iaload, 1) := by decide +kernel
theorem dX7_pointsOf_7 : decode cX7_pointsOf 7 = .ok (.invokevirtual 195, 3) := by decide +kernel
theorem dX7_pointsOf_10 : decode cX7_pointsOf 10 = .ok (.istore_n 2, 1) := by decide +kernel
theorem dX7_pointsOf_11 : decode cX7_pointsOf 11 = .ok (.aload_n 0, 1) := by decide +kernel
theorem dX7_pointsOf_12 : decode cX7_pointsOf 12 = .ok (.iload_n 1, 1) := by decide +kernel
theorem dX7_pointsOf_13 : decode cX7_pointsOf 13 = .ok (.invokevirtual 198, 3) := by decide +kernel
theorem dX7_pointsOf_16 : decode cX7_pointsOf 16 = .ok (.ifCond .eq 7, 3) := by decide +kernel
theorem dX7_pointsOf_19 : decode cX7_pointsOf 19 = .ok (.iconst 1, 1) := by decide +kernel
theorem dX7_pointsOf_20 : decode cX7_pointsOf 20 = .ok (.goto 4, 3) := by decide +kernel
theorem dX7_pointsOf_23 : decode cX7_pointsOf 23 = .ok (.iconst 0, 1) := by decide +kernel
theorem dX7_pointsOf_24 : decode cX7_pointsOf 24 = .ok (.istore_n 3, 1) := by decide +kernel
theorem dX7_pointsOf_25 : decode cX7_pointsOf 25 = .ok (.iload_n 3, 1) := by decide +kernel
theorem dX7_pointsOf_26 : decode cX7_pointsOf 26 = .ok (.aload_n 0, 1) := by decide +kernel
theorem dX7_pointsOf_27 : decode cX7_pointsOf 27 = .ok (.getfield 20, 3) := by decide +kernel
theorem dX7_pointsOf_30 : decode cX7_pointsOf 30 = .ok (.iload_n 1, 1) := by decide +kernel
theorem dX7_pointsOf_31 : decode cX7_pointsOf 31 = .ok (.iaload, 1) := by decide +kernel
theorem dX7_pointsOf_32 : decode cX7_pointsOf 32 = .ok (.iconst 1, 1) := by decide +kernel
theorem dX7_pointsOf_33 : decode cX7_pointsOf 33 = .ok (.if_icmp .ne 7, 3) := by decide +kernel
theorem dX7_pointsOf_36 : decode cX7_pointsOf 36 = .ok (.iconst 1, 1) := by decide +kernel
theorem dX7_pointsOf_37 : decode cX7_pointsOf 37 = .ok (.goto 18, 3) := by decide +kernel
theorem dX7_pointsOf_40 : decode cX7_pointsOf 40 = .ok (.aload_n 0, 1) := by decide +kernel
theorem dX7_pointsOf_41 : decode cX7_pointsOf 41 = .ok (.getfield 20, 3) := by decide +kernel
theorem dX7_pointsOf_44 : decode cX7_pointsOf 44 = .ok (.iload_n 1, 1) := by decide +kernel
theorem dX7_pointsOf_45 : decode cX7_pointsOf 45 = .ok (.iaload, 1) := by decide +kernel
theorem dX7_pointsOf_46 : decode cX7_pointsOf 46 = .ok (.iconst 2, 1) := by decide +kernel
theorem dX7_pointsOf_47 : decode cX7_pointsOf 47 = .ok (.if_icmp .ne 7, 3) := by decide +kernel
theorem dX7_pointsOf_50 : decode cX7_pointsOf 50 = .ok (.iconst 2, 1) := by decide +kernel
theorem dX7_pointsOf_51 : decode cX7_pointsOf 51 = .ok (.goto 4, 3) := by decide +kernel
theorem dX7_pointsOf_54 : decode cX7_pointsOf 54 = .ok (.iconst 0, 1) := by decide +kernel
theorem dX7_pointsOf_55 : decode cX7_pointsOf 55 = .ok (.iadd, 1) := by decide +kernel
theorem dX7_pointsOf_56 : decode cX7_pointsOf 56 = .ok (.istore_n 3, 1) := by decide +kernel
theorem dX7_pointsOf_57 : decode cX7_pointsOf 57 = .ok (.iload_n 3, 1) := by decide +kernel
theorem dX7_pointsOf_58 : decode cX7_pointsOf 58 = .ok (.iload_n 2, 1) := by decide +kernel
theorem dX7_pointsOf_59 : decode cX7_pointsOf 59 = .ok (.iconst 2, 1) := by decide +kernel
theorem dX7_pointsOf_60 : decode cX7_pointsOf 60 = .ok (.if_icmp .ne 7, 3) := by decide +kernel
theorem dX7_pointsOf_63 : decode cX7_pointsOf 63 = .ok (.iconst 1, 1) := by decide +kernel
theorem dX7_pointsOf_64 : decode cX7_pointsOf 64 = .ok (.goto 13, 3) := by decide +kernel
theorem dX7_pointsOf_67 : decode cX7_pointsOf 67 = .ok (.iload_n 2, 1) := by decide +kernel
theorem dX7_pointsOf_68 : decode cX7_pointsOf 68 = .ok (.iconst 3, 1) := by decide +kernel
theorem dX7_pointsOf_69 : decode cX7_pointsOf 69 = .ok (.if_icmp .ne 7, 3) := by decide +kernel
theorem dX7_pointsOf_72 : decode cX7_pointsOf 72 = .ok (.iconst 2, 1) := by decide +kernel
theorem dX7_pointsOf_73 : decode cX7_pointsOf 73 = .ok (.goto 4, 3) := by decide +kernel
theorem dX7_pointsOf_76 : decode cX7_pointsOf 76 = .ok (.iconst 0, 1) := by decide +kernel
theorem dX7_pointsOf_77 : decode cX7_pointsOf 77 = .ok (.iadd, 1) := by decide +kernel
theorem dX7_pointsOf_78 : decode cX7_pointsOf 78 = .ok (.istore_n 3, 1) := by decide +kernel
theorem dX7_pointsOf_79 : decode cX7_pointsOf 79 = .ok (.iload_n 3, 1) := by decide +kernel
theorem dX7_pointsOf_80 : decode cX7_pointsOf 80 = .ok (.aload_n 0, 1) := by decide +kernel
theorem dX7_pointsOf_81 : decode cX7_pointsOf 81 = .ok (.getfield 7, 3) := by decide +kernel
theorem dX7_pointsOf_84 : decode cX7_pointsOf 84 = .ok (.aload_n 0, 1) := by decide +kernel
theorem dX7_pointsOf_85 : decode cX7_pointsOf 85 = .ok (.getfield 26, 3) := by decide +kernel
theorem dX7_pointsOf_88 : decode cX7_pointsOf 88 = .ok (.iload_n 1, 1) := by decide +kernel
theorem dX7_pointsOf_89 : decode cX7_pointsOf 89 = .ok (.iaload, 1) := by decide +kernel
theorem dX7_pointsOf_90 : decode cX7_pointsOf 90 = .ok (.baload, 1) := by decide +kernel
theorem dX7_pointsOf_91 : decode cX7_pointsOf 91 = .ok (.ifCond .eq 7, 3) := by decide +kernel
theorem dX7_pointsOf_94 : decode cX7_pointsOf 94 = .ok (.iconst 1, 1) := by decide +kernel
theorem dX7_pointsOf_95 : decode cX7_pointsOf 95 = .ok (.goto 4, 3) := by decide +kernel
theorem dX7_pointsOf_98 : decode cX7_pointsOf 98 = .ok (.iconst 0, 1) := by decide +kernel
theorem dX7_pointsOf_99 : decode cX7_pointsOf 99 = .ok (.iadd, 1) := by decide +kernel
theorem dX7_pointsOf_100 : decode cX7_pointsOf 100 = .ok (.istore_n 3, 1) := by decide +kernel
theorem dX7_pointsOf_101 : decode cX7_pointsOf 101 = .ok (.iload_n 3, 1) := by decide +kernel
theorem dX7_pointsOf_102 : decode cX7_pointsOf 102 = .ok (.aload_n 0, 1) := by decide +kernel
theorem dX7_pointsOf_103 : decode cX7_pointsOf 103 = .ok (.iload_n 1, 1) := by decide +kernel
theorem dX7_pointsOf_104 : decode cX7_pointsOf 104 = .ok (.invokevirtual 201, 3) := by decide +kernel
theorem dX7_pointsOf_107 : decode cX7_pointsOf 107 = .ok (.ifCond .eq 7, 3) := by decide +kernel
theorem dX7_pointsOf_110 : decode cX7_pointsOf 110 = .ok (.iconst 1, 1) := by decide +kernel
theorem dX7_pointsOf_111 : decode cX7_pointsOf 111 = .ok (.goto 4, 3) := by decide +kernel
theorem dX7_pointsOf_114 : decode cX7_pointsOf 114 = .ok (.iconst 0, 1) := by decide +kernel
theorem dX7_pointsOf_115 : decode cX7_pointsOf 115 = .ok (.iadd, 1) := by decide +kernel
theorem dX7_pointsOf_116 : decode cX7_pointsOf 116 = .ok (.istore_n 3, 1) := by decide +kernel
theorem dX7_pointsOf_117 : decode cX7_pointsOf 117 = .ok (.aload_n 0, 1) := by decide +kernel
theorem dX7_pointsOf_118 : decode cX7_pointsOf 118 = .ok (.iload_n 1, 1) := by decide +kernel
theorem dX7_pointsOf_119 : decode cX7_pointsOf 119 = .ok (.invokevirtual 204, 3) := by decide +kernel
theorem dX7_pointsOf_122 : decode cX7_pointsOf 122 = .ok (.istore 4, 2) := by decide +kernel
theorem dX7_pointsOf_124 : decode cX7_pointsOf 124 = .ok (.iload_n 3, 1) := by decide +kernel
theorem dX7_pointsOf_125 : decode cX7_pointsOf 125 = .ok (.iload 4, 2) := by decide +kernel
theorem dX7_pointsOf_127 : decode cX7_pointsOf 127 = .ok (.iconst 2, 1) := by decide +kernel
theorem dX7_pointsOf_128 : decode cX7_pointsOf 128 = .ok (.if_icmp .ge 8, 3) := by decide +kernel
theorem dX7_pointsOf_131 : decode cX7_pointsOf 131 = .ok (.iload 4, 2) := by decide +kernel
theorem dX7_pointsOf_133 : decode cX7_pointsOf 133 = .ok (.goto 4, 3) := by decide +kernel
theorem dX7_pointsOf_136 : decode cX7_pointsOf 136 = .ok (.iconst 2, 1) := by decide +kernel
theorem dX7_pointsOf_137 : decode cX7_pointsOf 137 = .ok (.iadd, 1) := by decide +kernel
theorem dX7_pointsOf_138 : decode cX7_pointsOf 138 = .ok (.ireturn, 1) := by decide +kernel
theorem dX7_riskOf_0 : decode cX7_riskOf 0 = .ok (.aload_n 0, 1) := by decide +kernel
theorem dX7_riskOf_1 : decode cX7_riskOf 1 = .ok (.iload_n 1, 1) := by decide +kernel
theorem dX7_riskOf_2 : decode cX7_riskOf 2 = .ok (.invokevirtual 207, 3) := by decide +kernel
theorem dX7_riskOf_5 : decode cX7_riskOf 5 = .ok (.istore_n 2, 1) := by decide +kernel
theorem dX7_riskOf_6 : decode cX7_riskOf 6 = .ok (.iload_n 2, 1) := by decide +kernel
theorem dX7_riskOf_7 : decode cX7_riskOf 7 = .ok (.iconst 5, 1) := by decide +kernel
theorem dX7_riskOf_8 : decode cX7_riskOf 8 = .ok (.if_icmp .lt 7, 3) := by decide +kernel
theorem dX7_riskOf_11 : decode cX7_riskOf 11 = .ok (.iconst 2, 1) := by decide +kernel
theorem dX7_riskOf_12 : decode cX7_riskOf 12 = .ok (.goto 26, 3) := by decide +kernel
theorem dX7_riskOf_15 : decode cX7_riskOf 15 = .ok (.iload_n 2, 1) := by decide +kernel
theorem dX7_riskOf_16 : decode cX7_riskOf 16 = .ok (.ifCond .ne 21, 3) := by decide +kernel
theorem dX7_riskOf_19 : decode cX7_riskOf 19 = .ok (.aload_n 0, 1) := by decide +kernel
theorem dX7_riskOf_20 : decode cX7_riskOf 20 = .ok (.aload_n 0, 1) := by decide +kernel
theorem dX7_riskOf_21 : decode cX7_riskOf 21 = .ok (.getfield 23, 3) := by decide +kernel
theorem dX7_riskOf_24 : decode cX7_riskOf 24 = .ok (.iload_n 1, 1) := by decide +kernel
theorem dX7_riskOf_25 : decode cX7_riskOf 25 = .ok (.iaload, 1) := by decide +kernel
theorem dX7_riskOf_26 : decode cX7_riskOf 26 = .ok (.invokevirtual 195, 3) := by decide +kernel
theorem dX7_riskOf_29 : decode cX7_riskOf 29 = .ok (.iconst 1, 1) := by decide +kernel
theorem dX7_riskOf_30 : decode cX7_riskOf 30 = .ok (.if_icmp .ne 7, 3) := by decide +kernel
theorem dX7_riskOf_33 : decode cX7_riskOf 33 = .ok (.iconst 0, 1) := by decide +kernel
theorem dX7_riskOf_34 : decode cX7_riskOf 34 = .ok (.goto 4, 3) := by decide +kernel
theorem dX7_riskOf_37 : decode cX7_riskOf 37 = .ok (.iconst 1, 1) := by decide +kernel
theorem dX7_riskOf_38 : decode cX7_riskOf 38 = .ok (.ireturn, 1) := by decide +kernel
theorem dX7_priorityOf_0 : decode cX7_priorityOf 0 = .ok (.aload_n 0, 1) := by decide +kernel
theorem dX7_priorityOf_1 : decode cX7_priorityOf 1 = .ok (.getfield 38, 3) := by decide +kernel
theorem dX7_priorityOf_4 : decode cX7_priorityOf 4 = .ok (.iload_n 1, 1) := by decide +kernel
theorem dX7_priorityOf_5 : decode cX7_priorityOf 5 = .ok (.iaload, 1) := by decide +kernel
theorem dX7_priorityOf_6 : decode cX7_priorityOf 6 = .ok (.iconst (-1), 1) := by decide +kernel
theorem dX7_priorityOf_7 : decode cX7_priorityOf 7 = .ok (.if_icmp .ne 5, 3) := by decide +kernel
theorem dX7_priorityOf_10 : decode cX7_priorityOf 10 = .ok (.iconst 2, 1) := by decide +kernel
theorem dX7_priorityOf_11 : decode cX7_priorityOf 11 = .ok (.ireturn, 1) := by decide +kernel
theorem dX7_priorityOf_12 : decode cX7_priorityOf 12 = .ok (.aload_n 0, 1) := by decide +kernel
theorem dX7_priorityOf_13 : decode cX7_priorityOf 13 = .ok (.getfield 142, 3) := by decide +kernel
theorem dX7_priorityOf_16 : decode cX7_priorityOf 16 = .ok (.aload_n 0, 1) := by decide +kernel
theorem dX7_priorityOf_17 : decode cX7_priorityOf 17 = .ok (.getfield 92, 3) := by decide +kernel
theorem dX7_priorityOf_20 : decode cX7_priorityOf 20 = .ok (.aload_n 0, 1) := by decide +kernel
theorem dX7_priorityOf_21 : decode cX7_priorityOf 21 = .ok (.getfield 38, 3) := by decide +kernel
theorem dX7_priorityOf_24 : decode cX7_priorityOf 24 = .ok (.iload_n 1, 1) := by decide +kernel
theorem dX7_priorityOf_25 : decode cX7_priorityOf 25 = .ok (.iaload, 1) := by decide +kernel
theorem dX7_priorityOf_26 : decode cX7_priorityOf 26 = .ok (.iaload, 1) := by decide +kernel
theorem dX7_priorityOf_27 : decode cX7_priorityOf 27 = .ok (.isub, 1) := by decide +kernel
theorem dX7_priorityOf_28 : decode cX7_priorityOf 28 = .ok (.istore_n 2, 1) := by decide +kernel
theorem dX7_priorityOf_29 : decode cX7_priorityOf 29 = .ok (.aload_n 0, 1) := by decide +kernel
theorem dX7_priorityOf_30 : decode cX7_priorityOf 30 = .ok (.iload_n 1, 1) := by decide +kernel
theorem dX7_priorityOf_31 : decode cX7_priorityOf 31 = .ok (.invokevirtual 210, 3) := by decide +kernel
theorem dX7_priorityOf_34 : decode cX7_priorityOf 34 = .ok (.istore_n 3, 1) := by decide +kernel
theorem dX7_priorityOf_35 : decode cX7_priorityOf 35 = .ok (.iload_n 3, 1) := by decide +kernel
theorem dX7_priorityOf_36 : decode cX7_priorityOf 36 = .ok (.iconst 2, 1) := by decide +kernel
theorem dX7_priorityOf_37 : decode cX7_priorityOf 37 = .ok (.if_icmp .ne 9, 3) := by decide +kernel
theorem dX7_priorityOf_40 : decode cX7_priorityOf 40 = .ok (.sipush 150, 3) := by decide +kernel
theorem dX7_priorityOf_43 : decode cX7_priorityOf 43 = .ok (.goto 17, 3) := by decide +kernel
theorem dX7_priorityOf_46 : decode cX7_priorityOf 46 = .ok (.iload_n 3, 1) := by decide +kernel
theorem dX7_priorityOf_47 : decode cX7_priorityOf 47 = .ok (.iconst 1, 1) := by decide +kernel
theorem dX7_priorityOf_48 : decode cX7_priorityOf 48 = .ok (.if_icmp .ne 9, 3) := by decide +kernel
theorem dX7_priorityOf_51 : decode cX7_priorityOf 51 = .ok (.sipush 300, 3) := by decide +kernel
theorem dX7_priorityOf_54 : decode cX7_priorityOf 54 = .ok (.goto 6, 3) := by decide +kernel
theorem dX7_priorityOf_57 : decode cX7_priorityOf 57 = .ok (.sipush 720, 3) := by decide +kernel
theorem dX7_priorityOf_60 : decode cX7_priorityOf 60 = .ok (.istore 4, 2) := by decide +kernel
theorem dX7_priorityOf_62 : decode cX7_priorityOf 62 = .ok (.iload_n 3, 1) := by decide +kernel
theorem dX7_priorityOf_63 : decode cX7_priorityOf 63 = .ok (.iconst 2, 1) := by decide +kernel
theorem dX7_priorityOf_64 : decode cX7_priorityOf 64 = .ok (.if_icmp .ne 9, 3) := by decide +kernel
theorem dX7_priorityOf_67 : decode cX7_priorityOf 67 = .ok (.sipush 180, 3) := by decide +kernel
theorem dX7_priorityOf_70 : decode cX7_priorityOf 70 = .ok (.goto 17, 3) := by decide +kernel
theorem dX7_priorityOf_73 : decode cX7_priorityOf 73 = .ok (.iload_n 3, 1) := by decide +kernel
theorem dX7_priorityOf_74 : decode cX7_priorityOf 74 = .ok (.iconst 1, 1) := by decide +kernel
theorem dX7_priorityOf_75 : decode cX7_priorityOf 75 = .ok (.if_icmp .ne 9, 3) := by decide +kernel
theorem dX7_priorityOf_78 : decode cX7_priorityOf 78 = .ok (.sipush 360, 3) := by decide +kernel
theorem dX7_priorityOf_81 : decode cX7_priorityOf 81 = .ok (.goto 6, 3) := by decide +kernel
theorem dX7_priorityOf_84 : decode cX7_priorityOf 84 = .ok (.sipush 1080, 3) := by decide +kernel
theorem dX7_priorityOf_87 : decode cX7_priorityOf 87 = .ok (.istore 5, 2) := by decide +kernel
theorem dX7_priorityOf_89 : decode cX7_priorityOf 89 = .ok (.iload_n 2, 1) := by decide +kernel
theorem dX7_priorityOf_90 : decode cX7_priorityOf 90 = .ok (.iload 5, 2) := by decide +kernel
theorem dX7_priorityOf_92 : decode cX7_priorityOf 92 = .ok (.if_icmp .le 7, 3) := by decide +kernel
theorem dX7_priorityOf_95 : decode cX7_priorityOf 95 = .ok (.iconst 2, 1) := by decide +kernel
theorem dX7_priorityOf_96 : decode cX7_priorityOf 96 = .ok (.goto 14, 3) := by decide +kernel
theorem dX7_priorityOf_99 : decode cX7_priorityOf 99 = .ok (.iload_n 2, 1) := by decide +kernel
theorem dX7_priorityOf_100 : decode cX7_priorityOf 100 = .ok (.iload 4, 2) := by decide +kernel
theorem dX7_priorityOf_102 : decode cX7_priorityOf 102 = .ok (.if_icmp .lt 7, 3) := by decide +kernel
theorem dX7_priorityOf_105 : decode cX7_priorityOf 105 = .ok (.iconst 1, 1) := by decide +kernel
theorem dX7_priorityOf_106 : decode cX7_priorityOf 106 = .ok (.goto 4, 3) := by decide +kernel
theorem dX7_priorityOf_109 : decode cX7_priorityOf 109 = .ok (.iconst 0, 1) := by decide +kernel
theorem dX7_priorityOf_110 : decode cX7_priorityOf 110 = .ok (.ireturn, 1) := by decide +kernel
theorem dX7_isBanned_0 : decode cX7_isBanned 0 = .ok (.aload_n 0, 1) := by decide +kernel
theorem dX7_isBanned_1 : decode cX7_isBanned 1 = .ok (.getfield 142, 3) := by decide +kernel
theorem dX7_isBanned_4 : decode cX7_isBanned 4 = .ok (.aload_n 0, 1) := by decide +kernel
theorem dX7_isBanned_5 : decode cX7_isBanned 5 = .ok (.getfield 50, 3) := by decide +kernel
theorem dX7_isBanned_8 : decode cX7_isBanned 8 = .ok (.iload_n 1, 1) := by decide +kernel
theorem dX7_isBanned_9 : decode cX7_isBanned 9 = .ok (.iaload, 1) := by decide +kernel
theorem dX7_isBanned_10 : decode cX7_isBanned 10 = .ok (.if_icmp .gt 7, 3) := by decide +kernel
theorem dX7_isBanned_13 : decode cX7_isBanned 13 = .ok (.iconst 1, 1) := by decide +kernel
theorem dX7_isBanned_14 : decode cX7_isBanned 14 = .ok (.goto 4, 3) := by decide +kernel
theorem dX7_isBanned_17 : decode cX7_isBanned 17 = .ok (.iconst 0, 1) := by decide +kernel
theorem dX7_isBanned_18 : decode cX7_isBanned 18 = .ok (.ireturn, 1) := by decide +kernel
theorem dX7_calls_0 : decode cX7_calls 0 = .ok (.aload_n 0, 1) := by decide +kernel
theorem dX7_calls_1 : decode cX7_calls 1 = .ok (.aload_n 0, 1) := by decide +kernel
theorem dX7_calls_2 : decode cX7_calls 2 = .ok (.iload_n 1, 1) := by decide +kernel
theorem dX7_calls_3 : decode cX7_calls 3 = .ok (.invokevirtual 153, 3) := by decide +kernel
theorem dX7_calls_6 : decode cX7_calls 6 = .ok (.ifCond .eq 10, 3) := by decide +kernel
theorem dX7_calls_9 : decode cX7_calls 9 = .ok (.iload_n 2, 1) := by decide +kernel
theorem dX7_calls_10 : decode cX7_calls 10 = .ok (.invokestatic 213, 3) := by decide +kernel
theorem dX7_calls_13 : decode cX7_calls 13 = .ok (.ifCond .ne 7, 3) := by decide +kernel
theorem dX7_calls_16 : decode cX7_calls 16 = .ok (.iconst 1, 1) := by decide +kernel
theorem dX7_calls_17 : decode cX7_calls 17 = .ok (.goto 26, 3) := by decide +kernel
theorem dX7_calls_20 : decode cX7_calls 20 = .ok (.aload_n 0, 1) := by decide +kernel
theorem dX7_calls_21 : decode cX7_calls 21 = .ok (.getfield 32, 3) := by decide +kernel
theorem dX7_calls_24 : decode cX7_calls 24 = .ok (.iload_n 1, 1) := by decide +kernel
theorem dX7_calls_25 : decode cX7_calls 25 = .ok (.iaload, 1) := by decide +kernel
theorem dX7_calls_26 : decode cX7_calls 26 = .ok (.iconst (-1), 1) := by decide +kernel
theorem dX7_calls_27 : decode cX7_calls 27 = .ok (.if_icmp .ne 11, 3) := by decide +kernel
theorem dX7_calls_30 : decode cX7_calls 30 = .ok (.aload_n 0, 1) := by decide +kernel
theorem dX7_calls_31 : decode cX7_calls 31 = .ok (.iload_n 1, 1) := by decide +kernel
theorem dX7_calls_32 : decode cX7_calls 32 = .ok (.invokevirtual 216, 3) := by decide +kernel
theorem dX7_calls_35 : decode cX7_calls 35 = .ok (.ifCond .eq 7, 3) := by decide +kernel
theorem dX7_calls_38 : decode cX7_calls 38 = .ok (.iconst 2, 1) := by decide +kernel
theorem dX7_calls_39 : decode cX7_calls 39 = .ok (.goto 4, 3) := by decide +kernel
theorem dX7_calls_42 : decode cX7_calls 42 = .ok (.iconst 0, 1) := by decide +kernel
theorem dX7_calls_43 : decode cX7_calls 43 = .ok (.putfield 128, 3) := by decide +kernel
theorem dX7_calls_46 : decode cX7_calls 46 = .ok (.aload_n 0, 1) := by decide +kernel
theorem dX7_calls_47 : decode cX7_calls 47 = .ok (.getfield 128, 3) := by decide +kernel
theorem dX7_calls_50 : decode cX7_calls 50 = .ok (.ifCond .le 5, 3) := by decide +kernel
theorem dX7_calls_53 : decode cX7_calls 53 = .ok (.iconst 0, 1) := by decide +kernel
theorem dX7_calls_54 : decode cX7_calls 54 = .ok (.ireturn, 1) := by decide +kernel
theorem dX7_calls_55 : decode cX7_calls 55 = .ok (.aload_n 0, 1) := by decide +kernel
theorem dX7_calls_56 : decode cX7_calls 56 = .ok (.getfield 32, 3) := by decide +kernel
theorem dX7_calls_59 : decode cX7_calls 59 = .ok (.iload_n 1, 1) := by decide +kernel
theorem dX7_calls_60 : decode cX7_calls 60 = .ok (.iload_n 2, 1) := by decide +kernel
theorem dX7_calls_61 : decode cX7_calls 61 = .ok (.iastore, 1) := by decide +kernel
theorem dX7_calls_62 : decode cX7_calls 62 = .ok (.aload_n 0, 1) := by decide +kernel
theorem dX7_calls_63 : decode cX7_calls 63 = .ok (.getfield 35, 3) := by decide +kernel
theorem dX7_calls_66 : decode cX7_calls 66 = .ok (.iload_n 1, 1) := by decide +kernel
theorem dX7_calls_67 : decode cX7_calls 67 = .ok (.iconst (-1), 1) := by decide +kernel
theorem dX7_calls_68 : decode cX7_calls 68 = .ok (.iastore, 1) := by decide +kernel
theorem dX7_calls_69 : decode cX7_calls 69 = .ok (.aload_n 0, 1) := by decide +kernel
theorem dX7_calls_70 : decode cX7_calls 70 = .ok (.iload_n 1, 1) := by decide +kernel
theorem dX7_calls_71 : decode cX7_calls 71 = .ok (.invokevirtual 219, 3) := by decide +kernel
theorem dX7_calls_74 : decode cX7_calls 74 = .ok (.ireturn, 1) := by decide +kernel
theorem dX7_leaves_0 : decode cX7_leaves 0 = .ok (.aload_n 0, 1) := by decide +kernel
theorem dX7_leaves_1 : decode cX7_leaves 1 = .ok (.aload_n 0, 1) := by decide +kernel
theorem dX7_leaves_2 : decode cX7_leaves 2 = .ok (.iload_n 1, 1) := by decide +kernel
theorem dX7_leaves_3 : decode cX7_leaves 3 = .ok (.invokevirtual 153, 3) := by decide +kernel
theorem dX7_leaves_6 : decode cX7_leaves 6 = .ok (.ifCond .ne 7, 3) := by decide +kernel
theorem dX7_leaves_9 : decode cX7_leaves 9 = .ok (.iconst 1, 1) := by decide +kernel
theorem dX7_leaves_10 : decode cX7_leaves 10 = .ok (.goto 28, 3) := by decide +kernel
theorem dX7_leaves_13 : decode cX7_leaves 13 = .ok (.aload_n 0, 1) := by decide +kernel
theorem dX7_leaves_14 : decode cX7_leaves 14 = .ok (.getfield 32, 3) := by decide +kernel
theorem dX7_leaves_17 : decode cX7_leaves 17 = .ok (.iload_n 1, 1) := by decide +kernel
theorem dX7_leaves_18 : decode cX7_leaves 18 = .ok (.iaload, 1) := by decide +kernel
theorem dX7_leaves_19 : decode cX7_leaves 19 = .ok (.iconst (-1), 1) := by decide +kernel
theorem dX7_leaves_20 : decode cX7_leaves 20 = .ok (.if_icmp .eq 13, 3) := by decide +kernel
theorem dX7_leaves_23 : decode cX7_leaves 23 = .ok (.aload_n 0, 1) := by decide +kernel
theorem dX7_leaves_24 : decode cX7_leaves 24 = .ok (.getfield 41, 3) := by decide +kernel
theorem dX7_leaves_27 : decode cX7_leaves 27 = .ok (.iload_n 1, 1) := by decide +kernel
theorem dX7_leaves_28 : decode cX7_leaves 28 = .ok (.iaload, 1) := by decide +kernel
theorem dX7_leaves_29 : decode cX7_leaves 29 = .ok (.iconst (-1), 1) := by decide +kernel
theorem dX7_leaves_30 : decode cX7_leaves 30 = .ok (.if_icmp .eq 7, 3) := by decide +kernel
theorem dX7_leaves_33 : decode cX7_leaves 33 = .ok (.iconst 2, 1) := by decide +kernel
theorem dX7_leaves_34 : decode cX7_leaves 34 = .ok (.goto 4, 3) := by decide +kernel
theorem dX7_leaves_37 : decode cX7_leaves 37 = .ok (.iconst 0, 1) := by decide +kernel
theorem dX7_leaves_38 : decode cX7_leaves 38 = .ok (.putfield 128, 3) := by decide +kernel
theorem dX7_leaves_41 : decode cX7_leaves 41 = .ok (.aload_n 0, 1) := by decide +kernel
theorem dX7_leaves_42 : decode cX7_leaves 42 = .ok (.getfield 128, 3) := by decide +kernel
theorem dX7_leaves_45 : decode cX7_leaves 45 = .ok (.ifCond .le 5, 3) := by decide +kernel
theorem dX7_leaves_48 : decode cX7_leaves 48 = .ok (.iconst 0, 1) := by decide +kernel
theorem dX7_leaves_49 : decode cX7_leaves 49 = .ok (.ireturn, 1) := by decide +kernel
theorem dX7_leaves_50 : decode cX7_leaves 50 = .ok (.aload_n 0, 1) := by decide +kernel
theorem dX7_leaves_51 : decode cX7_leaves 51 = .ok (.getfield 35, 3) := by decide +kernel
theorem dX7_leaves_54 : decode cX7_leaves 54 = .ok (.iload_n 1, 1) := by decide +kernel
theorem dX7_leaves_55 : decode cX7_leaves 55 = .ok (.iaload, 1) := by decide +kernel
theorem dX7_leaves_56 : decode cX7_leaves 56 = .ok (.iconst (-1), 1) := by decide +kernel
theorem dX7_leaves_57 : decode cX7_leaves 57 = .ok (.if_icmp .ne 16, 3) := by decide +kernel
theorem dX7_leaves_60 : decode cX7_leaves 60 = .ok (.aload_n 0, 1) := by decide +kernel
theorem dX7_leaves_61 : decode cX7_leaves 61 = .ok (.iload_n 1, 1) := by decide +kernel
theorem dX7_leaves_62 : decode cX7_leaves 62 = .ok (.invokevirtual 219, 3) := by decide +kernel
theorem dX7_leaves_65 : decode cX7_leaves 65 = .ok (.iconst 2, 1) := by decide +kernel
theorem dX7_leaves_66 : decode cX7_leaves 66 = .ok (.if_icmp .ne 7, 3) := by decide +kernel
theorem dX7_leaves_69 : decode cX7_leaves 69 = .ok (.iconst 1, 1) := by decide +kernel
theorem dX7_leaves_70 : decode cX7_leaves 70 = .ok (.goto 4, 3) := by decide +kernel
theorem dX7_leaves_73 : decode cX7_leaves 73 = .ok (.iconst 0, 1) := by decide +kernel
theorem dX7_leaves_74 : decode cX7_leaves 74 = .ok (.istore_n 2, 1) := by decide +kernel
theorem dX7_leaves_75 : decode cX7_leaves 75 = .ok (.aload_n 0, 1) := by decide +kernel
theorem dX7_leaves_76 : decode cX7_leaves 76 = .ok (.getfield 125, 3) := by decide +kernel
theorem dX7_leaves_79 : decode cX7_leaves 79 = .ok (.aload_n 0, 1) := by decide +kernel
theorem dX7_leaves_80 : decode cX7_leaves 80 = .ok (.getfield 32, 3) := by decide +kernel
theorem dX7_leaves_83 : decode cX7_leaves 83 = .ok (.iload_n 1, 1) := by decide +kernel
theorem dX7_leaves_84 : decode cX7_leaves 84 = .ok (.iaload, 1) := by decide +kernel
theorem dX7_leaves_85 : decode cX7_leaves 85 = .ok (.dup2, 1) := by decide +kernel
theorem dX7_leaves_86 : decode cX7_leaves 86 = .ok (.iaload, 1) := by decide +kernel
theorem dX7_leaves_87 : decode cX7_leaves 87 = .ok (.iload_n 2, 1) := by decide +kernel
theorem dX7_leaves_88 : decode cX7_leaves 88 = .ok (.ifCond .eq 7, 3) := by decide +kernel
theorem dX7_leaves_91 : decode cX7_leaves 91 = .ok (.iconst 1, 1) := by decide +kernel
theorem dX7_leaves_92 : decode cX7_leaves 92 = .ok (.goto 4, 3) := by decide +kernel
theorem dX7_leaves_95 : decode cX7_leaves 95 = .ok (.iconst 0, 1) := by decide +kernel
theorem dX7_leaves_96 : decode cX7_leaves 96 = .ok (.iadd, 1) := by decide +kernel
theorem dX7_leaves_97 : decode cX7_leaves 97 = .ok (.iastore, 1) := by decide +kernel
theorem dX7_leaves_98 : decode cX7_leaves 98 = .ok (.aload_n 0, 1) := by decide +kernel
theorem dX7_leaves_99 : decode cX7_leaves 99 = .ok (.getfield 32, 3) := by decide +kernel
theorem dX7_leaves_102 : decode cX7_leaves 102 = .ok (.iload_n 1, 1) := by decide +kernel
theorem dX7_leaves_103 : decode cX7_leaves 103 = .ok (.iconst (-1), 1) := by decide +kernel
theorem dX7_leaves_104 : decode cX7_leaves 104 = .ok (.iastore, 1) := by decide +kernel
theorem dX7_leaves_105 : decode cX7_leaves 105 = .ok (.aload_n 0, 1) := by decide +kernel
theorem dX7_leaves_106 : decode cX7_leaves 106 = .ok (.getfield 35, 3) := by decide +kernel
theorem dX7_leaves_109 : decode cX7_leaves 109 = .ok (.iload_n 1, 1) := by decide +kernel
theorem dX7_leaves_110 : decode cX7_leaves 110 = .ok (.iconst (-1), 1) := by decide +kernel
theorem dX7_leaves_111 : decode cX7_leaves 111 = .ok (.iastore, 1) := by decide +kernel
theorem dX7_leaves_112 : decode cX7_leaves 112 = .ok (.iload_n 2, 1) := by decide +kernel
theorem dX7_leaves_113 : decode cX7_leaves 113 = .ok (.ireturn, 1) := by decide +kernel
theorem dX7_hasOff_0 : decode cX7_hasOff 0 = .ok (.iconst 0, 1) := by decide +kernel
theorem dX7_hasOff_1 : decode cX7_hasOff 1 = .ok (.istore_n 2, 1) := by decide +kernel
theorem dX7_hasOff_2 : decode cX7_hasOff 2 = .ok (.iconst 0, 1) := by decide +kernel
theorem dX7_hasOff_3 : decode cX7_hasOff 3 = .ok (.istore_n 3, 1) := by decide +kernel
theorem dX7_hasOff_4 : decode cX7_hasOff 4 = .ok (.iload_n 3, 1) := by decide +kernel
theorem dX7_hasOff_5 : decode cX7_hasOff 5 = .ok (.aload_n 0, 1) := by decide +kernel
theorem dX7_hasOff_6 : decode cX7_hasOff 6 = .ok (.getfield 139, 3) := by decide +kernel
theorem dX7_hasOff_9 : decode cX7_hasOff 9 = .ok (.if_icmp .ge 65, 3) := by decide +kernel
theorem dX7_hasOff_12 : decode cX7_hasOff 12 = .ok (.iconst 0, 1) := by decide +kernel
theorem dX7_hasOff_13 : decode cX7_hasOff 13 = .ok (.istore 4, 2) := by decide +kernel
theorem dX7_hasOff_15 : decode cX7_hasOff 15 = .ok (.iload 4, 2) := by decide +kernel
theorem dX7_hasOff_17 : decode cX7_hasOff 17 = .ok (.aload_n 0, 1) := by decide +kernel
theorem dX7_hasOff_18 : decode cX7_hasOff 18 = .ok (.getfield 101, 3) := by decide +kernel
theorem dX7_hasOff_21 : decode cX7_hasOff 21 = .ok (.iload_n 3, 1) := by decide +kernel
theorem dX7_hasOff_22 : decode cX7_hasOff 22 = .ok (.iaload, 1) := by decide +kernel
theorem dX7_hasOff_23 : decode cX7_hasOff 23 = .ok (.if_icmp .ge 45, 3) := by decide +kernel
theorem dX7_hasOff_26 : decode cX7_hasOff 26 = .ok (.iload_n 2, 1) := by decide +kernel
theorem dX7_hasOff_27 : decode cX7_hasOff 27 = .ok (.ifCond .ne 29, 3) := by decide +kernel
theorem dX7_hasOff_30 : decode cX7_hasOff 30 = .ok (.aload_n 0, 1) := by decide +kernel
theorem dX7_hasOff_31 : decode cX7_hasOff 31 = .ok (.getfield 86, 3) := by decide +kernel
theorem dX7_hasOff_34 : decode cX7_hasOff 34 = .ok (.iload_n 3, 1) := by decide +kernel
theorem dX7_hasOff_35 : decode cX7_hasOff 35 = .ok (.iaload, 1) := by decide +kernel
theorem dX7_hasOff_36 : decode cX7_hasOff 36 = .ok (.iload_n 1, 1) := by decide +kernel
theorem dX7_hasOff_37 : decode cX7_hasOff 37 = .ok (.if_icmp .ne 23, 3) := by decide +kernel
theorem dX7_hasOff_40 : decode cX7_hasOff 40 = .ok (.aload_n 0, 1) := by decide +kernel
theorem dX7_hasOff_41 : decode cX7_hasOff 41 = .ok (.getfield 107, 3) := by decide +kernel
theorem dX7_hasOff_44 : decode cX7_hasOff 44 = .ok (.bipush 12, 2) := by decide +kernel
theorem dX7_hasOff_46 : decode cX7_hasOff 46 = .ok (.iload_n 3, 1) := by decide +kernel
theorem dX7_hasOff_47 : decode cX7_hasOff 47 = .ok (.imul, 1) := by decide +kernel
theorem dX7_hasOff_48 : decode cX7_hasOff 48 = .ok (.iload 4, 2) := by decide +kernel
theorem dX7_hasOff_50 : decode cX7_hasOff 50 = .ok (.iadd, 1) := by decide +kernel
theorem dX7_hasOff_51 : decode cX7_hasOff 51 = .ok (.iaload, 1) := by decide +kernel
theorem dX7_hasOff_52 : decode cX7_hasOff 52 = .ok (.iconst 2, 1) := by decide +kernel
theorem dX7_hasOff_53 : decode cX7_hasOff 53 = .ok (.if_icmp .ne 7, 3) := by decide +kernel
theorem dX7_hasOff_56 : decode cX7_hasOff 56 = .ok (.iconst 1, 1) := by decide +kernel
theorem dX7_hasOff_57 : decode cX7_hasOff 57 = .ok (.goto 4, 3) := by decide +kernel
theorem dX7_hasOff_60 : decode cX7_hasOff 60 = .ok (.iconst 0, 1) := by decide +kernel
theorem dX7_hasOff_61 : decode cX7_hasOff 61 = .ok (.istore_n 2, 1) := by decide +kernel
theorem dX7_hasOff_62 : decode cX7_hasOff 62 = .ok (.iinc 4 1, 3) := by decide +kernel
theorem dX7_hasOff_65 : decode cX7_hasOff 65 = .ok (.goto (-50), 3) := by decide +kernel
theorem dX7_hasOff_68 : decode cX7_hasOff 68 = .ok (.iinc 3 1, 3) := by decide +kernel
theorem dX7_hasOff_71 : decode cX7_hasOff 71 = .ok (.goto (-67), 3) := by decide +kernel
theorem dX7_hasOff_74 : decode cX7_hasOff 74 = .ok (.iload_n 2, 1) := by decide +kernel
theorem dX7_hasOff_75 : decode cX7_hasOff 75 = .ok (.ireturn, 1) := by decide +kernel
theorem dX7_visit_0 : decode cX7_visit 0 = .ok (.aload_n 0, 1) := by decide +kernel
theorem dX7_visit_1 : decode cX7_visit 1 = .ok (.aload_n 0, 1) := by decide +kernel
theorem dX7_visit_2 : decode cX7_visit 2 = .ok (.iload_n 1, 1) := by decide +kernel
theorem dX7_visit_3 : decode cX7_visit 3 = .ok (.invokevirtual 153, 3) := by decide +kernel
theorem dX7_visit_6 : decode cX7_visit 6 = .ok (.ifCond .ne 7, 3) := by decide +kernel
theorem dX7_visit_9 : decode cX7_visit 9 = .ok (.iconst 1, 1) := by decide +kernel
theorem dX7_visit_10 : decode cX7_visit 10 = .ok (.goto 37, 3) := by decide +kernel
theorem dX7_visit_13 : decode cX7_visit 13 = .ok (.aload_n 0, 1) := by decide +kernel
theorem dX7_visit_14 : decode cX7_visit 14 = .ok (.getfield 32, 3) := by decide +kernel
theorem dX7_visit_17 : decode cX7_visit 17 = .ok (.iload_n 1, 1) := by decide +kernel
theorem dX7_visit_18 : decode cX7_visit 18 = .ok (.iaload, 1) := by decide +kernel
theorem dX7_visit_19 : decode cX7_visit 19 = .ok (.iconst (-1), 1) := by decide +kernel
theorem dX7_visit_20 : decode cX7_visit 20 = .ok (.if_icmp .eq 22, 3) := by decide +kernel
theorem dX7_visit_23 : decode cX7_visit 23 = .ok (.aload_n 0, 1) := by decide +kernel
theorem dX7_visit_24 : decode cX7_visit 24 = .ok (.getfield 35, 3) := by decide +kernel
theorem dX7_visit_27 : decode cX7_visit 27 = .ok (.iload_n 1, 1) := by decide +kernel
theorem dX7_visit_28 : decode cX7_visit 28 = .ok (.iaload, 1) := by decide +kernel
theorem dX7_visit_29 : decode cX7_visit 29 = .ok (.iconst (-1), 1) := by decide +kernel
theorem dX7_visit_30 : decode cX7_visit 30 = .ok (.if_icmp .ne 12, 3) := by decide +kernel
theorem dX7_visit_33 : decode cX7_visit 33 = .ok (.aload_n 0, 1) := by decide +kernel
theorem dX7_visit_34 : decode cX7_visit 34 = .ok (.getfield 139, 3) := by decide +kernel
theorem dX7_visit_37 : decode cX7_visit 37 = .ok (.bipush 60, 2) := by decide +kernel
theorem dX7_visit_39 : decode cX7_visit 39 = .ok (.if_icmp .ne 7, 3) := by decide +kernel
theorem dX7_visit_42 : decode cX7_visit 42 = .ok (.iconst 2, 1) := by decide +kernel
theorem dX7_visit_43 : decode cX7_visit 43 = .ok (.goto 4, 3) := by decide +kernel
theorem dX7_visit_46 : decode cX7_visit 46 = .ok (.iconst 0, 1) := by decide +kernel
theorem dX7_visit_47 : decode cX7_visit 47 = .ok (.putfield 128, 3) := by decide +kernel
theorem dX7_visit_50 : decode cX7_visit 50 = .ok (.aload_n 0, 1) := by decide +kernel
theorem dX7_visit_51 : decode cX7_visit 51 = .ok (.getfield 128, 3) := by decide +kernel
theorem dX7_visit_54 : decode cX7_visit 54 = .ok (.ifCond .le 5, 3) := by decide +kernel
theorem dX7_visit_57 : decode cX7_visit 57 = .ok (.iconst 0, 1) := by decide +kernel
theorem dX7_visit_58 : decode cX7_visit 58 = .ok (.ireturn, 1) := by decide +kernel
theorem dX7_visit_59 : decode cX7_visit 59 = .ok (.aload_n 0, 1) := by decide +kernel
theorem dX7_visit_60 : decode cX7_visit 60 = .ok (.iload_n 1, 1) := by decide +kernel
theorem dX7_visit_61 : decode cX7_visit 61 = .ok (.invokevirtual 210, 3) := by decide +kernel
theorem dX7_visit_64 : decode cX7_visit 64 = .ok (.iconst 2, 1) := by decide +kernel
theorem dX7_visit_65 : decode cX7_visit 65 = .ok (.if_icmp .eq 20, 3) := by decide +kernel
theorem dX7_visit_68 : decode cX7_visit 68 = .ok (.aload_n 0, 1) := by decide +kernel
theorem dX7_visit_69 : decode cX7_visit 69 = .ok (.iload_n 1, 1) := by decide +kernel
theorem dX7_visit_70 : decode cX7_visit 70 = .ok (.invokevirtual 198, 3) := by decide +kernel
theorem dX7_visit_73 : decode cX7_visit 73 = .ok (.ifCond .eq 16, 3) := by decide +kernel
theorem dX7_visit_76 : decode cX7_visit 76 = .ok (.aload_n 0, 1) := by decide +kernel
theorem dX7_visit_77 : decode cX7_visit 77 = .ok (.getfield 20, 3) := by decide +kernel
theorem dX7_visit_80 : decode cX7_visit 80 = .ok (.iload_n 1, 1) := by decide +kernel
theorem dX7_visit_81 : decode cX7_visit 81 = .ok (.iaload, 1) := by decide +kernel
theorem dX7_visit_82 : decode cX7_visit 82 = .ok (.ifCond .eq 7, 3) := by decide +kernel
theorem dX7_visit_85 : decode cX7_visit 85 = .ok (.iconst 1, 1) := by decide +kernel
theorem dX7_visit_86 : decode cX7_visit 86 = .ok (.goto 4, 3) := by decide +kernel
theorem dX7_visit_89 : decode cX7_visit 89 = .ok (.iconst 0, 1) := by decide +kernel
theorem dX7_visit_90 : decode cX7_visit 90 = .ok (.istore_n 2, 1) := by decide +kernel
theorem dX7_visit_91 : decode cX7_visit 91 = .ok (.aload_n 0, 1) := by decide +kernel
theorem dX7_visit_92 : decode cX7_visit 92 = .ok (.iload_n 1, 1) := by decide +kernel
theorem dX7_visit_93 : decode cX7_visit 93 = .ok (.invokevirtual 222, 3) := by decide +kernel
theorem dX7_visit_96 : decode cX7_visit 96 = .ok (.ifCond .ne 11, 3) := by decide +kernel
theorem dX7_visit_99 : decode cX7_visit 99 = .ok (.aload_n 0, 1) := by decide +kernel
theorem dX7_visit_100 : decode cX7_visit 100 = .ok (.iload_n 1, 1) := by decide +kernel
theorem dX7_visit_101 : decode cX7_visit 101 = .ok (.invokevirtual 225, 3) := by decide +kernel
theorem dX7_visit_104 : decode cX7_visit 104 = .ok (.ifCond .eq 7, 3) := by decide +kernel
theorem dX7_visit_107 : decode cX7_visit 107 = .ok (.iconst 1, 1) := by decide +kernel
theorem dX7_visit_108 : decode cX7_visit 108 = .ok (.goto 4, 3) := by decide +kernel
theorem dX7_visit_111 : decode cX7_visit 111 = .ok (.iconst 0, 1) := by decide +kernel
theorem dX7_visit_112 : decode cX7_visit 112 = .ok (.istore_n 3, 1) := by decide +kernel
theorem dX7_visit_113 : decode cX7_visit 113 = .ok (.aload_n 0, 1) := by decide +kernel
theorem dX7_visit_114 : decode cX7_visit 114 = .ok (.getfield 95, 3) := by decide +kernel
theorem dX7_visit_117 : decode cX7_visit 117 = .ok (.aload_n 0, 1) := by decide +kernel
theorem dX7_visit_118 : decode cX7_visit 118 = .ok (.getfield 139, 3) := by decide +kernel
theorem dX7_visit_121 : decode cX7_visit 121 = .ok (.iload_n 2, 1) := by decide +kernel
theorem dX7_visit_122 : decode cX7_visit 122 = .ok (.ifCond .eq 7, 3) := by decide +kernel
theorem dX7_visit_125 : decode cX7_visit 125 = .ok (.iconst 2, 1) := by decide +kernel
theorem dX7_visit_126 : decode cX7_visit 126 = .ok (.goto 12, 3) := by decide +kernel
theorem dX7_visit_129 : decode cX7_visit 129 = .ok (.iload_n 3, 1) := by decide +kernel
theorem dX7_visit_130 : decode cX7_visit 130 = .ok (.ifCond .eq 7, 3) := by decide +kernel
theorem dX7_visit_133 : decode cX7_visit 133 = .ok (.iconst 1, 1) := by decide +kernel
theorem dX7_visit_134 : decode cX7_visit 134 = .ok (.goto 4, 3) := by decide +kernel
theorem dX7_visit_137 : decode cX7_visit 137 = .ok (.iconst 0, 1) := by decide +kernel
theorem dX7_visit_138 : decode cX7_visit 138 = .ok (.iastore, 1) := by decide +kernel
theorem dX7_visit_139 : decode cX7_visit 139 = .ok (.aload_n 0, 1) := by decide +kernel
theorem dX7_visit_140 : decode cX7_visit 140 = .ok (.getfield 86, 3) := by decide +kernel
theorem dX7_visit_143 : decode cX7_visit 143 = .ok (.aload_n 0, 1) := by decide +kernel
theorem dX7_visit_144 : decode cX7_visit 144 = .ok (.getfield 139, 3) := by decide +kernel
theorem dX7_visit_147 : decode cX7_visit 147 = .ok (.iload_n 1, 1) := by decide +kernel
theorem dX7_visit_148 : decode cX7_visit 148 = .ok (.iastore, 1) := by decide +kernel
theorem dX7_visit_149 : decode cX7_visit 149 = .ok (.aload_n 0, 1) := by decide +kernel
theorem dX7_visit_150 : decode cX7_visit 150 = .ok (.getfield 89, 3) := by decide +kernel
theorem dX7_visit_153 : decode cX7_visit 153 = .ok (.aload_n 0, 1) := by decide +kernel
theorem dX7_visit_154 : decode cX7_visit 154 = .ok (.getfield 139, 3) := by decide +kernel
theorem dX7_visit_157 : decode cX7_visit 157 = .ok (.aload_n 0, 1) := by decide +kernel
theorem dX7_visit_158 : decode cX7_visit 158 = .ok (.getfield 32, 3) := by decide +kernel
theorem dX7_visit_161 : decode cX7_visit 161 = .ok (.iload_n 1, 1) := by decide +kernel
theorem dX7_visit_162 : decode cX7_visit 162 = .ok (.iaload, 1) := by decide +kernel
theorem dX7_visit_163 : decode cX7_visit 163 = .ok (.iastore, 1) := by decide +kernel
theorem dX7_visit_164 : decode cX7_visit 164 = .ok (.aload_n 0, 1) := by decide +kernel
theorem dX7_visit_165 : decode cX7_visit 165 = .ok (.getfield 92, 3) := by decide +kernel
theorem dX7_visit_168 : decode cX7_visit 168 = .ok (.aload_n 0, 1) := by decide +kernel
theorem dX7_visit_169 : decode cX7_visit 169 = .ok (.getfield 139, 3) := by decide +kernel
theorem dX7_visit_172 : decode cX7_visit 172 = .ok (.aload_n 0, 1) := by decide +kernel
theorem dX7_visit_173 : decode cX7_visit 173 = .ok (.getfield 142, 3) := by decide +kernel
theorem dX7_visit_176 : decode cX7_visit 176 = .ok (.iastore, 1) := by decide +kernel
theorem dX7_visit_177 : decode cX7_visit 177 = .ok (.aload_n 0, 1) := by decide +kernel
theorem dX7_visit_178 : decode cX7_visit 178 = .ok (.getfield 98, 3) := by decide +kernel
theorem dX7_visit_181 : decode cX7_visit 181 = .ok (.aload_n 0, 1) := by decide +kernel
theorem dX7_visit_182 : decode cX7_visit 182 = .ok (.getfield 139, 3) := by decide +kernel
theorem dX7_visit_185 : decode cX7_visit 185 = .ok (.aload_n 0, 1) := by decide +kernel
theorem dX7_visit_186 : decode cX7_visit 186 = .ok (.getfield 23, 3) := by decide +kernel
theorem dX7_visit_189 : decode cX7_visit 189 = .ok (.iload_n 1, 1) := by decide +kernel
theorem dX7_visit_190 : decode cX7_visit 190 = .ok (.iaload, 1) := by decide +kernel
theorem dX7_visit_191 : decode cX7_visit 191 = .ok (.iastore, 1) := by decide +kernel
theorem dX7_visit_192 : decode cX7_visit 192 = .ok (.aload_n 0, 1) := by decide +kernel
theorem dX7_visit_193 : decode cX7_visit 193 = .ok (.getfield 110, 3) := by decide +kernel
theorem dX7_visit_196 : decode cX7_visit 196 = .ok (.aload_n 0, 1) := by decide +kernel
theorem dX7_visit_197 : decode cX7_visit 197 = .ok (.getfield 139, 3) := by decide +kernel
theorem dX7_visit_200 : decode cX7_visit 200 = .ok (.iconst (-1), 1) := by decide +kernel
theorem dX7_visit_201 : decode cX7_visit 201 = .ok (.iastore, 1) := by decide +kernel
theorem dX7_visit_202 : decode cX7_visit 202 = .ok (.aload_n 0, 1) := by decide +kernel
theorem dX7_visit_203 : decode cX7_visit 203 = .ok (.getfield 35, 3) := by decide +kernel
theorem dX7_visit_206 : decode cX7_visit 206 = .ok (.iload_n 1, 1) := by decide +kernel
theorem dX7_visit_207 : decode cX7_visit 207 = .ok (.aload_n 0, 1) := by decide +kernel
theorem dX7_visit_208 : decode cX7_visit 208 = .ok (.getfield 139, 3) := by decide +kernel
theorem dX7_visit_211 : decode cX7_visit 211 = .ok (.iastore, 1) := by decide +kernel
theorem dX7_visit_212 : decode cX7_visit 212 = .ok (.aload_n 0, 1) := by decide +kernel
theorem dX7_visit_213 : decode cX7_visit 213 = .ok (.getfield 38, 3) := by decide +kernel
theorem dX7_visit_216 : decode cX7_visit 216 = .ok (.iload_n 1, 1) := by decide +kernel
theorem dX7_visit_217 : decode cX7_visit 217 = .ok (.aload_n 0, 1) := by decide +kernel
theorem dX7_visit_218 : decode cX7_visit 218 = .ok (.getfield 139, 3) := by decide +kernel
theorem dX7_visit_221 : decode cX7_visit 221 = .ok (.iastore, 1) := by decide +kernel
theorem dX7_visit_222 : decode cX7_visit 222 = .ok (.aload_n 0, 1) := by decide +kernel
theorem dX7_visit_223 : decode cX7_visit 223 = .ok (.dup, 1) := by decide +kernel
theorem dX7_visit_224 : decode cX7_visit 224 = .ok (.getfield 139, 3) := by decide +kernel
theorem dX7_visit_227 : decode cX7_visit 227 = .ok (.iconst 1, 1) := by decide +kernel
theorem dX7_visit_228 : decode cX7_visit 228 = .ok (.iadd, 1) := by decide +kernel
theorem dX7_visit_229 : decode cX7_visit 229 = .ok (.putfield 139, 3) := by decide +kernel
theorem dX7_visit_232 : decode cX7_visit 232 = .ok (.aload_n 0, 1) := by decide +kernel
theorem dX7_visit_233 : decode cX7_visit 233 = .ok (.getfield 139, 3) := by decide +kernel
theorem dX7_visit_236 : decode cX7_visit 236 = .ok (.iconst 1, 1) := by decide +kernel
theorem dX7_visit_237 : decode cX7_visit 237 = .ok (.isub, 1) := by decide +kernel
theorem dX7_visit_238 : decode cX7_visit 238 = .ok (.ireturn, 1) := by decide +kernel
theorem dX7_isHere_0 : decode cX7_isHere 0 = .ok (.aload_n 0, 1) := by decide +kernel
theorem dX7_isHere_1 : decode cX7_isHere 1 = .ok (.getfield 35, 3) := by decide +kernel
theorem dX7_isHere_4 : decode cX7_isHere 4 = .ok (.aload_n 0, 1) := by decide +kernel
theorem dX7_isHere_5 : decode cX7_isHere 5 = .ok (.getfield 86, 3) := by decide +kernel
theorem dX7_isHere_8 : decode cX7_isHere 8 = .ok (.iload_n 1, 1) := by decide +kernel
theorem dX7_isHere_9 : decode cX7_isHere 9 = .ok (.iaload, 1) := by decide +kernel
theorem dX7_isHere_10 : decode cX7_isHere 10 = .ok (.iaload, 1) := by decide +kernel
theorem dX7_isHere_11 : decode cX7_isHere 11 = .ok (.iload_n 1, 1) := by decide +kernel
theorem dX7_isHere_12 : decode cX7_isHere 12 = .ok (.if_icmp .ne 7, 3) := by decide +kernel
theorem dX7_isHere_15 : decode cX7_isHere 15 = .ok (.iconst 1, 1) := by decide +kernel
theorem dX7_isHere_16 : decode cX7_isHere 16 = .ok (.goto 4, 3) := by decide +kernel
theorem dX7_isHere_19 : decode cX7_isHere 19 = .ok (.iconst 0, 1) := by decide +kernel
theorem dX7_isHere_20 : decode cX7_isHere 20 = .ok (.ireturn, 1) := by decide +kernel
theorem dX7_finds_0 : decode cX7_finds 0 = .ok (.aload_n 0, 1) := by decide +kernel
theorem dX7_finds_1 : decode cX7_finds 1 = .ok (.aload_n 0, 1) := by decide +kernel
theorem dX7_finds_2 : decode cX7_finds 2 = .ok (.iload_n 1, 1) := by decide +kernel
theorem dX7_finds_3 : decode cX7_finds 3 = .ok (.invokevirtual 228, 3) := by decide +kernel
theorem dX7_finds_6 : decode cX7_finds 6 = .ok (.ifCond .ne 7, 3) := by decide +kernel
theorem dX7_finds_9 : decode cX7_finds 9 = .ok (.iconst 1, 1) := by decide +kernel
theorem dX7_finds_10 : decode cX7_finds 10 = .ok (.goto 28, 3) := by decide +kernel
theorem dX7_finds_13 : decode cX7_finds 13 = .ok (.iload_n 2, 1) := by decide +kernel
theorem dX7_finds_14 : decode cX7_finds 14 = .ok (.iconst 0, 1) := by decide +kernel
theorem dX7_finds_15 : decode cX7_finds 15 = .ok (.bipush 9, 2) := by decide +kernel
theorem dX7_finds_17 : decode cX7_finds 17 = .ok (.invokestatic 135, 3) := by decide +kernel
theorem dX7_finds_20 : decode cX7_finds 20 = .ok (.ifCond .eq 17, 3) := by decide +kernel
theorem dX7_finds_23 : decode cX7_finds 23 = .ok (.iload_n 3, 1) := by decide +kernel
theorem dX7_finds_24 : decode cX7_finds 24 = .ok (.iconst 1, 1) := by decide +kernel
theorem dX7_finds_25 : decode cX7_finds 25 = .ok (.bipush 10, 2) := by decide +kernel
theorem dX7_finds_27 : decode cX7_finds 27 = .ok (.invokestatic 135, 3) := by decide +kernel
theorem dX7_finds_30 : decode cX7_finds 30 = .ok (.ifCond .eq 7, 3) := by decide +kernel
theorem dX7_finds_33 : decode cX7_finds 33 = .ok (.iconst 0, 1) := by decide +kernel
theorem dX7_finds_34 : decode cX7_finds 34 = .ok (.goto 4, 3) := by decide +kernel
theorem dX7_finds_37 : decode cX7_finds 37 = .ok (.iconst 2, 1) := by decide +kernel
theorem dX7_finds_38 : decode cX7_finds 38 = .ok (.putfield 128, 3) := by decide +kernel
theorem dX7_finds_41 : decode cX7_finds 41 = .ok (.aload_n 0, 1) := by decide +kernel
theorem dX7_finds_42 : decode cX7_finds 42 = .ok (.getfield 128, 3) := by decide +kernel
theorem dX7_finds_45 : decode cX7_finds 45 = .ok (.ifCond .ne 45, 3) := by decide +kernel
theorem dX7_finds_48 : decode cX7_finds 48 = .ok (.aload_n 0, 1) := by decide +kernel
theorem dX7_finds_49 : decode cX7_finds 49 = .ok (.aload_n 0, 1) := by decide +kernel
theorem dX7_finds_50 : decode cX7_finds 50 = .ok (.iload_n 1, 1) := by decide +kernel
theorem dX7_finds_51 : decode cX7_finds 51 = .ok (.invokevirtual 231, 3) := by decide +kernel
theorem dX7_finds_54 : decode cX7_finds 54 = .ok (.ifCond .eq 32, 3) := by decide +kernel
theorem dX7_finds_57 : decode cX7_finds 57 = .ok (.aload_n 0, 1) := by decide +kernel
theorem dX7_finds_58 : decode cX7_finds 58 = .ok (.aload_n 0, 1) := by decide +kernel
theorem dX7_finds_59 : decode cX7_finds 59 = .ok (.getfield 86, 3) := by decide +kernel
theorem dX7_finds_62 : decode cX7_finds 62 = .ok (.iload_n 1, 1) := by decide +kernel
theorem dX7_finds_63 : decode cX7_finds 63 = .ok (.iaload, 1) := by decide +kernel
theorem dX7_finds_64 : decode cX7_finds 64 = .ok (.iload_n 2, 1) := by decide +kernel
theorem dX7_finds_65 : decode cX7_finds 65 = .ok (.invokevirtual 234, 3) := by decide +kernel
theorem dX7_finds_68 : decode cX7_finds 68 = .ok (.ifCond .eq 18, 3) := by decide +kernel
theorem dX7_finds_71 : decode cX7_finds 71 = .ok (.aload_n 0, 1) := by decide +kernel
theorem dX7_finds_72 : decode cX7_finds 72 = .ok (.getfield 101, 3) := by decide +kernel
theorem dX7_finds_75 : decode cX7_finds 75 = .ok (.iload_n 1, 1) := by decide +kernel
theorem dX7_finds_76 : decode cX7_finds 76 = .ok (.iaload, 1) := by decide +kernel
theorem dX7_finds_77 : decode cX7_finds 77 = .ok (.bipush 12, 2) := by decide +kernel
theorem dX7_finds_79 : decode cX7_finds 79 = .ok (.if_icmp .ge 7, 3) := by decide +kernel
theorem dX7_finds_82 : decode cX7_finds 82 = .ok (.iconst 0, 1) := by decide +kernel
theorem dX7_finds_83 : decode cX7_finds 83 = .ok (.goto 4, 3) := by decide +kernel
theorem dX7_finds_86 : decode cX7_finds 86 = .ok (.iconst 3, 1) := by decide +kernel
theorem dX7_finds_87 : decode cX7_finds 87 = .ok (.putfield 128, 3) := by decide +kernel
theorem dX7_finds_90 : decode cX7_finds 90 = .ok (.aload_n 0, 1) := by decide +kernel
theorem dX7_finds_91 : decode cX7_finds 91 = .ok (.getfield 128, 3) := by decide +kernel
theorem dX7_finds_94 : decode cX7_finds 94 = .ok (.ifCond .le 5, 3) := by decide +kernel
theorem dX7_finds_97 : decode cX7_finds 97 = .ok (.iconst 0, 1) := by decide +kernel
theorem dX7_finds_98 : decode cX7_finds 98 = .ok (.ireturn, 1) := by decide +kernel
theorem dX7_finds_99 : decode cX7_finds 99 = .ok (.aload_n 0, 1) := by decide +kernel
theorem dX7_finds_100 : decode cX7_finds 100 = .ok (.getfield 104, 3) := by decide +kernel
theorem dX7_finds_103 : decode cX7_finds 103 = .ok (.bipush 12, 2) := by decide +kernel
theorem dX7_finds_105 : decode cX7_finds 105 = .ok (.iload_n 1, 1) := by decide +kernel
theorem dX7_finds_106 : decode cX7_finds 106 = .ok (.imul, 1) := by decide +kernel
theorem dX7_finds_107 : decode cX7_finds 107 = .ok (.aload_n 0, 1) := by decide +kernel
theorem dX7_finds_108 : decode cX7_finds 108 = .ok (.getfield 101, 3) := by decide +kernel
theorem dX7_finds_111 : decode cX7_finds 111 = .ok (.iload_n 1, 1) := by decide +kernel
theorem dX7_finds_112 : decode cX7_finds 112 = .ok (.iaload, 1) := by decide +kernel
theorem dX7_finds_113 : decode cX7_finds 113 = .ok (.iadd, 1) := by decide +kernel
theorem dX7_finds_114 : decode cX7_finds 114 = .ok (.iload_n 3, 1) := by decide +kernel
theorem dX7_finds_115 : decode cX7_finds 115 = .ok (.iastore, 1) := by decide +kernel
theorem dX7_finds_116 : decode cX7_finds 116 = .ok (.aload_n 0, 1) := by decide +kernel
theorem dX7_finds_117 : decode cX7_finds 117 = .ok (.getfield 107, 3) := by decide +kernel
theorem dX7_finds_120 : decode cX7_finds 120 = .ok (.bipush 12, 2) := by decide +kernel
theorem dX7_finds_122 : decode cX7_finds 122 = .ok (.iload_n 1, 1) := by decide +kernel
theorem dX7_finds_123 : decode cX7_finds 123 = .ok (.imul, 1) := by decide +kernel
theorem dX7_finds_124 : decode cX7_finds 124 = .ok (.aload_n 0, 1) := by decide +kernel
theorem dX7_finds_125 : decode cX7_finds 125 = .ok (.getfield 101, 3) := by decide +kernel
theorem dX7_finds_128 : decode cX7_finds 128 = .ok (.iload_n 1, 1) := by decide +kernel
theorem dX7_finds_129 : decode cX7_finds 129 = .ok (.iaload, 1) := by decide +kernel
theorem dX7_finds_130 : decode cX7_finds 130 = .ok (.iadd, 1) := by decide +kernel
theorem dX7_finds_131 : decode cX7_finds 131 = .ok (.iconst 0, 1) := by decide +kernel
theorem dX7_finds_132 : decode cX7_finds 132 = .ok (.iastore, 1) := by decide +kernel
theorem dX7_finds_133 : decode cX7_finds 133 = .ok (.aload_n 0, 1) := by decide +kernel
theorem dX7_finds_134 : decode cX7_finds 134 = .ok (.getfield 101, 3) := by decide +kernel
theorem dX7_finds_137 : decode cX7_finds 137 = .ok (.iload_n 1, 1) := by decide +kernel
theorem dX7_finds_138 : decode cX7_finds 138 = .ok (.dup2, 1) := by decide +kernel
theorem dX7_finds_139 : decode cX7_finds 139 = .ok (.iaload, 1) := by decide +kernel
theorem dX7_finds_140 : decode cX7_finds 140 = .ok (.iconst 1, 1) := by decide +kernel
theorem dX7_finds_141 : decode cX7_finds 141 = .ok (.iadd, 1) := by decide +kernel
theorem dX7_finds_142 : decode cX7_finds 142 = .ok (.iastore, 1) := by decide +kernel
theorem dX7_finds_143 : decode cX7_finds 143 = .ok (.aload_n 0, 1) := by decide +kernel
theorem dX7_finds_144 : decode cX7_finds 144 = .ok (.getfield 95, 3) := by decide +kernel
theorem dX7_finds_147 : decode cX7_finds 147 = .ok (.iload_n 1, 1) := by decide +kernel
theorem dX7_finds_148 : decode cX7_finds 148 = .ok (.aload_n 0, 1) := by decide +kernel
theorem dX7_finds_149 : decode cX7_finds 149 = .ok (.getfield 95, 3) := by decide +kernel
theorem dX7_finds_152 : decode cX7_finds 152 = .ok (.iload_n 1, 1) := by decide +kernel
theorem dX7_finds_153 : decode cX7_finds 153 = .ok (.iaload, 1) := by decide +kernel
theorem dX7_finds_154 : decode cX7_finds 154 = .ok (.ifCond .ne 17, 3) := by decide +kernel
theorem dX7_finds_157 : decode cX7_finds 157 = .ok (.aload_n 0, 1) := by decide +kernel
theorem dX7_finds_158 : decode cX7_finds 158 = .ok (.getfield 101, 3) := by decide +kernel
theorem dX7_finds_161 : decode cX7_finds 161 = .ok (.iload_n 1, 1) := by decide +kernel
theorem dX7_finds_162 : decode cX7_finds 162 = .ok (.iaload, 1) := by decide +kernel
theorem dX7_finds_163 : decode cX7_finds 163 = .ok (.iconst 3, 1) := by decide +kernel
theorem dX7_finds_164 : decode cX7_finds 164 = .ok (.if_icmp .ne 7, 3) := by decide +kernel
theorem dX7_finds_167 : decode cX7_finds 167 = .ok (.iconst 1, 1) := by decide +kernel
theorem dX7_finds_168 : decode cX7_finds 168 = .ok (.goto 9, 3) := by decide +kernel
theorem dX7_finds_171 : decode cX7_finds 171 = .ok (.aload_n 0, 1) := by decide +kernel
theorem dX7_finds_172 : decode cX7_finds 172 = .ok (.getfield 95, 3) := by decide +kernel
theorem dX7_finds_175 : decode cX7_finds 175 = .ok (.iload_n 1, 1) := by decide +kernel
theorem dX7_finds_176 : decode cX7_finds 176 = .ok (.iaload, 1) := by decide +kernel
theorem dX7_finds_177 : decode cX7_finds 177 = .ok (.iastore, 1) := by decide +kernel
theorem dX7_finds_178 : decode cX7_finds 178 = .ok (.aload_n 0, 1) := by decide +kernel
theorem dX7_finds_179 : decode cX7_finds 179 = .ok (.getfield 101, 3) := by decide +kernel
theorem dX7_finds_182 : decode cX7_finds 182 = .ok (.iload_n 1, 1) := by decide +kernel
theorem dX7_finds_183 : decode cX7_finds 183 = .ok (.iaload, 1) := by decide +kernel
theorem dX7_finds_184 : decode cX7_finds 184 = .ok (.iconst 1, 1) := by decide +kernel
theorem dX7_finds_185 : decode cX7_finds 185 = .ok (.isub, 1) := by decide +kernel
theorem dX7_finds_186 : decode cX7_finds 186 = .ok (.ireturn, 1) := by decide +kernel
theorem dX7_openOf_0 : decode cX7_openOf 0 = .ok (.iconst 0, 1) := by decide +kernel
theorem dX7_openOf_1 : decode cX7_openOf 1 = .ok (.istore_n 2, 1) := by decide +kernel
theorem dX7_openOf_2 : decode cX7_openOf 2 = .ok (.iconst 0, 1) := by decide +kernel
theorem dX7_openOf_3 : decode cX7_openOf 3 = .ok (.istore_n 3, 1) := by decide +kernel
theorem dX7_openOf_4 : decode cX7_openOf 4 = .ok (.iload_n 3, 1) := by decide +kernel
theorem dX7_openOf_5 : decode cX7_openOf 5 = .ok (.aload_n 0, 1) := by decide +kernel
theorem dX7_openOf_6 : decode cX7_openOf 6 = .ok (.getfield 101, 3) := by decide +kernel
theorem dX7_openOf_9 : decode cX7_openOf 9 = .ok (.iload_n 1, 1) := by decide +kernel
theorem dX7_openOf_10 : decode cX7_openOf 10 = .ok (.iaload, 1) := by decide +kernel
theorem dX7_openOf_11 : decode cX7_openOf 11 = .ok (.if_icmp .ge 31, 3) := by decide +kernel
theorem dX7_openOf_14 : decode cX7_openOf 14 = .ok (.iload_n 2, 1) := by decide +kernel
theorem dX7_openOf_15 : decode cX7_openOf 15 = .ok (.aload_n 0, 1) := by decide +kernel
theorem dX7_openOf_16 : decode cX7_openOf 16 = .ok (.getfield 107, 3) := by decide +kernel
theorem dX7_openOf_19 : decode cX7_openOf 19 = .ok (.bipush 12, 2) := by decide +kernel
theorem dX7_openOf_21 : decode cX7_openOf 21 = .ok (.iload_n 1, 1) := by decide +kernel
theorem dX7_openOf_22 : decode cX7_openOf 22 = .ok (.imul, 1) := by decide +kernel
theorem dX7_openOf_23 : decode cX7_openOf 23 = .ok (.iload_n 3, 1) := by decide +kernel
theorem dX7_openOf_24 : decode cX7_openOf 24 = .ok (.iadd, 1) := by decide +kernel
theorem dX7_openOf_25 : decode cX7_openOf 25 = .ok (.iaload, 1) := by decide +kernel
theorem dX7_openOf_26 : decode cX7_openOf 26 = .ok (.ifCond .ne 7, 3) := by decide +kernel
theorem dX7_openOf_29 : decode cX7_openOf 29 = .ok (.iconst 1, 1) := by decide +kernel
theorem dX7_openOf_30 : decode cX7_openOf 30 = .ok (.goto 4, 3) := by decide +kernel
theorem dX7_openOf_33 : decode cX7_openOf 33 = .ok (.iconst 0, 1) := by decide +kernel
theorem dX7_openOf_34 : decode cX7_openOf 34 = .ok (.iadd, 1) := by decide +kernel
theorem dX7_openOf_35 : decode cX7_openOf 35 = .ok (.istore_n 2, 1) := by decide +kernel
theorem dX7_openOf_36 : decode cX7_openOf 36 = .ok (.iinc 3 1, 3) := by decide +kernel
theorem dX7_openOf_39 : decode cX7_openOf 39 = .ok (.goto (-35), 3) := by decide +kernel
theorem dX7_openOf_42 : decode cX7_openOf 42 = .ok (.iload_n 2, 1) := by decide +kernel
theorem dX7_openOf_43 : decode cX7_openOf 43 = .ok (.ireturn, 1) := by decide +kernel
theorem dX7_openWeights_0 : decode cX7_openWeights 0 = .ok (.iconst 0, 1) := by decide +kernel
theorem dX7_openWeights_1 : decode cX7_openWeights 1 = .ok (.istore_n 2, 1) := by decide +kernel
theorem dX7_openWeights_2 : decode cX7_openWeights 2 = .ok (.iconst 0, 1) := by decide +kernel
theorem dX7_openWeights_3 : decode cX7_openWeights 3 = .ok (.istore_n 3, 1) := by decide +kernel
theorem dX7_openWeights_4 : decode cX7_openWeights 4 = .ok (.iload_n 3, 1) := by decide +kernel
theorem dX7_openWeights_5 : decode cX7_openWeights 5 = .ok (.aload_n 0, 1) := by decide +kernel
theorem dX7_openWeights_6 : decode cX7_openWeights 6 = .ok (.getfield 101, 3) := by decide +kernel
theorem dX7_openWeights_9 : decode cX7_openWeights 9 = .ok (.iload_n 1, 1) := by decide +kernel
theorem dX7_openWeights_10 : decode cX7_openWeights 10 = .ok (.iaload, 1) := by decide +kernel
theorem dX7_openWeights_11 : decode cX7_openWeights 11 = .ok (.if_icmp .ge 41, 3) := by decide +kernel
theorem dX7_openWeights_14 : decode cX7_openWeights 14 = .ok (.iload_n 2, 1) := by decide +kernel
theorem dX7_openWeights_15 : decode cX7_openWeights 15 = .ok (.aload_n 0, 1) := by decide +kernel
theorem dX7_openWeights_16 : decode cX7_openWeights 16 = .ok (.getfield 107, 3) := by decide +kernel
theorem dX7_openWeights_19 : decode cX7_openWeights 19 = .ok (.bipush 12, 2) := by decide +kernel
theorem dX7_openWeights_21 : decode cX7_openWeights 21 = .ok (.iload_n 1, 1) := by decide +kernel
theorem dX7_openWeights_22 : decode cX7_openWeights 22 = .ok (.imul, 1) := by decide +kernel
theorem dX7_openWeights_23 : decode cX7_openWeights 23 = .ok (.iload_n 3, 1) := by decide +kernel
theorem dX7_openWeights_24 : decode cX7_openWeights 24 = .ok (.iadd, 1) := by decide +kernel
theorem dX7_openWeights_25 : decode cX7_openWeights 25 = .ok (.iaload, 1) := by decide +kernel
theorem dX7_openWeights_26 : decode cX7_openWeights 26 = .ok (.ifCond .ne 17, 3) := by decide +kernel
theorem dX7_openWeights_29 : decode cX7_openWeights 29 = .ok (.aload_n 0, 1) := by decide +kernel
theorem dX7_openWeights_30 : decode cX7_openWeights 30 = .ok (.getfield 104, 3) := by decide +kernel
theorem dX7_openWeights_33 : decode cX7_openWeights 33 = .ok (.bipush 12, 2) := by decide +kernel
theorem dX7_openWeights_35 : decode cX7_openWeights 35 = .ok (.iload_n 1, 1) := by decide +kernel
theorem dX7_openWeights_36 : decode cX7_openWeights 36 = .ok (.imul, 1) := by decide +kernel
theorem dX7_openWeights_37 : decode cX7_openWeights 37 = .ok (.iload_n 3, 1) := by decide +kernel
theorem dX7_openWeights_38 : decode cX7_openWeights 38 = .ok (.iadd, 1) := by decide +kernel
theorem dX7_openWeights_39 : decode cX7_openWeights 39 = .ok (.iaload, 1) := by decide +kernel
theorem dX7_openWeights_40 : decode cX7_openWeights 40 = .ok (.goto 4, 3) := by decide +kernel
theorem dX7_openWeights_43 : decode cX7_openWeights 43 = .ok (.iconst 0, 1) := by decide +kernel
theorem dX7_openWeights_44 : decode cX7_openWeights 44 = .ok (.iadd, 1) := by decide +kernel
theorem dX7_openWeights_45 : decode cX7_openWeights 45 = .ok (.istore_n 2, 1) := by decide +kernel
theorem dX7_openWeights_46 : decode cX7_openWeights 46 = .ok (.iinc 3 1, 3) := by decide +kernel
theorem dX7_openWeights_49 : decode cX7_openWeights 49 = .ok (.goto (-45), 3) := by decide +kernel
theorem dX7_openWeights_52 : decode cX7_openWeights 52 = .ok (.iload_n 2, 1) := by decide +kernel
theorem dX7_openWeights_53 : decode cX7_openWeights 53 = .ok (.ireturn, 1) := by decide +kernel
theorem dX7_mends_0 : decode cX7_mends 0 = .ok (.aload_n 0, 1) := by decide +kernel
theorem dX7_mends_1 : decode cX7_mends 1 = .ok (.aload_n 0, 1) := by decide +kernel
theorem dX7_mends_2 : decode cX7_mends 2 = .ok (.iload_n 1, 1) := by decide +kernel
theorem dX7_mends_3 : decode cX7_mends 3 = .ok (.invokevirtual 228, 3) := by decide +kernel
theorem dX7_mends_6 : decode cX7_mends 6 = .ok (.ifCond .eq 23, 3) := by decide +kernel
theorem dX7_mends_9 : decode cX7_mends 9 = .ok (.iload_n 2, 1) := by decide +kernel
theorem dX7_mends_10 : decode cX7_mends 10 = .ok (.iconst 0, 1) := by decide +kernel
theorem dX7_mends_11 : decode cX7_mends 11 = .ok (.aload_n 0, 1) := by decide +kernel
theorem dX7_mends_12 : decode cX7_mends 12 = .ok (.getfield 101, 3) := by decide +kernel
theorem dX7_mends_15 : decode cX7_mends 15 = .ok (.iload_n 1, 1) := by decide +kernel
theorem dX7_mends_16 : decode cX7_mends 16 = .ok (.iaload, 1) := by decide +kernel
theorem dX7_mends_17 : decode cX7_mends 17 = .ok (.iconst 1, 1) := by decide +kernel
theorem dX7_mends_18 : decode cX7_mends 18 = .ok (.isub, 1) := by decide +kernel
theorem dX7_mends_19 : decode cX7_mends 19 = .ok (.invokestatic 135, 3) := by decide +kernel
theorem dX7_mends_22 : decode cX7_mends 22 = .ok (.ifCond .eq 7, 3) := by decide +kernel
theorem dX7_mends_25 : decode cX7_mends 25 = .ok (.iconst 0, 1) := by decide +kernel
theorem dX7_mends_26 : decode cX7_mends 26 = .ok (.goto 4, 3) := by decide +kernel
theorem dX7_mends_29 : decode cX7_mends 29 = .ok (.iconst 1, 1) := by decide +kernel
theorem dX7_mends_30 : decode cX7_mends 30 = .ok (.putfield 128, 3) := by decide +kernel
theorem dX7_mends_33 : decode cX7_mends 33 = .ok (.aload_n 0, 1) := by decide +kernel
theorem dX7_mends_34 : decode cX7_mends 34 = .ok (.getfield 128, 3) := by decide +kernel
theorem dX7_mends_37 : decode cX7_mends 37 = .ok (.ifCond .ne 78, 3) := by decide +kernel
theorem dX7_mends_40 : decode cX7_mends 40 = .ok (.bipush 12, 2) := by decide +kernel
theorem dX7_mends_42 : decode cX7_mends 42 = .ok (.iload_n 1, 1) := by decide +kernel
theorem dX7_mends_43 : decode cX7_mends 43 = .ok (.imul, 1) := by decide +kernel
theorem dX7_mends_44 : decode cX7_mends 44 = .ok (.iload_n 2, 1) := by decide +kernel
theorem dX7_mends_45 : decode cX7_mends 45 = .ok (.iadd, 1) := by decide +kernel
theorem dX7_mends_46 : decode cX7_mends 46 = .ok (.istore 4, 2) := by decide +kernel
theorem dX7_mends_48 : decode cX7_mends 48 = .ok (.iload_n 3, 1) := by decide +kernel
theorem dX7_mends_49 : decode cX7_mends 49 = .ok (.ifCond .eq 38, 3) := by decide +kernel
theorem dX7_mends_52 : decode cX7_mends 52 = .ok (.aload_n 0, 1) := by decide +kernel
theorem dX7_mends_53 : decode cX7_mends 53 = .ok (.getfield 107, 3) := by decide +kernel
theorem dX7_mends_56 : decode cX7_mends 56 = .ok (.iload 4, 2) := by decide +kernel
theorem dX7_mends_58 : decode cX7_mends 58 = .ok (.iaload, 1) := by decide +kernel
theorem dX7_mends_59 : decode cX7_mends 59 = .ok (.iconst 2, 1) := by decide +kernel
theorem dX7_mends_60 : decode cX7_mends 60 = .ok (.if_icmp .eq 23, 3) := by decide +kernel
theorem dX7_mends_63 : decode cX7_mends 63 = .ok (.aload_n 0, 1) := by decide +kernel
theorem dX7_mends_64 : decode cX7_mends 64 = .ok (.getfield 104, 3) := by decide +kernel
theorem dX7_mends_67 : decode cX7_mends 67 = .ok (.iload 4, 2) := by decide +kernel
theorem dX7_mends_69 : decode cX7_mends 69 = .ok (.iaload, 1) := by decide +kernel
theorem dX7_mends_70 : decode cX7_mends 70 = .ok (.bipush 8, 2) := by decide +kernel
theorem dX7_mends_72 : decode cX7_mends 72 = .ok (.if_icmp .ge 11, 3) := by decide +kernel
theorem dX7_mends_75 : decode cX7_mends 75 = .ok (.aload_n 0, 1) := by decide +kernel
theorem dX7_mends_76 : decode cX7_mends 76 = .ok (.iload_n 1, 1) := by decide +kernel
theorem dX7_mends_77 : decode cX7_mends 77 = .ok (.invokevirtual 231, 3) := by decide +kernel
theorem dX7_mends_80 : decode cX7_mends 80 = .ok (.ifCond .ne 7, 3) := by decide +kernel
theorem dX7_mends_83 : decode cX7_mends 83 = .ok (.iconst 1, 1) := by decide +kernel
theorem dX7_mends_84 : decode cX7_mends 84 = .ok (.goto 4, 3) := by decide +kernel
theorem dX7_mends_87 : decode cX7_mends 87 = .ok (.iconst 0, 1) := by decide +kernel
theorem dX7_mends_88 : decode cX7_mends 88 = .ok (.istore 5, 2) := by decide +kernel
theorem dX7_mends_90 : decode cX7_mends 90 = .ok (.aload_n 0, 1) := by decide +kernel
theorem dX7_mends_91 : decode cX7_mends 91 = .ok (.aload_n 0, 1) := by decide +kernel
theorem dX7_mends_92 : decode cX7_mends 92 = .ok (.getfield 107, 3) := by decide +kernel
theorem dX7_mends_95 : decode cX7_mends 95 = .ok (.iload 4, 2) := by decide +kernel
theorem dX7_mends_97 : decode cX7_mends 97 = .ok (.iaload, 1) := by decide +kernel
theorem dX7_mends_98 : decode cX7_mends 98 = .ok (.iconst 1, 1) := by decide +kernel
theorem dX7_mends_99 : decode cX7_mends 99 = .ok (.if_icmp .eq 8, 3) := by decide +kernel
theorem dX7_mends_102 : decode cX7_mends 102 = .ok (.iload 5, 2) := by decide +kernel
theorem dX7_mends_104 : decode cX7_mends 104 = .ok (.ifCond .eq 7, 3) := by decide +kernel
theorem dX7_mends_107 : decode cX7_mends 107 = .ok (.iconst 2, 1) := by decide +kernel
theorem dX7_mends_108 : decode cX7_mends 108 = .ok (.goto 4, 3) := by decide +kernel
theorem dX7_mends_111 : decode cX7_mends 111 = .ok (.iconst 0, 1) := by decide +kernel
theorem dX7_mends_112 : decode cX7_mends 112 = .ok (.putfield 128, 3) := by decide +kernel
theorem dX7_mends_115 : decode cX7_mends 115 = .ok (.aload_n 0, 1) := by decide +kernel
theorem dX7_mends_116 : decode cX7_mends 116 = .ok (.getfield 128, 3) := by decide +kernel
theorem dX7_mends_119 : decode cX7_mends 119 = .ok (.ifCond .le 5, 3) := by decide +kernel
theorem dX7_mends_122 : decode cX7_mends 122 = .ok (.iconst 0, 1) := by decide +kernel
theorem dX7_mends_123 : decode cX7_mends 123 = .ok (.ireturn, 1) := by decide +kernel
theorem dX7_mends_124 : decode cX7_mends 124 = .ok (.aload_n 0, 1) := by decide +kernel
theorem dX7_mends_125 : decode cX7_mends 125 = .ok (.getfield 107, 3) := by decide +kernel
theorem dX7_mends_128 : decode cX7_mends 128 = .ok (.bipush 12, 2) := by decide +kernel
theorem dX7_mends_130 : decode cX7_mends 130 = .ok (.iload_n 1, 1) := by decide +kernel
theorem dX7_mends_131 : decode cX7_mends 131 = .ok (.imul, 1) := by decide +kernel
theorem dX7_mends_132 : decode cX7_mends 132 = .ok (.iload_n 2, 1) := by decide +kernel
theorem dX7_mends_133 : decode cX7_mends 133 = .ok (.iadd, 1) := by decide +kernel
theorem dX7_mends_134 : decode cX7_mends 134 = .ok (.iload_n 3, 1) := by decide +kernel
theorem dX7_mends_135 : decode cX7_mends 135 = .ok (.ifCond .eq 7, 3) := by decide +kernel
theorem dX7_mends_138 : decode cX7_mends 138 = .ok (.iconst 2, 1) := by decide +kernel
theorem dX7_mends_139 : decode cX7_mends 139 = .ok (.goto 4, 3) := by decide +kernel
theorem dX7_mends_142 : decode cX7_mends 142 = .ok (.iconst 1, 1) := by decide +kernel
theorem dX7_mends_143 : decode cX7_mends 143 = .ok (.iastore, 1) := by decide +kernel
theorem dX7_mends_144 : decode cX7_mends 144 = .ok (.aload_n 0, 1) := by decide +kernel
theorem dX7_mends_145 : decode cX7_mends 145 = .ok (.iload_n 1, 1) := by decide +kernel
theorem dX7_mends_146 : decode cX7_mends 146 = .ok (.invokevirtual 237, 3) := by decide +kernel
theorem dX7_mends_149 : decode cX7_mends 149 = .ok (.ireturn, 1) := by decide +kernel
theorem dX7_detain_0 : decode cX7_detain 0 = .ok (.aload_n 0, 1) := by decide +kernel
theorem dX7_detain_1 : decode cX7_detain 1 = .ok (.aload_n 0, 1) := by decide +kernel
theorem dX7_detain_2 : decode cX7_detain 2 = .ok (.iload_n 1, 1) := by decide +kernel
theorem dX7_detain_3 : decode cX7_detain 3 = .ok (.invokevirtual 228, 3) := by decide +kernel
theorem dX7_detain_6 : decode cX7_detain 6 = .ok (.ifCond .eq 7, 3) := by decide +kernel
theorem dX7_detain_9 : decode cX7_detain 9 = .ok (.iconst 0, 1) := by decide +kernel
theorem dX7_detain_10 : decode cX7_detain 10 = .ok (.goto 4, 3) := by decide +kernel
theorem dX7_detain_13 : decode cX7_detain 13 = .ok (.iconst 1, 1) := by decide +kernel
theorem dX7_detain_14 : decode cX7_detain 14 = .ok (.putfield 128, 3) := by decide +kernel
theorem dX7_detain_17 : decode cX7_detain 17 = .ok (.aload_n 0, 1) := by decide +kernel
theorem dX7_detain_18 : decode cX7_detain 18 = .ok (.getfield 128, 3) := by decide +kernel
theorem dX7_detain_21 : decode cX7_detain 21 = .ok (.ifCond .ne 63, 3) := by decide +kernel
theorem dX7_detain_24 : decode cX7_detain 24 = .ok (.aload_n 0, 1) := by decide +kernel
theorem dX7_detain_25 : decode cX7_detain 25 = .ok (.iload_n 1, 1) := by decide +kernel
theorem dX7_detain_26 : decode cX7_detain 26 = .ok (.invokevirtual 240, 3) := by decide +kernel
theorem dX7_detain_29 : decode cX7_detain 29 = .ok (.bipush 10, 2) := by decide +kernel
theorem dX7_detain_31 : decode cX7_detain 31 = .ok (.if_icmp .ge 16, 3) := by decide +kernel
theorem dX7_detain_34 : decode cX7_detain 34 = .ok (.aload_n 0, 1) := by decide +kernel
theorem dX7_detain_35 : decode cX7_detain 35 = .ok (.aload_n 0, 1) := by decide +kernel
theorem dX7_detain_36 : decode cX7_detain 36 = .ok (.getfield 86, 3) := by decide +kernel
theorem dX7_detain_39 : decode cX7_detain 39 = .ok (.iload_n 1, 1) := by decide +kernel
theorem dX7_detain_40 : decode cX7_detain 40 = .ok (.iaload, 1) := by decide +kernel
theorem dX7_detain_41 : decode cX7_detain 41 = .ok (.invokevirtual 222, 3) := by decide +kernel
theorem dX7_detain_44 : decode cX7_detain 44 = .ok (.ifCond .eq 7, 3) := by decide +kernel
theorem dX7_detain_47 : decode cX7_detain 47 = .ok (.iconst 1, 1) := by decide +kernel
theorem dX7_detain_48 : decode cX7_detain 48 = .ok (.goto 4, 3) := by decide +kernel
theorem dX7_detain_51 : decode cX7_detain 51 = .ok (.iconst 0, 1) := by decide +kernel
theorem dX7_detain_52 : decode cX7_detain 52 = .ok (.istore_n 2, 1) := by decide +kernel
theorem dX7_detain_53 : decode cX7_detain 53 = .ok (.aload_n 0, 1) := by decide +kernel
theorem dX7_detain_54 : decode cX7_detain 54 = .ok (.aload_n 0, 1) := by decide +kernel
theorem dX7_detain_55 : decode cX7_detain 55 = .ok (.iload_n 1, 1) := by decide +kernel
theorem dX7_detain_56 : decode cX7_detain 56 = .ok (.invokevirtual 231, 3) := by decide +kernel
theorem dX7_detain_59 : decode cX7_detain 59 = .ok (.ifCond .eq 21, 3) := by decide +kernel
theorem dX7_detain_62 : decode cX7_detain 62 = .ok (.aload_n 0, 1) := by decide +kernel
theorem dX7_detain_63 : decode cX7_detain 63 = .ok (.getfield 110, 3) := by decide +kernel
theorem dX7_detain_66 : decode cX7_detain 66 = .ok (.iload_n 1, 1) := by decide +kernel
theorem dX7_detain_67 : decode cX7_detain 67 = .ok (.iaload, 1) := by decide +kernel
theorem dX7_detain_68 : decode cX7_detain 68 = .ok (.iconst (-1), 1) := by decide +kernel
theorem dX7_detain_69 : decode cX7_detain 69 = .ok (.if_icmp .ne 11, 3) := by decide +kernel
theorem dX7_detain_72 : decode cX7_detain 72 = .ok (.iload_n 2, 1) := by decide +kernel
theorem dX7_detain_73 : decode cX7_detain 73 = .ok (.ifCond .eq 7, 3) := by decide +kernel
theorem dX7_detain_76 : decode cX7_detain 76 = .ok (.iconst 0, 1) := by decide +kernel
theorem dX7_detain_77 : decode cX7_detain 77 = .ok (.goto 4, 3) := by decide +kernel
theorem dX7_detain_80 : decode cX7_detain 80 = .ok (.iconst 2, 1) := by decide +kernel
theorem dX7_detain_81 : decode cX7_detain 81 = .ok (.putfield 128, 3) := by decide +kernel
theorem dX7_detain_84 : decode cX7_detain 84 = .ok (.aload_n 0, 1) := by decide +kernel
theorem dX7_detain_85 : decode cX7_detain 85 = .ok (.getfield 128, 3) := by decide +kernel
theorem dX7_detain_88 : decode cX7_detain 88 = .ok (.ifCond .le 5, 3) := by decide +kernel
theorem dX7_detain_91 : decode cX7_detain 91 = .ok (.iconst 0, 1) := by decide +kernel
theorem dX7_detain_92 : decode cX7_detain 92 = .ok (.ireturn, 1) := by decide +kernel
theorem dX7_detain_93 : decode cX7_detain 93 = .ok (.aload_n 0, 1) := by decide +kernel
theorem dX7_detain_94 : decode cX7_detain 94 = .ok (.getfield 110, 3) := by decide +kernel
theorem dX7_detain_97 : decode cX7_detain 97 = .ok (.iload_n 1, 1) := by decide +kernel
theorem dX7_detain_98 : decode cX7_detain 98 = .ok (.aload_n 0, 1) := by decide +kernel
theorem dX7_detain_99 : decode cX7_detain 99 = .ok (.getfield 142, 3) := by decide +kernel
theorem dX7_detain_102 : decode cX7_detain 102 = .ok (.iastore, 1) := by decide +kernel
theorem dX7_detain_103 : decode cX7_detain 103 = .ok (.aload_n 0, 1) := by decide +kernel
theorem dX7_detain_104 : decode cX7_detain 104 = .ok (.getfield 41, 3) := by decide +kernel
theorem dX7_detain_107 : decode cX7_detain 107 = .ok (.aload_n 0, 1) := by decide +kernel
theorem dX7_detain_108 : decode cX7_detain 108 = .ok (.getfield 86, 3) := by decide +kernel
theorem dX7_detain_111 : decode cX7_detain 111 = .ok (.iload_n 1, 1) := by decide +kernel
theorem dX7_detain_112 : decode cX7_detain 112 = .ok (.iaload, 1) := by decide +kernel
theorem dX7_detain_113 : decode cX7_detain 113 = .ok (.iload_n 1, 1) := by decide +kernel
theorem dX7_detain_114 : decode cX7_detain 114 = .ok (.iastore, 1) := by decide +kernel
theorem dX7_detain_115 : decode cX7_detain 115 = .ok (.aload_n 0, 1) := by decide +kernel
theorem dX7_detain_116 : decode cX7_detain 116 = .ok (.aload_n 0, 1) := by decide +kernel
theorem dX7_detain_117 : decode cX7_detain 117 = .ok (.getfield 86, 3) := by decide +kernel
theorem dX7_detain_120 : decode cX7_detain 120 = .ok (.iload_n 1, 1) := by decide +kernel
theorem dX7_detain_121 : decode cX7_detain 121 = .ok (.iaload, 1) := by decide +kernel
theorem dX7_detain_122 : decode cX7_detain 122 = .ok (.invokevirtual 243, 3) := by decide +kernel
theorem dX7_detain_125 : decode cX7_detain 125 = .ok (.aload_n 0, 1) := by decide +kernel
theorem dX7_detain_126 : decode cX7_detain 126 = .ok (.aload_n 0, 1) := by decide +kernel
theorem dX7_detain_127 : decode cX7_detain 127 = .ok (.getfield 86, 3) := by decide +kernel
theorem dX7_detain_130 : decode cX7_detain 130 = .ok (.iload_n 1, 1) := by decide +kernel
theorem dX7_detain_131 : decode cX7_detain 131 = .ok (.iaload, 1) := by decide +kernel
theorem dX7_detain_132 : decode cX7_detain 132 = .ok (.invokevirtual 204, 3) := by decide +kernel
theorem dX7_detain_135 : decode cX7_detain 135 = .ok (.ireturn, 1) := by decide +kernel
theorem dX7_looksForBan_0 : decode cX7_looksForBan 0 = .ok (.iconst 0, 1) := by decide +kernel
theorem dX7_looksForBan_1 : decode cX7_looksForBan 1 = .ok (.istore_n 2, 1) := by decide +kernel
theorem dX7_looksForBan_2 : decode cX7_looksForBan 2 = .ok (.iconst 0, 1) := by decide +kernel
theorem dX7_looksForBan_3 : decode cX7_looksForBan 3 = .ok (.istore_n 3, 1) := by decide +kernel
theorem dX7_looksForBan_4 : decode cX7_looksForBan 4 = .ok (.iload_n 3, 1) := by decide +kernel
theorem dX7_looksForBan_5 : decode cX7_looksForBan 5 = .ok (.aload_n 0, 1) := by decide +kernel
theorem dX7_looksForBan_6 : decode cX7_looksForBan 6 = .ok (.getfield 139, 3) := by decide +kernel
theorem dX7_looksForBan_9 : decode cX7_looksForBan 9 = .ok (.if_icmp .ge 52, 3) := by decide +kernel
theorem dX7_looksForBan_12 : decode cX7_looksForBan 12 = .ok (.iload_n 2, 1) := by decide +kernel
theorem dX7_looksForBan_13 : decode cX7_looksForBan 13 = .ok (.aload_n 0, 1) := by decide +kernel
theorem dX7_looksForBan_14 : decode cX7_looksForBan 14 = .ok (.getfield 86, 3) := by decide +kernel
theorem dX7_looksForBan_17 : decode cX7_looksForBan 17 = .ok (.iload_n 3, 1) := by decide +kernel
theorem dX7_looksForBan_18 : decode cX7_looksForBan 18 = .ok (.iaload, 1) := by decide +kernel
theorem dX7_looksForBan_19 : decode cX7_looksForBan 19 = .ok (.iload_n 1, 1) := by decide +kernel
theorem dX7_looksForBan_20 : decode cX7_looksForBan 20 = .ok (.if_icmp .ne 32, 3) := by decide +kernel
theorem dX7_looksForBan_23 : decode cX7_looksForBan 23 = .ok (.aload_n 0, 1) := by decide +kernel
theorem dX7_looksForBan_24 : decode cX7_looksForBan 24 = .ok (.iload_n 3, 1) := by decide +kernel
theorem dX7_looksForBan_25 : decode cX7_looksForBan 25 = .ok (.invokevirtual 189, 3) := by decide +kernel
theorem dX7_looksForBan_28 : decode cX7_looksForBan 28 = .ok (.ifCond .eq 24, 3) := by decide +kernel
theorem dX7_looksForBan_31 : decode cX7_looksForBan 31 = .ok (.aload_n 0, 1) := by decide +kernel
theorem dX7_looksForBan_32 : decode cX7_looksForBan 32 = .ok (.iload_n 3, 1) := by decide +kernel
theorem dX7_looksForBan_33 : decode cX7_looksForBan 33 = .ok (.invokevirtual 192, 3) := by decide +kernel
theorem dX7_looksForBan_36 : decode cX7_looksForBan 36 = .ok (.ifCond .eq 16, 3) := by decide +kernel
theorem dX7_looksForBan_39 : decode cX7_looksForBan 39 = .ok (.aload_n 0, 1) := by decide +kernel
theorem dX7_looksForBan_40 : decode cX7_looksForBan 40 = .ok (.getfield 122, 3) := by decide +kernel
theorem dX7_looksForBan_43 : decode cX7_looksForBan 43 = .ok (.iload_n 3, 1) := by decide +kernel
theorem dX7_looksForBan_44 : decode cX7_looksForBan 44 = .ok (.baload, 1) := by decide +kernel
theorem dX7_looksForBan_45 : decode cX7_looksForBan 45 = .ok (.ifCond .ne 7, 3) := by decide +kernel
theorem dX7_looksForBan_48 : decode cX7_looksForBan 48 = .ok (.iconst 1, 1) := by decide +kernel
theorem dX7_looksForBan_49 : decode cX7_looksForBan 49 = .ok (.goto 4, 3) := by decide +kernel
theorem dX7_looksForBan_52 : decode cX7_looksForBan 52 = .ok (.iconst 0, 1) := by decide +kernel
theorem dX7_looksForBan_53 : decode cX7_looksForBan 53 = .ok (.iadd, 1) := by decide +kernel
theorem dX7_looksForBan_54 : decode cX7_looksForBan 54 = .ok (.istore_n 2, 1) := by decide +kernel
theorem dX7_looksForBan_55 : decode cX7_looksForBan 55 = .ok (.iinc 3 1, 3) := by decide +kernel
theorem dX7_looksForBan_58 : decode cX7_looksForBan 58 = .ok (.goto (-54), 3) := by decide +kernel
theorem dX7_looksForBan_61 : decode cX7_looksForBan 61 = .ok (.iload_n 2, 1) := by decide +kernel
theorem dX7_looksForBan_62 : decode cX7_looksForBan 62 = .ok (.iconst 3, 1) := by decide +kernel
theorem dX7_looksForBan_63 : decode cX7_looksForBan 63 = .ok (.if_icmp .ge 4, 3) := by decide +kernel
theorem dX7_looksForBan_66 : decode cX7_looksForBan 66 = .ok (.return_, 1) := by decide +kernel
theorem dX7_looksForBan_67 : decode cX7_looksForBan 67 = .ok (.iconst 0, 1) := by decide +kernel
theorem dX7_looksForBan_68 : decode cX7_looksForBan 68 = .ok (.istore_n 3, 1) := by decide +kernel
theorem dX7_looksForBan_69 : decode cX7_looksForBan 69 = .ok (.iload_n 3, 1) := by decide +kernel
theorem dX7_looksForBan_70 : decode cX7_looksForBan 70 = .ok (.aload_n 0, 1) := by decide +kernel
theorem dX7_looksForBan_71 : decode cX7_looksForBan 71 = .ok (.getfield 139, 3) := by decide +kernel
theorem dX7_looksForBan_74 : decode cX7_looksForBan 74 = .ok (.if_icmp .ge 55, 3) := by decide +kernel
theorem dX7_looksForBan_77 : decode cX7_looksForBan 77 = .ok (.aload_n 0, 1) := by decide +kernel
theorem dX7_looksForBan_78 : decode cX7_looksForBan 78 = .ok (.getfield 122, 3) := by decide +kernel
theorem dX7_looksForBan_81 : decode cX7_looksForBan 81 = .ok (.iload_n 3, 1) := by decide +kernel
theorem dX7_looksForBan_82 : decode cX7_looksForBan 82 = .ok (.aload_n 0, 1) := by decide +kernel
theorem dX7_looksForBan_83 : decode cX7_looksForBan 83 = .ok (.getfield 122, 3) := by decide +kernel
theorem dX7_looksForBan_86 : decode cX7_looksForBan 86 = .ok (.iload_n 3, 1) := by decide +kernel
theorem dX7_looksForBan_87 : decode cX7_looksForBan 87 = .ok (.baload, 1) := by decide +kernel
theorem dX7_looksForBan_88 : decode cX7_looksForBan 88 = .ok (.ifCond .ne 29, 3) := by decide +kernel
theorem dX7_looksForBan_91 : decode cX7_looksForBan 91 = .ok (.aload_n 0, 1) := by decide +kernel
theorem dX7_looksForBan_92 : decode cX7_looksForBan 92 = .ok (.getfield 86, 3) := by decide +kernel
theorem dX7_looksForBan_95 : decode cX7_looksForBan 95 = .ok (.iload_n 3, 1) := by decide +kernel
theorem dX7_looksForBan_96 : decode cX7_looksForBan 96 = .ok (.iaload, 1) := by decide +kernel
theorem dX7_looksForBan_97 : decode cX7_looksForBan 97 = .ok (.iload_n 1, 1) := by decide +kernel
theorem dX7_looksForBan_98 : decode cX7_looksForBan 98 = .ok (.if_icmp .ne 23, 3) := by decide +kernel
theorem dX7_looksForBan_101 : decode cX7_looksForBan 101 = .ok (.aload_n 0, 1) := by decide +kernel
theorem dX7_looksForBan_102 : decode cX7_looksForBan 102 = .ok (.iload_n 3, 1) := by decide +kernel
theorem dX7_looksForBan_103 : decode cX7_looksForBan 103 = .ok (.invokevirtual 189, 3) := by decide +kernel
theorem dX7_looksForBan_106 : decode cX7_looksForBan 106 = .ok (.ifCond .eq 15, 3) := by decide +kernel
theorem dX7_looksForBan_109 : decode cX7_looksForBan 109 = .ok (.aload_n 0, 1) := by decide +kernel
theorem dX7_looksForBan_110 : decode cX7_looksForBan 110 = .ok (.iload_n 3, 1) := by decide +kernel
theorem dX7_looksForBan_111 : decode cX7_looksForBan 111 = .ok (.invokevirtual 192, 3) := by decide +kernel
theorem dX7_looksForBan_114 : decode cX7_looksForBan 114 = .ok (.ifCond .eq 7, 3) := by decide +kernel
theorem dX7_looksForBan_117 : decode cX7_looksForBan 117 = .ok (.iconst 1, 1) := by decide +kernel
theorem dX7_looksForBan_118 : decode cX7_looksForBan 118 = .ok (.goto 4, 3) := by decide +kernel
theorem dX7_looksForBan_121 : decode cX7_looksForBan 121 = .ok (.iconst 0, 1) := by decide +kernel
theorem dX7_looksForBan_122 : decode cX7_looksForBan 122 = .ok (.bastore, 1) := by decide +kernel
theorem dX7_looksForBan_123 : decode cX7_looksForBan 123 = .ok (.iinc 3 1, 3) := by decide +kernel
theorem dX7_looksForBan_126 : decode cX7_looksForBan 126 = .ok (.goto (-57), 3) := by decide +kernel
theorem dX7_looksForBan_129 : decode cX7_looksForBan 129 = .ok (.aload_n 0, 1) := by decide +kernel
theorem dX7_looksForBan_130 : decode cX7_looksForBan 130 = .ok (.getfield 44, 3) := by decide +kernel
theorem dX7_looksForBan_133 : decode cX7_looksForBan 133 = .ok (.iload_n 1, 1) := by decide +kernel
theorem dX7_looksForBan_134 : decode cX7_looksForBan 134 = .ok (.iconst 1, 1) := by decide +kernel
theorem dX7_looksForBan_135 : decode cX7_looksForBan 135 = .ok (.bastore, 1) := by decide +kernel
theorem dX7_looksForBan_136 : decode cX7_looksForBan 136 = .ok (.return_, 1) := by decide +kernel
theorem dX7_release_0 : decode cX7_release 0 = .ok (.aload_n 0, 1) := by decide +kernel
theorem dX7_release_1 : decode cX7_release 1 = .ok (.aload_n 0, 1) := by decide +kernel
theorem dX7_release_2 : decode cX7_release 2 = .ok (.iload_n 1, 1) := by decide +kernel
theorem dX7_release_3 : decode cX7_release 3 = .ok (.invokevirtual 153, 3) := by decide +kernel
theorem dX7_release_6 : decode cX7_release 6 = .ok (.ifCond .ne 7, 3) := by decide +kernel
theorem dX7_release_9 : decode cX7_release 9 = .ok (.iconst 1, 1) := by decide +kernel
theorem dX7_release_10 : decode cX7_release 10 = .ok (.goto 18, 3) := by decide +kernel
theorem dX7_release_13 : decode cX7_release 13 = .ok (.aload_n 0, 1) := by decide +kernel
theorem dX7_release_14 : decode cX7_release 14 = .ok (.getfield 41, 3) := by decide +kernel
theorem dX7_release_17 : decode cX7_release 17 = .ok (.iload_n 1, 1) := by decide +kernel
theorem dX7_release_18 : decode cX7_release 18 = .ok (.iaload, 1) := by decide +kernel
theorem dX7_release_19 : decode cX7_release 19 = .ok (.iconst (-1), 1) := by decide +kernel
theorem dX7_release_20 : decode cX7_release 20 = .ok (.if_icmp .ne 7, 3) := by decide +kernel
theorem dX7_release_23 : decode cX7_release 23 = .ok (.iconst 2, 1) := by decide +kernel
theorem dX7_release_24 : decode cX7_release 24 = .ok (.goto 4, 3) := by decide +kernel
theorem dX7_release_27 : decode cX7_release 27 = .ok (.iconst 0, 1) := by decide +kernel
theorem dX7_release_28 : decode cX7_release 28 = .ok (.putfield 128, 3) := by decide +kernel
theorem dX7_release_31 : decode cX7_release 31 = .ok (.aload_n 0, 1) := by decide +kernel
theorem dX7_release_32 : decode cX7_release 32 = .ok (.getfield 128, 3) := by decide +kernel
theorem dX7_release_35 : decode cX7_release 35 = .ok (.ifCond .ne 33, 3) := by decide +kernel
theorem dX7_release_38 : decode cX7_release 38 = .ok (.aload_n 0, 1) := by decide +kernel
theorem dX7_release_39 : decode cX7_release 39 = .ok (.aload_n 0, 1) := by decide +kernel
theorem dX7_release_40 : decode cX7_release 40 = .ok (.aload_n 0, 1) := by decide +kernel
theorem dX7_release_41 : decode cX7_release 41 = .ok (.getfield 41, 3) := by decide +kernel
theorem dX7_release_44 : decode cX7_release 44 = .ok (.iload_n 1, 1) := by decide +kernel
theorem dX7_release_45 : decode cX7_release 45 = .ok (.iaload, 1) := by decide +kernel
theorem dX7_release_46 : decode cX7_release 46 = .ok (.invokevirtual 237, 3) := by decide +kernel
theorem dX7_release_49 : decode cX7_release 49 = .ok (.ifCond .gt 11, 3) := by decide +kernel
theorem dX7_release_52 : decode cX7_release 52 = .ok (.aload_n 0, 1) := by decide +kernel
theorem dX7_release_53 : decode cX7_release 53 = .ok (.iload_n 1, 1) := by decide +kernel
theorem dX7_release_54 : decode cX7_release 54 = .ok (.invokevirtual 222, 3) := by decide +kernel
theorem dX7_release_57 : decode cX7_release 57 = .ok (.ifCond .eq 7, 3) := by decide +kernel
theorem dX7_release_60 : decode cX7_release 60 = .ok (.iconst 2, 1) := by decide +kernel
theorem dX7_release_61 : decode cX7_release 61 = .ok (.goto 4, 3) := by decide +kernel
theorem dX7_release_64 : decode cX7_release 64 = .ok (.iconst 0, 1) := by decide +kernel
theorem dX7_release_65 : decode cX7_release 65 = .ok (.putfield 128, 3) := by decide +kernel
theorem dX7_release_68 : decode cX7_release 68 = .ok (.aload_n 0, 1) := by decide +kernel
theorem dX7_release_69 : decode cX7_release 69 = .ok (.getfield 128, 3) := by decide +kernel
theorem dX7_release_72 : decode cX7_release 72 = .ok (.ifCond .le 5, 3) := by decide +kernel
theorem dX7_release_75 : decode cX7_release 75 = .ok (.iconst 0, 1) := by decide +kernel
theorem dX7_release_76 : decode cX7_release 76 = .ok (.ireturn, 1) := by decide +kernel
theorem dX7_release_77 : decode cX7_release 77 = .ok (.bipush 100, 2) := by decide +kernel
theorem dX7_release_79 : decode cX7_release 79 = .ok (.aload_n 0, 1) := by decide +kernel
theorem dX7_release_80 : decode cX7_release 80 = .ok (.getfield 142, 3) := by decide +kernel
theorem dX7_release_83 : decode cX7_release 83 = .ok (.aload_n 0, 1) := by decide +kernel
theorem dX7_release_84 : decode cX7_release 84 = .ok (.getfield 110, 3) := by decide +kernel
theorem dX7_release_87 : decode cX7_release 87 = .ok (.aload_n 0, 1) := by decide +kernel
theorem dX7_release_88 : decode cX7_release 88 = .ok (.getfield 41, 3) := by decide +kernel
theorem dX7_release_91 : decode cX7_release 91 = .ok (.iload_n 1, 1) := by decide +kernel
theorem dX7_release_92 : decode cX7_release 92 = .ok (.iaload, 1) := by decide +kernel
theorem dX7_release_93 : decode cX7_release 93 = .ok (.iaload, 1) := by decide +kernel
theorem dX7_release_94 : decode cX7_release 94 = .ok (.isub, 1) := by decide +kernel
theorem dX7_release_95 : decode cX7_release 95 = .ok (.imul, 1) := by decide +kernel
theorem dX7_release_96 : decode cX7_release 96 = .ok (.istore_n 2, 1) := by decide +kernel
theorem dX7_release_97 : decode cX7_release 97 = .ok (.aload_n 0, 1) := by decide +kernel
theorem dX7_release_98 : decode cX7_release 98 = .ok (.getfield 53, 3) := by decide +kernel
theorem dX7_release_101 : decode cX7_release 101 = .ok (.iload_n 1, 1) := by decide +kernel
theorem dX7_release_102 : decode cX7_release 102 = .ok (.dup2, 1) := by decide +kernel
theorem dX7_release_103 : decode cX7_release 103 = .ok (.iaload, 1) := by decide +kernel
theorem dX7_release_104 : decode cX7_release 104 = .ok (.iload_n 2, 1) := by decide +kernel
theorem dX7_release_105 : decode cX7_release 105 = .ok (.iadd, 1) := by decide +kernel
theorem dX7_release_106 : decode cX7_release 106 = .ok (.iastore, 1) := by decide +kernel
theorem dX7_release_107 : decode cX7_release 107 = .ok (.aload_n 0, 1) := by decide +kernel
theorem dX7_release_108 : decode cX7_release 108 = .ok (.getfield 41, 3) := by decide +kernel
theorem dX7_release_111 : decode cX7_release 111 = .ok (.iload_n 1, 1) := by decide +kernel
theorem dX7_release_112 : decode cX7_release 112 = .ok (.iconst (-1), 1) := by decide +kernel
theorem dX7_release_113 : decode cX7_release 113 = .ok (.iastore, 1) := by decide +kernel
theorem dX7_release_114 : decode cX7_release 114 = .ok (.aload_n 0, 1) := by decide +kernel
theorem dX7_release_115 : decode cX7_release 115 = .ok (.getfield 44, 3) := by decide +kernel
theorem dX7_release_118 : decode cX7_release 118 = .ok (.iload_n 1, 1) := by decide +kernel
theorem dX7_release_119 : decode cX7_release 119 = .ok (.baload, 1) := by decide +kernel
theorem dX7_release_120 : decode cX7_release 120 = .ok (.ifCond .eq 68, 3) := by decide +kernel
theorem dX7_release_123 : decode cX7_release 123 = .ok (.aload_n 0, 1) := by decide +kernel
theorem dX7_release_124 : decode cX7_release 124 = .ok (.getfield 50, 3) := by decide +kernel
theorem dX7_release_127 : decode cX7_release 127 = .ok (.iload_n 1, 1) := by decide +kernel
theorem dX7_release_128 : decode cX7_release 128 = .ok (.aload_n 0, 1) := by decide +kernel
theorem dX7_release_129 : decode cX7_release 129 = .ok (.getfield 47, 3) := by decide +kernel
theorem dX7_release_132 : decode cX7_release 132 = .ok (.iload_n 1, 1) := by decide +kernel
theorem dX7_release_133 : decode cX7_release 133 = .ok (.iaload, 1) := by decide +kernel
theorem dX7_release_134 : decode cX7_release 134 = .ok (.ifCond .ne 13, 3) := by decide +kernel
theorem dX7_release_137 : decode cX7_release 137 = .ok (.aload_n 0, 1) := by decide +kernel
theorem dX7_release_138 : decode cX7_release 138 = .ok (.getfield 142, 3) := by decide +kernel
theorem dX7_release_141 : decode cX7_release 141 = .ok (.bipush 90, 2) := by decide +kernel
theorem dX7_release_143 : decode cX7_release 143 = .ok (.iadd, 1) := by decide +kernel
theorem dX7_release_144 : decode cX7_release 144 = .ok (.goto 26, 3) := by decide +kernel
theorem dX7_release_147 : decode cX7_release 147 = .ok (.aload_n 0, 1) := by decide +kernel
theorem dX7_release_148 : decode cX7_release 148 = .ok (.getfield 47, 3) := by decide +kernel
theorem dX7_release_151 : decode cX7_release 151 = .ok (.iload_n 1, 1) := by decide +kernel
theorem dX7_release_152 : decode cX7_release 152 = .ok (.iaload, 1) := by decide +kernel
theorem dX7_release_153 : decode cX7_release 153 = .ok (.iconst 1, 1) := by decide +kernel
theorem dX7_release_154 : decode cX7_release 154 = .ok (.if_icmp .ne 14, 3) := by decide +kernel
theorem dX7_release_157 : decode cX7_release 157 = .ok (.aload_n 0, 1) := by decide +kernel
theorem dX7_release_158 : decode cX7_release 158 = .ok (.getfield 142, 3) := by decide +kernel
theorem dX7_release_161 : decode cX7_release 161 = .ok (.sipush 360, 3) := by decide +kernel
theorem dX7_release_164 : decode cX7_release 164 = .ok (.iadd, 1) := by decide +kernel
theorem dX7_release_165 : decode cX7_release 165 = .ok (.goto 5, 3) := by decide +kernel
theorem dX7_release_168 : decode cX7_release 168 = .ok (.ldc 247, 2) := by decide +kernel
theorem dX7_release_170 : decode cX7_release 170 = .ok (.iastore, 1) := by decide +kernel
theorem dX7_release_171 : decode cX7_release 171 = .ok (.aload_n 0, 1) := by decide +kernel
theorem dX7_release_172 : decode cX7_release 172 = .ok (.getfield 47, 3) := by decide +kernel
theorem dX7_release_175 : decode cX7_release 175 = .ok (.iload_n 1, 1) := by decide +kernel
theorem dX7_release_176 : decode cX7_release 176 = .ok (.dup2, 1) := by decide +kernel
theorem dX7_release_177 : decode cX7_release 177 = .ok (.iaload, 1) := by decide +kernel
theorem dX7_release_178 : decode cX7_release 178 = .ok (.iconst 1, 1) := by decide +kernel
theorem dX7_release_179 : decode cX7_release 179 = .ok (.iadd, 1) := by decide +kernel
theorem dX7_release_180 : decode cX7_release 180 = .ok (.iastore, 1) := by decide +kernel
theorem dX7_release_181 : decode cX7_release 181 = .ok (.aload_n 0, 1) := by decide +kernel
theorem dX7_release_182 : decode cX7_release 182 = .ok (.getfield 44, 3) := by decide +kernel
theorem dX7_release_185 : decode cX7_release 185 = .ok (.iload_n 1, 1) := by decide +kernel
theorem dX7_release_186 : decode cX7_release 186 = .ok (.iconst 0, 1) := by decide +kernel
theorem dX7_release_187 : decode cX7_release 187 = .ok (.bastore, 1) := by decide +kernel
theorem dX7_release_188 : decode cX7_release 188 = .ok (.iload_n 2, 1) := by decide +kernel
theorem dX7_release_189 : decode cX7_release 189 = .ok (.ireturn, 1) := by decide +kernel
theorem dX7_appeal_0 : decode cX7_appeal 0 = .ok (.aload_n 0, 1) := by decide +kernel
theorem dX7_appeal_1 : decode cX7_appeal 1 = .ok (.aload_n 0, 1) := by decide +kernel
theorem dX7_appeal_2 : decode cX7_appeal 2 = .ok (.iload_n 1, 1) := by decide +kernel
theorem dX7_appeal_3 : decode cX7_appeal 3 = .ok (.invokevirtual 228, 3) := by decide +kernel
theorem dX7_appeal_6 : decode cX7_appeal 6 = .ok (.ifCond .eq 7, 3) := by decide +kernel
theorem dX7_appeal_9 : decode cX7_appeal 9 = .ok (.iconst 0, 1) := by decide +kernel
theorem dX7_appeal_10 : decode cX7_appeal 10 = .ok (.goto 4, 3) := by decide +kernel
theorem dX7_appeal_13 : decode cX7_appeal 13 = .ok (.iconst 1, 1) := by decide +kernel
theorem dX7_appeal_14 : decode cX7_appeal 14 = .ok (.putfield 128, 3) := by decide +kernel
theorem dX7_appeal_17 : decode cX7_appeal 17 = .ok (.aload_n 0, 1) := by decide +kernel
theorem dX7_appeal_18 : decode cX7_appeal 18 = .ok (.getfield 128, 3) := by decide +kernel
theorem dX7_appeal_21 : decode cX7_appeal 21 = .ok (.ifCond .ne 57, 3) := by decide +kernel
theorem dX7_appeal_24 : decode cX7_appeal 24 = .ok (.aload_n 0, 1) := by decide +kernel
theorem dX7_appeal_25 : decode cX7_appeal 25 = .ok (.getfield 110, 3) := by decide +kernel
theorem dX7_appeal_28 : decode cX7_appeal 28 = .ok (.iload_n 1, 1) := by decide +kernel
theorem dX7_appeal_29 : decode cX7_appeal 29 = .ok (.iaload, 1) := by decide +kernel
theorem dX7_appeal_30 : decode cX7_appeal 30 = .ok (.iconst (-1), 1) := by decide +kernel
theorem dX7_appeal_31 : decode cX7_appeal 31 = .ok (.if_icmp .eq 32, 3) := by decide +kernel
theorem dX7_appeal_34 : decode cX7_appeal 34 = .ok (.aload_n 0, 1) := by decide +kernel
theorem dX7_appeal_35 : decode cX7_appeal 35 = .ok (.getfield 113, 3) := by decide +kernel
theorem dX7_appeal_38 : decode cX7_appeal 38 = .ok (.iload_n 1, 1) := by decide +kernel
theorem dX7_appeal_39 : decode cX7_appeal 39 = .ok (.baload, 1) := by decide +kernel
theorem dX7_appeal_40 : decode cX7_appeal 40 = .ok (.ifCond .ne 23, 3) := by decide +kernel
theorem dX7_appeal_43 : decode cX7_appeal 43 = .ok (.aload_n 0, 1) := by decide +kernel
theorem dX7_appeal_44 : decode cX7_appeal 44 = .ok (.getfield 142, 3) := by decide +kernel
theorem dX7_appeal_47 : decode cX7_appeal 47 = .ok (.aload_n 0, 1) := by decide +kernel
theorem dX7_appeal_48 : decode cX7_appeal 48 = .ok (.getfield 110, 3) := by decide +kernel
theorem dX7_appeal_51 : decode cX7_appeal 51 = .ok (.iload_n 1, 1) := by decide +kernel
theorem dX7_appeal_52 : decode cX7_appeal 52 = .ok (.iaload, 1) := by decide +kernel
theorem dX7_appeal_53 : decode cX7_appeal 53 = .ok (.isub, 1) := by decide +kernel
theorem dX7_appeal_54 : decode cX7_appeal 54 = .ok (.bipush 30, 2) := by decide +kernel
theorem dX7_appeal_56 : decode cX7_appeal 56 = .ok (.if_icmp .gt 7, 3) := by decide +kernel
theorem dX7_appeal_59 : decode cX7_appeal 59 = .ok (.iconst 1, 1) := by decide +kernel
theorem dX7_appeal_60 : decode cX7_appeal 60 = .ok (.goto 4, 3) := by decide +kernel
theorem dX7_appeal_63 : decode cX7_appeal 63 = .ok (.iconst 0, 1) := by decide +kernel
theorem dX7_appeal_64 : decode cX7_appeal 64 = .ok (.istore_n 2, 1) := by decide +kernel
theorem dX7_appeal_65 : decode cX7_appeal 65 = .ok (.aload_n 0, 1) := by decide +kernel
theorem dX7_appeal_66 : decode cX7_appeal 66 = .ok (.iload_n 2, 1) := by decide +kernel
theorem dX7_appeal_67 : decode cX7_appeal 67 = .ok (.ifCond .eq 7, 3) := by decide +kernel
theorem dX7_appeal_70 : decode cX7_appeal 70 = .ok (.iconst 0, 1) := by decide +kernel
theorem dX7_appeal_71 : decode cX7_appeal 71 = .ok (.goto 4, 3) := by decide +kernel
theorem dX7_appeal_74 : decode cX7_appeal 74 = .ok (.iconst 2, 1) := by decide +kernel
theorem dX7_appeal_75 : decode cX7_appeal 75 = .ok (.putfield 128, 3) := by decide +kernel
theorem dX7_appeal_78 : decode cX7_appeal 78 = .ok (.aload_n 0, 1) := by decide +kernel
theorem dX7_appeal_79 : decode cX7_appeal 79 = .ok (.getfield 128, 3) := by decide +kernel
theorem dX7_appeal_82 : decode cX7_appeal 82 = .ok (.ifCond .ne 10, 3) := by decide +kernel
theorem dX7_appeal_85 : decode cX7_appeal 85 = .ok (.aload_n 0, 1) := by decide +kernel
theorem dX7_appeal_86 : decode cX7_appeal 86 = .ok (.getfield 113, 3) := by decide +kernel
theorem dX7_appeal_89 : decode cX7_appeal 89 = .ok (.iload_n 1, 1) := by decide +kernel
theorem dX7_appeal_90 : decode cX7_appeal 90 = .ok (.iconst 1, 1) := by decide +kernel
theorem dX7_appeal_91 : decode cX7_appeal 91 = .ok (.bastore, 1) := by decide +kernel
theorem dX7_appeal_92 : decode cX7_appeal 92 = .ok (.return_, 1) := by decide +kernel
theorem dX7_decided_0 : decode cX7_decided 0 = .ok (.aload_n 0, 1) := by decide +kernel
theorem dX7_decided_1 : decode cX7_decided 1 = .ok (.getfield 116, 3) := by decide +kernel
theorem dX7_decided_4 : decode cX7_decided 4 = .ok (.iload_n 1, 1) := by decide +kernel
theorem dX7_decided_5 : decode cX7_decided 5 = .ok (.iaload, 1) := by decide +kernel
theorem dX7_decided_6 : decode cX7_decided 6 = .ok (.iconst 2, 1) := by decide +kernel
theorem dX7_decided_7 : decode cX7_decided 7 = .ok (.if_icmp .ne 7, 3) := by decide +kernel
theorem dX7_decided_10 : decode cX7_decided 10 = .ok (.iconst 1, 1) := by decide +kernel
theorem dX7_decided_11 : decode cX7_decided 11 = .ok (.goto 18, 3) := by decide +kernel
theorem dX7_decided_14 : decode cX7_decided 14 = .ok (.aload_n 0, 1) := by decide +kernel
theorem dX7_decided_15 : decode cX7_decided 15 = .ok (.getfield 119, 3) := by decide +kernel
theorem dX7_decided_18 : decode cX7_decided 18 = .ok (.iload_n 1, 1) := by decide +kernel
theorem dX7_decided_19 : decode cX7_decided 19 = .ok (.iaload, 1) := by decide +kernel
theorem dX7_decided_20 : decode cX7_decided 20 = .ok (.iconst 2, 1) := by decide +kernel
theorem dX7_decided_21 : decode cX7_decided 21 = .ok (.if_icmp .ne 7, 3) := by decide +kernel
theorem dX7_decided_24 : decode cX7_decided 24 = .ok (.iconst 2, 1) := by decide +kernel
theorem dX7_decided_25 : decode cX7_decided 25 = .ok (.goto 4, 3) := by decide +kernel
theorem dX7_decided_28 : decode cX7_decided 28 = .ok (.iconst 0, 1) := by decide +kernel
theorem dX7_decided_29 : decode cX7_decided 29 = .ok (.ireturn, 1) := by decide +kernel
theorem dX7_vote_0 : decode cX7_vote 0 = .ok (.aload_n 0, 1) := by decide +kernel
theorem dX7_vote_1 : decode cX7_vote 1 = .ok (.aload_n 0, 1) := by decide +kernel
theorem dX7_vote_2 : decode cX7_vote 2 = .ok (.iload_n 1, 1) := by decide +kernel
theorem dX7_vote_3 : decode cX7_vote 3 = .ok (.invokevirtual 228, 3) := by decide +kernel
theorem dX7_vote_6 : decode cX7_vote 6 = .ok (.ifCond .ne 7, 3) := by decide +kernel
theorem dX7_vote_9 : decode cX7_vote 9 = .ok (.iconst 1, 1) := by decide +kernel
theorem dX7_vote_10 : decode cX7_vote 10 = .ok (.goto 25, 3) := by decide +kernel
theorem dX7_vote_13 : decode cX7_vote 13 = .ok (.aload_n 0, 1) := by decide +kernel
theorem dX7_vote_14 : decode cX7_vote 14 = .ok (.getfield 113, 3) := by decide +kernel
theorem dX7_vote_17 : decode cX7_vote 17 = .ok (.iload_n 1, 1) := by decide +kernel
theorem dX7_vote_18 : decode cX7_vote 18 = .ok (.baload, 1) := by decide +kernel
theorem dX7_vote_19 : decode cX7_vote 19 = .ok (.ifCond .eq 15, 3) := by decide +kernel
theorem dX7_vote_22 : decode cX7_vote 22 = .ok (.aload_n 0, 1) := by decide +kernel
theorem dX7_vote_23 : decode cX7_vote 23 = .ok (.iload_n 1, 1) := by decide +kernel
theorem dX7_vote_24 : decode cX7_vote 24 = .ok (.invokevirtual 248, 3) := by decide +kernel
theorem dX7_vote_27 : decode cX7_vote 27 = .ok (.ifCond .ne 7, 3) := by decide +kernel
theorem dX7_vote_30 : decode cX7_vote 30 = .ok (.iconst 0, 1) := by decide +kernel
theorem dX7_vote_31 : decode cX7_vote 31 = .ok (.goto 4, 3) := by decide +kernel
theorem dX7_vote_34 : decode cX7_vote 34 = .ok (.iconst 2, 1) := by decide +kernel
theorem dX7_vote_35 : decode cX7_vote 35 = .ok (.putfield 128, 3) := by decide +kernel
theorem dX7_vote_38 : decode cX7_vote 38 = .ok (.aload_n 0, 1) := by decide +kernel
theorem dX7_vote_39 : decode cX7_vote 39 = .ok (.getfield 128, 3) := by decide +kernel
theorem dX7_vote_42 : decode cX7_vote 42 = .ok (.ifCond .le 5, 3) := by decide +kernel
theorem dX7_vote_45 : decode cX7_vote 45 = .ok (.iconst 0, 1) := by decide +kernel
theorem dX7_vote_46 : decode cX7_vote 46 = .ok (.ireturn, 1) := by decide +kernel
theorem dX7_vote_47 : decode cX7_vote 47 = .ok (.aload_n 0, 1) := by decide +kernel
theorem dX7_vote_48 : decode cX7_vote 48 = .ok (.getfield 116, 3) := by decide +kernel
theorem dX7_vote_51 : decode cX7_vote 51 = .ok (.iload_n 1, 1) := by decide +kernel
theorem dX7_vote_52 : decode cX7_vote 52 = .ok (.dup2, 1) := by decide +kernel
theorem dX7_vote_53 : decode cX7_vote 53 = .ok (.iaload, 1) := by decide +kernel
theorem dX7_vote_54 : decode cX7_vote 54 = .ok (.iload_n 2, 1) := by decide +kernel
theorem dX7_vote_55 : decode cX7_vote 55 = .ok (.ifCond .eq 7, 3) := by decide +kernel
theorem dX7_vote_58 : decode cX7_vote 58 = .ok (.iconst 1, 1) := by decide +kernel
theorem dX7_vote_59 : decode cX7_vote 59 = .ok (.goto 4, 3) := by decide +kernel
theorem dX7_vote_62 : decode cX7_vote 62 = .ok (.iconst 0, 1) := by decide +kernel
theorem dX7_vote_63 : decode cX7_vote 63 = .ok (.iadd, 1) := by decide +kernel
theorem dX7_vote_64 : decode cX7_vote 64 = .ok (.iastore, 1) := by decide +kernel
theorem dX7_vote_65 : decode cX7_vote 65 = .ok (.aload_n 0, 1) := by decide +kernel
theorem dX7_vote_66 : decode cX7_vote 66 = .ok (.getfield 119, 3) := by decide +kernel
theorem dX7_vote_69 : decode cX7_vote 69 = .ok (.iload_n 1, 1) := by decide +kernel
theorem dX7_vote_70 : decode cX7_vote 70 = .ok (.dup2, 1) := by decide +kernel
theorem dX7_vote_71 : decode cX7_vote 71 = .ok (.iaload, 1) := by decide +kernel
theorem dX7_vote_72 : decode cX7_vote 72 = .ok (.iload_n 2, 1) := by decide +kernel
theorem dX7_vote_73 : decode cX7_vote 73 = .ok (.ifCond .eq 7, 3) := by decide +kernel
theorem dX7_vote_76 : decode cX7_vote 76 = .ok (.iconst 0, 1) := by decide +kernel
theorem dX7_vote_77 : decode cX7_vote 77 = .ok (.goto 4, 3) := by decide +kernel
theorem dX7_vote_80 : decode cX7_vote 80 = .ok (.iconst 1, 1) := by decide +kernel
theorem dX7_vote_81 : decode cX7_vote 81 = .ok (.iadd, 1) := by decide +kernel
theorem dX7_vote_82 : decode cX7_vote 82 = .ok (.iastore, 1) := by decide +kernel
theorem dX7_vote_83 : decode cX7_vote 83 = .ok (.aload_n 0, 1) := by decide +kernel
theorem dX7_vote_84 : decode cX7_vote 84 = .ok (.iload_n 1, 1) := by decide +kernel
theorem dX7_vote_85 : decode cX7_vote 85 = .ok (.invokevirtual 248, 3) := by decide +kernel
theorem dX7_vote_88 : decode cX7_vote 88 = .ok (.ireturn, 1) := by decide +kernel
theorem dX7_ofShip_0 : decode cX7_ofShip 0 = .ok (.aload_n 0, 1) := by decide +kernel
theorem dX7_ofShip_1 : decode cX7_ofShip 1 = .ok (.aload_n 0, 1) := by decide +kernel
theorem dX7_ofShip_2 : decode cX7_ofShip 2 = .ok (.iload_n 1, 1) := by decide +kernel
theorem dX7_ofShip_3 : decode cX7_ofShip 3 = .ok (.invokevirtual 153, 3) := by decide +kernel
theorem dX7_ofShip_6 : decode cX7_ofShip 6 = .ok (.ifCond .ne 7, 3) := by decide +kernel
theorem dX7_ofShip_9 : decode cX7_ofShip 9 = .ok (.iconst 1, 1) := by decide +kernel
theorem dX7_ofShip_10 : decode cX7_ofShip 10 = .ok (.goto 18, 3) := by decide +kernel
theorem dX7_ofShip_13 : decode cX7_ofShip 13 = .ok (.iload_n 2, 1) := by decide +kernel
theorem dX7_ofShip_14 : decode cX7_ofShip 14 = .ok (.iconst 0, 1) := by decide +kernel
theorem dX7_ofShip_15 : decode cX7_ofShip 15 = .ok (.bipush 7, 2) := by decide +kernel
theorem dX7_ofShip_17 : decode cX7_ofShip 17 = .ok (.invokestatic 135, 3) := by decide +kernel
theorem dX7_ofShip_20 : decode cX7_ofShip 20 = .ok (.ifCond .eq 7, 3) := by decide +kernel
theorem dX7_ofShip_23 : decode cX7_ofShip 23 = .ok (.iconst 0, 1) := by decide +kernel
theorem dX7_ofShip_24 : decode cX7_ofShip 24 = .ok (.goto 4, 3) := by decide +kernel
theorem dX7_ofShip_27 : decode cX7_ofShip 27 = .ok (.iconst 2, 1) := by decide +kernel
theorem dX7_ofShip_28 : decode cX7_ofShip 28 = .ok (.putfield 128, 3) := by decide +kernel
theorem dX7_ofShip_31 : decode cX7_ofShip 31 = .ok (.aload_n 0, 1) := by decide +kernel
theorem dX7_ofShip_32 : decode cX7_ofShip 32 = .ok (.getfield 128, 3) := by decide +kernel
theorem dX7_ofShip_35 : decode cX7_ofShip 35 = .ok (.ifCond .le 5, 3) := by decide +kernel
theorem dX7_ofShip_38 : decode cX7_ofShip 38 = .ok (.iconst 0, 1) := by decide +kernel
theorem dX7_ofShip_39 : decode cX7_ofShip 39 = .ok (.ireturn, 1) := by decide +kernel
theorem dX7_ofShip_40 : decode cX7_ofShip 40 = .ok (.iload_n 2, 1) := by decide +kernel
theorem dX7_ofShip_41 : decode cX7_ofShip 41 = .ok (.tableswitch 105 0 6 #[43, 49, 55, 61, 68, 84, 98], 43) := by decide +kernel
theorem dX7_ofShip_84 : decode cX7_ofShip 84 = .ok (.aload_n 0, 1) := by decide +kernel
theorem dX7_ofShip_85 : decode cX7_ofShip 85 = .ok (.iload_n 1, 1) := by decide +kernel
theorem dX7_ofShip_86 : decode cX7_ofShip 86 = .ok (.invokevirtual 207, 3) := by decide +kernel
theorem dX7_ofShip_89 : decode cX7_ofShip 89 = .ok (.ireturn, 1) := by decide +kernel
theorem dX7_ofShip_90 : decode cX7_ofShip 90 = .ok (.aload_n 0, 1) := by decide +kernel
theorem dX7_ofShip_91 : decode cX7_ofShip 91 = .ok (.iload_n 1, 1) := by decide +kernel
theorem dX7_ofShip_92 : decode cX7_ofShip 92 = .ok (.invokevirtual 210, 3) := by decide +kernel
theorem dX7_ofShip_95 : decode cX7_ofShip 95 = .ok (.ireturn, 1) := by decide +kernel
theorem dX7_ofShip_96 : decode cX7_ofShip 96 = .ok (.aload_n 0, 1) := by decide +kernel
theorem dX7_ofShip_97 : decode cX7_ofShip 97 = .ok (.iload_n 1, 1) := by decide +kernel
theorem dX7_ofShip_98 : decode cX7_ofShip 98 = .ok (.invokevirtual 219, 3) := by decide +kernel
theorem dX7_ofShip_101 : decode cX7_ofShip 101 = .ok (.ireturn, 1) := by decide +kernel
theorem dX7_ofShip_102 : decode cX7_ofShip 102 = .ok (.aload_n 0, 1) := by decide +kernel
theorem dX7_ofShip_103 : decode cX7_ofShip 103 = .ok (.getfield 32, 3) := by decide +kernel
theorem dX7_ofShip_106 : decode cX7_ofShip 106 = .ok (.iload_n 1, 1) := by decide +kernel
theorem dX7_ofShip_107 : decode cX7_ofShip 107 = .ok (.iaload, 1) := by decide +kernel
theorem dX7_ofShip_108 : decode cX7_ofShip 108 = .ok (.ireturn, 1) := by decide +kernel
theorem dX7_ofShip_109 : decode cX7_ofShip 109 = .ok (.aload_n 0, 1) := by decide +kernel
theorem dX7_ofShip_110 : decode cX7_ofShip 110 = .ok (.getfield 41, 3) := by decide +kernel
theorem dX7_ofShip_113 : decode cX7_ofShip 113 = .ok (.iload_n 1, 1) := by decide +kernel
theorem dX7_ofShip_114 : decode cX7_ofShip 114 = .ok (.iaload, 1) := by decide +kernel
theorem dX7_ofShip_115 : decode cX7_ofShip 115 = .ok (.iconst (-1), 1) := by decide +kernel
theorem dX7_ofShip_116 : decode cX7_ofShip 116 = .ok (.if_icmp .ne 7, 3) := by decide +kernel
theorem dX7_ofShip_119 : decode cX7_ofShip 119 = .ok (.iconst 0, 1) := by decide +kernel
theorem dX7_ofShip_120 : decode cX7_ofShip 120 = .ok (.goto 4, 3) := by decide +kernel
theorem dX7_ofShip_123 : decode cX7_ofShip 123 = .ok (.iconst 1, 1) := by decide +kernel
theorem dX7_ofShip_124 : decode cX7_ofShip 124 = .ok (.ireturn, 1) := by decide +kernel
theorem dX7_ofShip_125 : decode cX7_ofShip 125 = .ok (.aload_n 0, 1) := by decide +kernel
theorem dX7_ofShip_126 : decode cX7_ofShip 126 = .ok (.iload_n 1, 1) := by decide +kernel
theorem dX7_ofShip_127 : decode cX7_ofShip 127 = .ok (.invokevirtual 216, 3) := by decide +kernel
theorem dX7_ofShip_130 : decode cX7_ofShip 130 = .ok (.ifCond .eq 7, 3) := by decide +kernel
theorem dX7_ofShip_133 : decode cX7_ofShip 133 = .ok (.iconst 1, 1) := by decide +kernel
theorem dX7_ofShip_134 : decode cX7_ofShip 134 = .ok (.goto 4, 3) := by decide +kernel
theorem dX7_ofShip_137 : decode cX7_ofShip 137 = .ok (.iconst 0, 1) := by decide +kernel
theorem dX7_ofShip_138 : decode cX7_ofShip 138 = .ok (.ireturn, 1) := by decide +kernel
theorem dX7_ofShip_139 : decode cX7_ofShip 139 = .ok (.aload_n 0, 1) := by decide +kernel
theorem dX7_ofShip_140 : decode cX7_ofShip 140 = .ok (.getfield 53, 3) := by decide +kernel
theorem dX7_ofShip_143 : decode cX7_ofShip 143 = .ok (.iload_n 1, 1) := by decide +kernel
theorem dX7_ofShip_144 : decode cX7_ofShip 144 = .ok (.iaload, 1) := by decide +kernel
theorem dX7_ofShip_145 : decode cX7_ofShip 145 = .ok (.ireturn, 1) := by decide +kernel
theorem dX7_ofShip_146 : decode cX7_ofShip 146 = .ok (.aload_n 0, 1) := by decide +kernel
theorem dX7_ofShip_147 : decode cX7_ofShip 147 = .ok (.iload_n 1, 1) := by decide +kernel
theorem dX7_ofShip_148 : decode cX7_ofShip 148 = .ok (.invokevirtual 222, 3) := by decide +kernel
theorem dX7_ofShip_151 : decode cX7_ofShip 151 = .ok (.ireturn, 1) := by decide +kernel
theorem dX7_pointsAnew_0 : decode cX7_pointsAnew 0 = .ok (.aload_n 0, 1) := by decide +kernel
theorem dX7_pointsAnew_1 : decode cX7_pointsAnew 1 = .ok (.aload_n 0, 1) := by decide +kernel
theorem dX7_pointsAnew_2 : decode cX7_pointsAnew 2 = .ok (.iload_n 1, 1) := by decide +kernel
theorem dX7_pointsAnew_3 : decode cX7_pointsAnew 3 = .ok (.invokevirtual 153, 3) := by decide +kernel
theorem dX7_pointsAnew_6 : decode cX7_pointsAnew 6 = .ok (.ifCond .eq 7, 3) := by decide +kernel
theorem dX7_pointsAnew_9 : decode cX7_pointsAnew 9 = .ok (.iconst 0, 1) := by decide +kernel
theorem dX7_pointsAnew_10 : decode cX7_pointsAnew 10 = .ok (.goto 4, 3) := by decide +kernel
theorem dX7_pointsAnew_13 : decode cX7_pointsAnew 13 = .ok (.iconst 1, 1) := by decide +kernel
theorem dX7_pointsAnew_14 : decode cX7_pointsAnew 14 = .ok (.putfield 128, 3) := by decide +kernel
theorem dX7_pointsAnew_17 : decode cX7_pointsAnew 17 = .ok (.aload_n 0, 1) := by decide +kernel
theorem dX7_pointsAnew_18 : decode cX7_pointsAnew 18 = .ok (.getfield 128, 3) := by decide +kernel
theorem dX7_pointsAnew_21 : decode cX7_pointsAnew 21 = .ok (.ifCond .le 7, 3) := by decide +kernel
theorem dX7_pointsAnew_24 : decode cX7_pointsAnew 24 = .ok (.iconst 0, 1) := by decide +kernel
theorem dX7_pointsAnew_25 : decode cX7_pointsAnew 25 = .ok (.goto 8, 3) := by decide +kernel
theorem dX7_pointsAnew_28 : decode cX7_pointsAnew 28 = .ok (.aload_n 0, 1) := by decide +kernel
theorem dX7_pointsAnew_29 : decode cX7_pointsAnew 29 = .ok (.iload_n 1, 1) := by decide +kernel
theorem dX7_pointsAnew_30 : decode cX7_pointsAnew 30 = .ok (.invokevirtual 207, 3) := by decide +kernel
theorem dX7_pointsAnew_33 : decode cX7_pointsAnew 33 = .ok (.ireturn, 1) := by decide +kernel
theorem dX7_isGround_0 : decode cX7_isGround 0 = .ok (.aload_n 0, 1) := by decide +kernel
theorem dX7_isGround_1 : decode cX7_isGround 1 = .ok (.aload_n 0, 1) := by decide +kernel
theorem dX7_isGround_2 : decode cX7_isGround 2 = .ok (.iload_n 1, 1) := by decide +kernel
theorem dX7_isGround_3 : decode cX7_isGround 3 = .ok (.invokevirtual 153, 3) := by decide +kernel
theorem dX7_isGround_6 : decode cX7_isGround 6 = .ok (.ifCond .ne 7, 3) := by decide +kernel
theorem dX7_isGround_9 : decode cX7_isGround 9 = .ok (.iconst 1, 1) := by decide +kernel
theorem dX7_isGround_10 : decode cX7_isGround 10 = .ok (.goto 18, 3) := by decide +kernel
theorem dX7_isGround_13 : decode cX7_isGround 13 = .ok (.iload_n 2, 1) := by decide +kernel
theorem dX7_isGround_14 : decode cX7_isGround 14 = .ok (.iconst 0, 1) := by decide +kernel
theorem dX7_isGround_15 : decode cX7_isGround 15 = .ok (.bipush 9, 2) := by decide +kernel
theorem dX7_isGround_17 : decode cX7_isGround 17 = .ok (.invokestatic 135, 3) := by decide +kernel
theorem dX7_isGround_20 : decode cX7_isGround 20 = .ok (.ifCond .eq 7, 3) := by decide +kernel
theorem dX7_isGround_23 : decode cX7_isGround 23 = .ok (.iconst 0, 1) := by decide +kernel
theorem dX7_isGround_24 : decode cX7_isGround 24 = .ok (.goto 4, 3) := by decide +kernel
theorem dX7_isGround_27 : decode cX7_isGround 27 = .ok (.iconst 2, 1) := by decide +kernel
theorem dX7_isGround_28 : decode cX7_isGround 28 = .ok (.putfield 128, 3) := by decide +kernel
theorem dX7_isGround_31 : decode cX7_isGround 31 = .ok (.aload_n 0, 1) := by decide +kernel
theorem dX7_isGround_32 : decode cX7_isGround 32 = .ok (.getfield 128, 3) := by decide +kernel
theorem dX7_isGround_35 : decode cX7_isGround 35 = .ok (.ifCond .ne 16, 3) := by decide +kernel
theorem dX7_isGround_38 : decode cX7_isGround 38 = .ok (.aload_n 0, 1) := by decide +kernel
theorem dX7_isGround_39 : decode cX7_isGround 39 = .ok (.iload_n 1, 1) := by decide +kernel
theorem dX7_isGround_40 : decode cX7_isGround 40 = .ok (.iload_n 2, 1) := by decide +kernel
theorem dX7_isGround_41 : decode cX7_isGround 41 = .ok (.invokevirtual 234, 3) := by decide +kernel
theorem dX7_isGround_44 : decode cX7_isGround 44 = .ok (.ifCond .eq 7, 3) := by decide +kernel
theorem dX7_isGround_47 : decode cX7_isGround 47 = .ok (.iconst 1, 1) := by decide +kernel
theorem dX7_isGround_48 : decode cX7_isGround 48 = .ok (.goto 4, 3) := by decide +kernel
theorem dX7_isGround_51 : decode cX7_isGround 51 = .ok (.iconst 0, 1) := by decide +kernel
theorem dX7_isGround_52 : decode cX7_isGround 52 = .ok (.ireturn, 1) := by decide +kernel
theorem dX7_ofVisit_0 : decode cX7_ofVisit 0 = .ok (.aload_n 0, 1) := by decide +kernel
theorem dX7_ofVisit_1 : decode cX7_ofVisit 1 = .ok (.aload_n 0, 1) := by decide +kernel
theorem dX7_ofVisit_2 : decode cX7_ofVisit 2 = .ok (.iload_n 1, 1) := by decide +kernel
theorem dX7_ofVisit_3 : decode cX7_ofVisit 3 = .ok (.invokevirtual 228, 3) := by decide +kernel
theorem dX7_ofVisit_6 : decode cX7_ofVisit 6 = .ok (.ifCond .ne 7, 3) := by decide +kernel
theorem dX7_ofVisit_9 : decode cX7_ofVisit 9 = .ok (.iconst 1, 1) := by decide +kernel
theorem dX7_ofVisit_10 : decode cX7_ofVisit 10 = .ok (.goto 18, 3) := by decide +kernel
theorem dX7_ofVisit_13 : decode cX7_ofVisit 13 = .ok (.iload_n 2, 1) := by decide +kernel
theorem dX7_ofVisit_14 : decode cX7_ofVisit 14 = .ok (.iconst 0, 1) := by decide +kernel
theorem dX7_ofVisit_15 : decode cX7_ofVisit 15 = .ok (.bipush 6, 2) := by decide +kernel
theorem dX7_ofVisit_17 : decode cX7_ofVisit 17 = .ok (.invokestatic 135, 3) := by decide +kernel
theorem dX7_ofVisit_20 : decode cX7_ofVisit 20 = .ok (.ifCond .eq 7, 3) := by decide +kernel
theorem dX7_ofVisit_23 : decode cX7_ofVisit 23 = .ok (.iconst 0, 1) := by decide +kernel
theorem dX7_ofVisit_24 : decode cX7_ofVisit 24 = .ok (.goto 4, 3) := by decide +kernel
theorem dX7_ofVisit_27 : decode cX7_ofVisit 27 = .ok (.iconst 2, 1) := by decide +kernel
theorem dX7_ofVisit_28 : decode cX7_ofVisit 28 = .ok (.putfield 128, 3) := by decide +kernel
theorem dX7_ofVisit_31 : decode cX7_ofVisit 31 = .ok (.aload_n 0, 1) := by decide +kernel
theorem dX7_ofVisit_32 : decode cX7_ofVisit 32 = .ok (.getfield 128, 3) := by decide +kernel
theorem dX7_ofVisit_35 : decode cX7_ofVisit 35 = .ok (.ifCond .le 5, 3) := by decide +kernel
theorem dX7_ofVisit_38 : decode cX7_ofVisit 38 = .ok (.iconst 0, 1) := by decide +kernel
theorem dX7_ofVisit_39 : decode cX7_ofVisit 39 = .ok (.ireturn, 1) := by decide +kernel
theorem dX7_ofVisit_40 : decode cX7_ofVisit 40 = .ok (.iload_n 2, 1) := by decide +kernel
theorem dX7_ofVisit_41 : decode cX7_ofVisit 41 = .ok (.tableswitch 80 0 5 #[39, 46, 53, 60, 67, 74], 39) := by decide +kernel
theorem dX7_ofVisit_80 : decode cX7_ofVisit 80 = .ok (.aload_n 0, 1) := by decide +kernel
theorem dX7_ofVisit_81 : decode cX7_ofVisit 81 = .ok (.getfield 86, 3) := by decide +kernel
theorem dX7_ofVisit_84 : decode cX7_ofVisit 84 = .ok (.iload_n 1, 1) := by decide +kernel
theorem dX7_ofVisit_85 : decode cX7_ofVisit 85 = .ok (.iaload, 1) := by decide +kernel
theorem dX7_ofVisit_86 : decode cX7_ofVisit 86 = .ok (.ireturn, 1) := by decide +kernel
theorem dX7_ofVisit_87 : decode cX7_ofVisit 87 = .ok (.aload_n 0, 1) := by decide +kernel
theorem dX7_ofVisit_88 : decode cX7_ofVisit 88 = .ok (.getfield 89, 3) := by decide +kernel
theorem dX7_ofVisit_91 : decode cX7_ofVisit 91 = .ok (.iload_n 1, 1) := by decide +kernel
theorem dX7_ofVisit_92 : decode cX7_ofVisit 92 = .ok (.iaload, 1) := by decide +kernel
theorem dX7_ofVisit_93 : decode cX7_ofVisit 93 = .ok (.ireturn, 1) := by decide +kernel
theorem dX7_ofVisit_94 : decode cX7_ofVisit 94 = .ok (.aload_n 0, 1) := by decide +kernel
theorem dX7_ofVisit_95 : decode cX7_ofVisit 95 = .ok (.getfield 92, 3) := by decide +kernel
theorem dX7_ofVisit_98 : decode cX7_ofVisit 98 = .ok (.iload_n 1, 1) := by decide +kernel
theorem dX7_ofVisit_99 : decode cX7_ofVisit 99 = .ok (.iaload, 1) := by decide +kernel
theorem dX7_ofVisit_100 : decode cX7_ofVisit 100 = .ok (.ireturn, 1) := by decide +kernel
theorem dX7_ofVisit_101 : decode cX7_ofVisit 101 = .ok (.aload_n 0, 1) := by decide +kernel
theorem dX7_ofVisit_102 : decode cX7_ofVisit 102 = .ok (.getfield 95, 3) := by decide +kernel
theorem dX7_ofVisit_105 : decode cX7_ofVisit 105 = .ok (.iload_n 1, 1) := by decide +kernel
theorem dX7_ofVisit_106 : decode cX7_ofVisit 106 = .ok (.iaload, 1) := by decide +kernel
theorem dX7_ofVisit_107 : decode cX7_ofVisit 107 = .ok (.ireturn, 1) := by decide +kernel
theorem dX7_ofVisit_108 : decode cX7_ofVisit 108 = .ok (.aload_n 0, 1) := by decide +kernel
theorem dX7_ofVisit_109 : decode cX7_ofVisit 109 = .ok (.getfield 101, 3) := by decide +kernel
theorem dX7_ofVisit_112 : decode cX7_ofVisit 112 = .ok (.iload_n 1, 1) := by decide +kernel
theorem dX7_ofVisit_113 : decode cX7_ofVisit 113 = .ok (.iaload, 1) := by decide +kernel
theorem dX7_ofVisit_114 : decode cX7_ofVisit 114 = .ok (.ireturn, 1) := by decide +kernel
theorem dX7_ofVisit_115 : decode cX7_ofVisit 115 = .ok (.aload_n 0, 1) := by decide +kernel
theorem dX7_ofVisit_116 : decode cX7_ofVisit 116 = .ok (.iload_n 1, 1) := by decide +kernel
theorem dX7_ofVisit_117 : decode cX7_ofVisit 117 = .ok (.invokevirtual 237, 3) := by decide +kernel
theorem dX7_ofVisit_120 : decode cX7_ofVisit 120 = .ok (.ireturn, 1) := by decide +kernel
theorem dX7_ofVisit_121 : decode cX7_ofVisit 121 = .ok (.aload_n 0, 1) := by decide +kernel
theorem dX7_ofVisit_122 : decode cX7_ofVisit 122 = .ok (.iload_n 1, 1) := by decide +kernel
theorem dX7_ofVisit_123 : decode cX7_ofVisit 123 = .ok (.invokevirtual 192, 3) := by decide +kernel
theorem dX7_ofVisit_126 : decode cX7_ofVisit 126 = .ok (.ifCond .eq 7, 3) := by decide +kernel
theorem dX7_ofVisit_129 : decode cX7_ofVisit 129 = .ok (.iconst 1, 1) := by decide +kernel
theorem dX7_ofVisit_130 : decode cX7_ofVisit 130 = .ok (.goto 4, 3) := by decide +kernel
theorem dX7_ofVisit_133 : decode cX7_ofVisit 133 = .ok (.iconst 0, 1) := by decide +kernel
theorem dX7_ofVisit_134 : decode cX7_ofVisit 134 = .ok (.ireturn, 1) := by decide +kernel
theorem dX7_list_0 : decode cX7_list 0 = .ok (.aload_n 0, 1) := by decide +kernel
theorem dX7_list_1 : decode cX7_list 1 = .ok (.iload_n 1, 1) := by decide +kernel
theorem dX7_list_2 : decode cX7_list 2 = .ok (.invokestatic 146, 3) := by decide +kernel
theorem dX7_list_5 : decode cX7_list 5 = .ok (.ifCond .eq 7, 3) := by decide +kernel
theorem dX7_list_8 : decode cX7_list 8 = .ok (.iconst 0, 1) := by decide +kernel
theorem dX7_list_9 : decode cX7_list 9 = .ok (.goto 4, 3) := by decide +kernel
theorem dX7_list_12 : decode cX7_list 12 = .ok (.iconst 1, 1) := by decide +kernel
theorem dX7_list_13 : decode cX7_list 13 = .ok (.putfield 128, 3) := by decide +kernel
theorem dX7_list_16 : decode cX7_list 16 = .ok (.aload_n 0, 1) := by decide +kernel
theorem dX7_list_17 : decode cX7_list 17 = .ok (.getfield 128, 3) := by decide +kernel
theorem dX7_list_20 : decode cX7_list 20 = .ok (.ifCond .le 7, 3) := by decide +kernel
theorem dX7_list_23 : decode cX7_list 23 = .ok (.iconst 0, 1) := by decide +kernel
theorem dX7_list_24 : decode cX7_list 24 = .ok (.goto 8, 3) := by decide +kernel
theorem dX7_list_27 : decode cX7_list 27 = .ok (.aload_n 0, 1) := by decide +kernel
theorem dX7_list_28 : decode cX7_list 28 = .ok (.iload_n 1, 1) := by decide +kernel
theorem dX7_list_29 : decode cX7_list 29 = .ok (.invokevirtual 195, 3) := by decide +kernel
theorem dX7_list_32 : decode cX7_list 32 = .ok (.ireturn, 1) := by decide +kernel
theorem dX7_missed_0 : decode cX7_missed 0 = .ok (.aload_n 0, 1) := by decide +kernel
theorem dX7_missed_1 : decode cX7_missed 1 = .ok (.iload_n 1, 1) := by decide +kernel
theorem dX7_missed_2 : decode cX7_missed 2 = .ok (.invokestatic 213, 3) := by decide +kernel
theorem dX7_missed_5 : decode cX7_missed 5 = .ok (.ifCond .eq 7, 3) := by decide +kernel
theorem dX7_missed_8 : decode cX7_missed 8 = .ok (.iconst 0, 1) := by decide +kernel
theorem dX7_missed_9 : decode cX7_missed 9 = .ok (.goto 4, 3) := by decide +kernel
theorem dX7_missed_12 : decode cX7_missed 12 = .ok (.iconst 1, 1) := by decide +kernel
theorem dX7_missed_13 : decode cX7_missed 13 = .ok (.putfield 128, 3) := by decide +kernel
theorem dX7_missed_16 : decode cX7_missed 16 = .ok (.aload_n 0, 1) := by decide +kernel
theorem dX7_missed_17 : decode cX7_missed 17 = .ok (.getfield 128, 3) := by decide +kernel
theorem dX7_missed_20 : decode cX7_missed 20 = .ok (.ifCond .le 7, 3) := by decide +kernel
theorem dX7_missed_23 : decode cX7_missed 23 = .ok (.iconst 0, 1) := by decide +kernel
theorem dX7_missed_24 : decode cX7_missed 24 = .ok (.goto 9, 3) := by decide +kernel
theorem dX7_missed_27 : decode cX7_missed 27 = .ok (.aload_n 0, 1) := by decide +kernel
theorem dX7_missed_28 : decode cX7_missed 28 = .ok (.getfield 125, 3) := by decide +kernel
theorem dX7_missed_31 : decode cX7_missed 31 = .ok (.iload_n 1, 1) := by decide +kernel
theorem dX7_missed_32 : decode cX7_missed 32 = .ok (.iaload, 1) := by decide +kernel
theorem dX7_missed_33 : decode cX7_missed 33 = .ok (.ireturn, 1) := by decide +kernel
theorem dX7_knew_0 : decode cX7_knew 0 = .ok (.aload_n 0, 1) := by decide +kernel
theorem dX7_knew_1 : decode cX7_knew 1 = .ok (.aload_n 0, 1) := by decide +kernel
theorem dX7_knew_2 : decode cX7_knew 2 = .ok (.iload_n 1, 1) := by decide +kernel
theorem dX7_knew_3 : decode cX7_knew 3 = .ok (.invokevirtual 153, 3) := by decide +kernel
theorem dX7_knew_6 : decode cX7_knew 6 = .ok (.ifCond .eq 10, 3) := by decide +kernel
theorem dX7_knew_9 : decode cX7_knew 9 = .ok (.iload_n 2, 1) := by decide +kernel
theorem dX7_knew_10 : decode cX7_knew 10 = .ok (.invokestatic 213, 3) := by decide +kernel
theorem dX7_knew_13 : decode cX7_knew 13 = .ok (.ifCond .ne 7, 3) := by decide +kernel
theorem dX7_knew_16 : decode cX7_knew 16 = .ok (.iconst 1, 1) := by decide +kernel
theorem dX7_knew_17 : decode cX7_knew 17 = .ok (.goto 20, 3) := by decide +kernel
theorem dX7_knew_20 : decode cX7_knew 20 = .ok (.iload_n 3, 1) := by decide +kernel
theorem dX7_knew_21 : decode cX7_knew 21 = .ok (.iconst 0, 1) := by decide +kernel
theorem dX7_knew_22 : decode cX7_knew 22 = .ok (.aload_n 0, 1) := by decide +kernel
theorem dX7_knew_23 : decode cX7_knew 23 = .ok (.getfield 142, 3) := by decide +kernel
theorem dX7_knew_26 : decode cX7_knew 26 = .ok (.invokestatic 135, 3) := by decide +kernel
theorem dX7_knew_29 : decode cX7_knew 29 = .ok (.ifCond .eq 7, 3) := by decide +kernel
theorem dX7_knew_32 : decode cX7_knew 32 = .ok (.iconst 0, 1) := by decide +kernel
theorem dX7_knew_33 : decode cX7_knew 33 = .ok (.goto 4, 3) := by decide +kernel
theorem dX7_knew_36 : decode cX7_knew 36 = .ok (.iconst 2, 1) := by decide +kernel
theorem dX7_knew_37 : decode cX7_knew 37 = .ok (.putfield 128, 3) := by decide +kernel
theorem dX7_knew_40 : decode cX7_knew 40 = .ok (.iconst 0, 1) := by decide +kernel
theorem dX7_knew_41 : decode cX7_knew 41 = .ok (.istore 4, 2) := by decide +kernel
theorem dX7_knew_43 : decode cX7_knew 43 = .ok (.iconst 0, 1) := by decide +kernel
theorem dX7_knew_44 : decode cX7_knew 44 = .ok (.istore 5, 2) := by decide +kernel
theorem dX7_knew_46 : decode cX7_knew 46 = .ok (.iload 5, 2) := by decide +kernel
theorem dX7_knew_48 : decode cX7_knew 48 = .ok (.aload_n 0, 1) := by decide +kernel
theorem dX7_knew_49 : decode cX7_knew 49 = .ok (.getfield 139, 3) := by decide +kernel
theorem dX7_knew_52 : decode cX7_knew 52 = .ok (.if_icmp .ge 83, 3) := by decide +kernel
theorem dX7_knew_55 : decode cX7_knew 55 = .ok (.aload_n 0, 1) := by decide +kernel
theorem dX7_knew_56 : decode cX7_knew 56 = .ok (.getfield 128, 3) := by decide +kernel
theorem dX7_knew_59 : decode cX7_knew 59 = .ok (.ifCond .ne 76, 3) := by decide +kernel
theorem dX7_knew_62 : decode cX7_knew 62 = .ok (.aload_n 0, 1) := by decide +kernel
theorem dX7_knew_63 : decode cX7_knew 63 = .ok (.getfield 86, 3) := by decide +kernel
theorem dX7_knew_66 : decode cX7_knew 66 = .ok (.iload 5, 2) := by decide +kernel
theorem dX7_knew_68 : decode cX7_knew 68 = .ok (.iaload, 1) := by decide +kernel
theorem dX7_knew_69 : decode cX7_knew 69 = .ok (.iload_n 1, 1) := by decide +kernel
theorem dX7_knew_70 : decode cX7_knew 70 = .ok (.if_icmp .ne 35, 3) := by decide +kernel
theorem dX7_knew_73 : decode cX7_knew 73 = .ok (.aload_n 0, 1) := by decide +kernel
theorem dX7_knew_74 : decode cX7_knew 74 = .ok (.getfield 92, 3) := by decide +kernel
theorem dX7_knew_77 : decode cX7_knew 77 = .ok (.iload 5, 2) := by decide +kernel
theorem dX7_knew_79 : decode cX7_knew 79 = .ok (.iaload, 1) := by decide +kernel
theorem dX7_knew_80 : decode cX7_knew 80 = .ok (.aload_n 0, 1) := by decide +kernel
theorem dX7_knew_81 : decode cX7_knew 81 = .ok (.getfield 89, 3) := by decide +kernel
theorem dX7_knew_84 : decode cX7_knew 84 = .ok (.iload 5, 2) := by decide +kernel
theorem dX7_knew_86 : decode cX7_knew 86 = .ok (.iaload, 1) := by decide +kernel
theorem dX7_knew_87 : decode cX7_knew 87 = .ok (.iload_n 2, 1) := by decide +kernel
theorem dX7_knew_88 : decode cX7_knew 88 = .ok (.if_icmp .ne 7, 3) := by decide +kernel
theorem dX7_knew_91 : decode cX7_knew 91 = .ok (.iconst 0, 1) := by decide +kernel
theorem dX7_knew_92 : decode cX7_knew 92 = .ok (.goto 4, 3) := by decide +kernel
theorem dX7_knew_95 : decode cX7_knew 95 = .ok (.iconst 3, 1) := by decide +kernel
theorem dX7_knew_96 : decode cX7_knew 96 = .ok (.iadd, 1) := by decide +kernel
theorem dX7_knew_97 : decode cX7_knew 97 = .ok (.iload_n 3, 1) := by decide +kernel
theorem dX7_knew_98 : decode cX7_knew 98 = .ok (.if_icmp .gt 7, 3) := by decide +kernel
theorem dX7_knew_101 : decode cX7_knew 101 = .ok (.iconst 1, 1) := by decide +kernel
theorem dX7_knew_102 : decode cX7_knew 102 = .ok (.goto 4, 3) := by decide +kernel
theorem dX7_knew_105 : decode cX7_knew 105 = .ok (.iconst 0, 1) := by decide +kernel
theorem dX7_knew_106 : decode cX7_knew 106 = .ok (.istore 6, 2) := by decide +kernel
theorem dX7_knew_108 : decode cX7_knew 108 = .ok (.iload 4, 2) := by decide +kernel
theorem dX7_knew_110 : decode cX7_knew 110 = .ok (.iload 6, 2) := by decide +kernel
theorem dX7_knew_112 : decode cX7_knew 112 = .ok (.ifCond .eq 13, 3) := by decide +kernel
theorem dX7_knew_115 : decode cX7_knew 115 = .ok (.aload_n 0, 1) := by decide +kernel
theorem dX7_knew_116 : decode cX7_knew 116 = .ok (.getfield 101, 3) := by decide +kernel
theorem dX7_knew_119 : decode cX7_knew 119 = .ok (.iload 5, 2) := by decide +kernel
theorem dX7_knew_121 : decode cX7_knew 121 = .ok (.iaload, 1) := by decide +kernel
theorem dX7_knew_122 : decode cX7_knew 122 = .ok (.goto 4, 3) := by decide +kernel
theorem dX7_knew_125 : decode cX7_knew 125 = .ok (.iconst 0, 1) := by decide +kernel
theorem dX7_knew_126 : decode cX7_knew 126 = .ok (.iadd, 1) := by decide +kernel
theorem dX7_knew_127 : decode cX7_knew 127 = .ok (.istore 4, 2) := by decide +kernel
theorem dX7_knew_129 : decode cX7_knew 129 = .ok (.iinc 5 1, 3) := by decide +kernel
theorem dX7_knew_132 : decode cX7_knew 132 = .ok (.goto (-86), 3) := by decide +kernel
theorem dX7_knew_135 : decode cX7_knew 135 = .ok (.iload 4, 2) := by decide +kernel
theorem dX7_knew_137 : decode cX7_knew 137 = .ok (.ireturn, 1) := by decide +kernel
end
section
theorem dL_pass_0 : decode cL_pass 0 = .ok (.aload_n 2, 1) := by decide +kernel
theorem dL_pass_1 : decode cL_pass 1 = .ok (.iconst 0, 1) := by decide +kernel
theorem dL_pass_2 : decode cL_pass 2 = .ok (.aload_n 0, 1) := by decide +kernel
theorem dL_pass_3 : decode cL_pass 3 = .ok (.iload_n 1, 1) := by decide +kernel
theorem dL_pass_4 : decode cL_pass 4 = .ok (.invokevirtual 7, 3) := by decide +kernel
theorem dL_pass_7 : decode cL_pass 7 = .ok (.i2l, 1) := by decide +kernel
theorem dL_pass_8 : decode cL_pass 8 = .ok (.lastore, 1) := by decide +kernel
theorem dL_pass_9 : decode cL_pass 9 = .ok (.goto 9, 3) := by decide +kernel
theorem dL_pass_12 : decode cL_pass 12 = .ok (.astore_n 3, 1) := by decide +kernel
theorem dL_pass_13 : decode cL_pass 13 = .ok (.iconst 1, 1) := by decide +kernel
theorem dL_pass_14 : decode cL_pass 14 = .ok (.ireturn, 1) := by decide +kernel
theorem dL_pass_15 : decode cL_pass 15 = .ok (.astore_n 3, 1) := by decide +kernel
theorem dL_pass_16 : decode cL_pass 16 = .ok (.iconst 2, 1) := by decide +kernel
theorem dL_pass_17 : decode cL_pass 17 = .ok (.ireturn, 1) := by decide +kernel
theorem dL_pass_18 : decode cL_pass 18 = .ok (.iconst 0, 1) := by decide +kernel
theorem dL_pass_19 : decode cL_pass 19 = .ok (.ireturn, 1) := by decide +kernel
theorem dL_ship_0 : decode cL_ship 0 = .ok (.aload 6, 2) := by decide +kernel
theorem dL_ship_2 : decode cL_ship 2 = .ok (.iconst 0, 1) := by decide +kernel
theorem dL_ship_3 : decode cL_ship 3 = .ok (.aload_n 0, 1) := by decide +kernel
theorem dL_ship_4 : decode cL_ship 4 = .ok (.iload_n 1, 1) := by decide +kernel
theorem dL_ship_5 : decode cL_ship 5 = .ok (.iload_n 2, 1) := by decide +kernel
theorem dL_ship_6 : decode cL_ship 6 = .ok (.iload_n 3, 1) := by decide +kernel
theorem dL_ship_7 : decode cL_ship 7 = .ok (.iload 4, 2) := by decide +kernel
theorem dL_ship_9 : decode cL_ship 9 = .ok (.iload 5, 2) := by decide +kernel
theorem dL_ship_11 : decode cL_ship 11 = .ok (.invokevirtual 17, 3) := by decide +kernel
theorem dL_ship_14 : decode cL_ship 14 = .ok (.i2l, 1) := by decide +kernel
theorem dL_ship_15 : decode cL_ship 15 = .ok (.lastore, 1) := by decide +kernel
theorem dL_ship_16 : decode cL_ship 16 = .ok (.goto 15, 3) := by decide +kernel
theorem dL_ship_19 : decode cL_ship 19 = .ok (.astore 7, 2) := by decide +kernel
theorem dL_ship_21 : decode cL_ship 21 = .ok (.iconst 1, 1) := by decide +kernel
theorem dL_ship_22 : decode cL_ship 22 = .ok (.ireturn, 1) := by decide +kernel
theorem dL_ship_23 : decode cL_ship 23 = .ok (.astore 7, 2) := by decide +kernel
theorem dL_ship_25 : decode cL_ship 25 = .ok (.iconst 2, 1) := by decide +kernel
theorem dL_ship_26 : decode cL_ship 26 = .ok (.ireturn, 1) := by decide +kernel
theorem dL_ship_27 : decode cL_ship 27 = .ok (.astore 7, 2) := by decide +kernel
theorem dL_ship_29 : decode cL_ship 29 = .ok (.iconst 3, 1) := by decide +kernel
theorem dL_ship_30 : decode cL_ship 30 = .ok (.ireturn, 1) := by decide +kernel
theorem dL_ship_31 : decode cL_ship 31 = .ok (.iconst 0, 1) := by decide +kernel
theorem dL_ship_32 : decode cL_ship 32 = .ok (.ireturn, 1) := by decide +kernel
theorem dL_changes_0 : decode cL_changes 0 = .ok (.aload 4, 2) := by decide +kernel
theorem dL_changes_2 : decode cL_changes 2 = .ok (.iconst 0, 1) := by decide +kernel
theorem dL_changes_3 : decode cL_changes 3 = .ok (.aload_n 0, 1) := by decide +kernel
theorem dL_changes_4 : decode cL_changes 4 = .ok (.iload_n 1, 1) := by decide +kernel
theorem dL_changes_5 : decode cL_changes 5 = .ok (.iload_n 2, 1) := by decide +kernel
theorem dL_changes_6 : decode cL_changes 6 = .ok (.iload_n 3, 1) := by decide +kernel
theorem dL_changes_7 : decode cL_changes 7 = .ok (.invokevirtual 23, 3) := by decide +kernel
theorem dL_changes_10 : decode cL_changes 10 = .ok (.i2l, 1) := by decide +kernel
theorem dL_changes_11 : decode cL_changes 11 = .ok (.lastore, 1) := by decide +kernel
theorem dL_changes_12 : decode cL_changes 12 = .ok (.goto 7, 3) := by decide +kernel
theorem dL_changes_15 : decode cL_changes 15 = .ok (.astore 5, 2) := by decide +kernel
theorem dL_changes_17 : decode cL_changes 17 = .ok (.iconst 1, 1) := by decide +kernel
theorem dL_changes_18 : decode cL_changes 18 = .ok (.ireturn, 1) := by decide +kernel
theorem dL_changes_19 : decode cL_changes 19 = .ok (.iconst 0, 1) := by decide +kernel
theorem dL_changes_20 : decode cL_changes 20 = .ok (.ireturn, 1) := by decide +kernel
theorem dL_suspend_0 : decode cL_suspend 0 = .ok (.aload_n 3, 1) := by decide +kernel
theorem dL_suspend_1 : decode cL_suspend 1 = .ok (.iconst 0, 1) := by decide +kernel
theorem dL_suspend_2 : decode cL_suspend 2 = .ok (.aload_n 0, 1) := by decide +kernel
theorem dL_suspend_3 : decode cL_suspend 3 = .ok (.iload_n 1, 1) := by decide +kernel
theorem dL_suspend_4 : decode cL_suspend 4 = .ok (.iload_n 2, 1) := by decide +kernel
theorem dL_suspend_5 : decode cL_suspend 5 = .ok (.invokevirtual 27, 3) := by decide +kernel
theorem dL_suspend_8 : decode cL_suspend 8 = .ok (.ifCond .eq 7, 3) := by decide +kernel
theorem dL_suspend_11 : decode cL_suspend 11 = .ok (.lconst 1, 1) := by decide +kernel
theorem dL_suspend_12 : decode cL_suspend 12 = .ok (.goto 4, 3) := by decide +kernel
theorem dL_suspend_15 : decode cL_suspend 15 = .ok (.lconst 0, 1) := by decide +kernel
theorem dL_suspend_16 : decode cL_suspend 16 = .ok (.lastore, 1) := by decide +kernel
theorem dL_suspend_17 : decode cL_suspend 17 = .ok (.goto 7, 3) := by decide +kernel
theorem dL_suspend_20 : decode cL_suspend 20 = .ok (.astore 4, 2) := by decide +kernel
theorem dL_suspend_22 : decode cL_suspend 22 = .ok (.iconst 1, 1) := by decide +kernel
theorem dL_suspend_23 : decode cL_suspend 23 = .ok (.ireturn, 1) := by decide +kernel
theorem dL_suspend_24 : decode cL_suspend 24 = .ok (.iconst 0, 1) := by decide +kernel
theorem dL_suspend_25 : decode cL_suspend 25 = .ok (.ireturn, 1) := by decide +kernel
theorem dL_rule_0 : decode cL_rule 0 = .ok (.aload 6, 2) := by decide +kernel
theorem dL_rule_2 : decode cL_rule 2 = .ok (.iconst 0, 1) := by decide +kernel
theorem dL_rule_3 : decode cL_rule 3 = .ok (.aload_n 0, 1) := by decide +kernel
theorem dL_rule_4 : decode cL_rule 4 = .ok (.iload_n 1, 1) := by decide +kernel
theorem dL_rule_5 : decode cL_rule 5 = .ok (.iload_n 2, 1) := by decide +kernel
theorem dL_rule_6 : decode cL_rule 6 = .ok (.iload_n 3, 1) := by decide +kernel
theorem dL_rule_7 : decode cL_rule 7 = .ok (.iload 4, 2) := by decide +kernel
theorem dL_rule_9 : decode cL_rule 9 = .ok (.iload 5, 2) := by decide +kernel
theorem dL_rule_11 : decode cL_rule 11 = .ok (.invokevirtual 31, 3) := by decide +kernel
theorem dL_rule_14 : decode cL_rule 14 = .ok (.i2l, 1) := by decide +kernel
theorem dL_rule_15 : decode cL_rule 15 = .ok (.lastore, 1) := by decide +kernel
theorem dL_rule_16 : decode cL_rule 16 = .ok (.goto 11, 3) := by decide +kernel
theorem dL_rule_19 : decode cL_rule 19 = .ok (.astore 7, 2) := by decide +kernel
theorem dL_rule_21 : decode cL_rule 21 = .ok (.iconst 1, 1) := by decide +kernel
theorem dL_rule_22 : decode cL_rule 22 = .ok (.ireturn, 1) := by decide +kernel
theorem dL_rule_23 : decode cL_rule 23 = .ok (.astore 7, 2) := by decide +kernel
theorem dL_rule_25 : decode cL_rule 25 = .ok (.iconst 2, 1) := by decide +kernel
theorem dL_rule_26 : decode cL_rule 26 = .ok (.ireturn, 1) := by decide +kernel
theorem dL_rule_27 : decode cL_rule 27 = .ok (.iconst 0, 1) := by decide +kernel
theorem dL_rule_28 : decode cL_rule 28 = .ok (.ireturn, 1) := by decide +kernel
theorem dL_issue_0 : decode cL_issue 0 = .ok (.aload 4, 2) := by decide +kernel
theorem dL_issue_2 : decode cL_issue 2 = .ok (.iconst 0, 1) := by decide +kernel
theorem dL_issue_3 : decode cL_issue 3 = .ok (.aload_n 0, 1) := by decide +kernel
theorem dL_issue_4 : decode cL_issue 4 = .ok (.iload_n 1, 1) := by decide +kernel
theorem dL_issue_5 : decode cL_issue 5 = .ok (.iload_n 2, 1) := by decide +kernel
theorem dL_issue_6 : decode cL_issue 6 = .ok (.iload_n 3, 1) := by decide +kernel
theorem dL_issue_7 : decode cL_issue 7 = .ok (.invokevirtual 34, 3) := by decide +kernel
theorem dL_issue_10 : decode cL_issue 10 = .ok (.i2l, 1) := by decide +kernel
theorem dL_issue_11 : decode cL_issue 11 = .ok (.lastore, 1) := by decide +kernel
theorem dL_issue_12 : decode cL_issue 12 = .ok (.goto 15, 3) := by decide +kernel
theorem dL_issue_15 : decode cL_issue 15 = .ok (.astore 5, 2) := by decide +kernel
theorem dL_issue_17 : decode cL_issue 17 = .ok (.iconst 1, 1) := by decide +kernel
theorem dL_issue_18 : decode cL_issue 18 = .ok (.ireturn, 1) := by decide +kernel
theorem dL_issue_19 : decode cL_issue 19 = .ok (.astore 5, 2) := by decide +kernel
theorem dL_issue_21 : decode cL_issue 21 = .ok (.iconst 2, 1) := by decide +kernel
theorem dL_issue_22 : decode cL_issue 22 = .ok (.ireturn, 1) := by decide +kernel
theorem dL_issue_23 : decode cL_issue 23 = .ok (.astore 5, 2) := by decide +kernel
theorem dL_issue_25 : decode cL_issue 25 = .ok (.iconst 3, 1) := by decide +kernel
theorem dL_issue_26 : decode cL_issue 26 = .ok (.ireturn, 1) := by decide +kernel
theorem dL_issue_27 : decode cL_issue 27 = .ok (.iconst 0, 1) := by decide +kernel
theorem dL_issue_28 : decode cL_issue 28 = .ok (.ireturn, 1) := by decide +kernel
theorem dL_endorse_0 : decode cL_endorse 0 = .ok (.aload_n 3, 1) := by decide +kernel
theorem dL_endorse_1 : decode cL_endorse 1 = .ok (.iconst 0, 1) := by decide +kernel
theorem dL_endorse_2 : decode cL_endorse 2 = .ok (.aload_n 0, 1) := by decide +kernel
theorem dL_endorse_3 : decode cL_endorse 3 = .ok (.iload_n 1, 1) := by decide +kernel
theorem dL_endorse_4 : decode cL_endorse 4 = .ok (.iload_n 2, 1) := by decide +kernel
theorem dL_endorse_5 : decode cL_endorse 5 = .ok (.invokevirtual 37, 3) := by decide +kernel
theorem dL_endorse_8 : decode cL_endorse 8 = .ok (.i2l, 1) := by decide +kernel
theorem dL_endorse_9 : decode cL_endorse 9 = .ok (.lastore, 1) := by decide +kernel
theorem dL_endorse_10 : decode cL_endorse 10 = .ok (.goto 15, 3) := by decide +kernel
theorem dL_endorse_13 : decode cL_endorse 13 = .ok (.astore 4, 2) := by decide +kernel
theorem dL_endorse_15 : decode cL_endorse 15 = .ok (.iconst 1, 1) := by decide +kernel
theorem dL_endorse_16 : decode cL_endorse 16 = .ok (.ireturn, 1) := by decide +kernel
theorem dL_endorse_17 : decode cL_endorse 17 = .ok (.astore 4, 2) := by decide +kernel
theorem dL_endorse_19 : decode cL_endorse 19 = .ok (.iconst 2, 1) := by decide +kernel
theorem dL_endorse_20 : decode cL_endorse 20 = .ok (.ireturn, 1) := by decide +kernel
theorem dL_endorse_21 : decode cL_endorse 21 = .ok (.astore 4, 2) := by decide +kernel
theorem dL_endorse_23 : decode cL_endorse 23 = .ok (.iconst 3, 1) := by decide +kernel
theorem dL_endorse_24 : decode cL_endorse 24 = .ok (.ireturn, 1) := by decide +kernel
theorem dL_endorse_25 : decode cL_endorse 25 = .ok (.iconst 0, 1) := by decide +kernel
theorem dL_endorse_26 : decode cL_endorse 26 = .ok (.ireturn, 1) := by decide +kernel
theorem dL_calls_0 : decode cL_calls 0 = .ok (.aload_n 3, 1) := by decide +kernel
theorem dL_calls_1 : decode cL_calls 1 = .ok (.iconst 0, 1) := by decide +kernel
theorem dL_calls_2 : decode cL_calls 2 = .ok (.aload_n 0, 1) := by decide +kernel
theorem dL_calls_3 : decode cL_calls 3 = .ok (.iload_n 1, 1) := by decide +kernel
theorem dL_calls_4 : decode cL_calls 4 = .ok (.iload_n 2, 1) := by decide +kernel
theorem dL_calls_5 : decode cL_calls 5 = .ok (.invokevirtual 41, 3) := by decide +kernel
theorem dL_calls_8 : decode cL_calls 8 = .ok (.i2l, 1) := by decide +kernel
theorem dL_calls_9 : decode cL_calls 9 = .ok (.lastore, 1) := by decide +kernel
theorem dL_calls_10 : decode cL_calls 10 = .ok (.goto 11, 3) := by decide +kernel
theorem dL_calls_13 : decode cL_calls 13 = .ok (.astore 4, 2) := by decide +kernel
theorem dL_calls_15 : decode cL_calls 15 = .ok (.iconst 1, 1) := by decide +kernel
theorem dL_calls_16 : decode cL_calls 16 = .ok (.ireturn, 1) := by decide +kernel
theorem dL_calls_17 : decode cL_calls 17 = .ok (.astore 4, 2) := by decide +kernel
theorem dL_calls_19 : decode cL_calls 19 = .ok (.iconst 2, 1) := by decide +kernel
theorem dL_calls_20 : decode cL_calls 20 = .ok (.ireturn, 1) := by decide +kernel
theorem dL_calls_21 : decode cL_calls 21 = .ok (.iconst 0, 1) := by decide +kernel
theorem dL_calls_22 : decode cL_calls 22 = .ok (.ireturn, 1) := by decide +kernel
theorem dL_leaves_0 : decode cL_leaves 0 = .ok (.aload_n 2, 1) := by decide +kernel
theorem dL_leaves_1 : decode cL_leaves 1 = .ok (.iconst 0, 1) := by decide +kernel
theorem dL_leaves_2 : decode cL_leaves 2 = .ok (.aload_n 0, 1) := by decide +kernel
theorem dL_leaves_3 : decode cL_leaves 3 = .ok (.iload_n 1, 1) := by decide +kernel
theorem dL_leaves_4 : decode cL_leaves 4 = .ok (.invokevirtual 44, 3) := by decide +kernel
theorem dL_leaves_7 : decode cL_leaves 7 = .ok (.ifCond .eq 7, 3) := by decide +kernel
theorem dL_leaves_10 : decode cL_leaves 10 = .ok (.lconst 1, 1) := by decide +kernel
theorem dL_leaves_11 : decode cL_leaves 11 = .ok (.goto 4, 3) := by decide +kernel
theorem dL_leaves_14 : decode cL_leaves 14 = .ok (.lconst 0, 1) := by decide +kernel
theorem dL_leaves_15 : decode cL_leaves 15 = .ok (.lastore, 1) := by decide +kernel
theorem dL_leaves_16 : decode cL_leaves 16 = .ok (.goto 9, 3) := by decide +kernel
theorem dL_leaves_19 : decode cL_leaves 19 = .ok (.astore_n 3, 1) := by decide +kernel
theorem dL_leaves_20 : decode cL_leaves 20 = .ok (.iconst 1, 1) := by decide +kernel
theorem dL_leaves_21 : decode cL_leaves 21 = .ok (.ireturn, 1) := by decide +kernel
theorem dL_leaves_22 : decode cL_leaves 22 = .ok (.astore_n 3, 1) := by decide +kernel
theorem dL_leaves_23 : decode cL_leaves 23 = .ok (.iconst 2, 1) := by decide +kernel
theorem dL_leaves_24 : decode cL_leaves 24 = .ok (.ireturn, 1) := by decide +kernel
theorem dL_leaves_25 : decode cL_leaves 25 = .ok (.iconst 0, 1) := by decide +kernel
theorem dL_leaves_26 : decode cL_leaves 26 = .ok (.ireturn, 1) := by decide +kernel
theorem dL_visit_0 : decode cL_visit 0 = .ok (.aload_n 2, 1) := by decide +kernel
theorem dL_visit_1 : decode cL_visit 1 = .ok (.iconst 0, 1) := by decide +kernel
theorem dL_visit_2 : decode cL_visit 2 = .ok (.aload_n 0, 1) := by decide +kernel
theorem dL_visit_3 : decode cL_visit 3 = .ok (.iload_n 1, 1) := by decide +kernel
theorem dL_visit_4 : decode cL_visit 4 = .ok (.invokevirtual 48, 3) := by decide +kernel
theorem dL_visit_7 : decode cL_visit 7 = .ok (.i2l, 1) := by decide +kernel
theorem dL_visit_8 : decode cL_visit 8 = .ok (.lastore, 1) := by decide +kernel
theorem dL_visit_9 : decode cL_visit 9 = .ok (.goto 9, 3) := by decide +kernel
theorem dL_visit_12 : decode cL_visit 12 = .ok (.astore_n 3, 1) := by decide +kernel
theorem dL_visit_13 : decode cL_visit 13 = .ok (.iconst 1, 1) := by decide +kernel
theorem dL_visit_14 : decode cL_visit 14 = .ok (.ireturn, 1) := by decide +kernel
theorem dL_visit_15 : decode cL_visit 15 = .ok (.astore_n 3, 1) := by decide +kernel
theorem dL_visit_16 : decode cL_visit 16 = .ok (.iconst 2, 1) := by decide +kernel
theorem dL_visit_17 : decode cL_visit 17 = .ok (.ireturn, 1) := by decide +kernel
theorem dL_visit_18 : decode cL_visit 18 = .ok (.iconst 0, 1) := by decide +kernel
theorem dL_visit_19 : decode cL_visit 19 = .ok (.ireturn, 1) := by decide +kernel
theorem dL_finds_0 : decode cL_finds 0 = .ok (.aload 4, 2) := by decide +kernel
theorem dL_finds_2 : decode cL_finds 2 = .ok (.iconst 0, 1) := by decide +kernel
theorem dL_finds_3 : decode cL_finds 3 = .ok (.aload_n 0, 1) := by decide +kernel
theorem dL_finds_4 : decode cL_finds 4 = .ok (.iload_n 1, 1) := by decide +kernel
theorem dL_finds_5 : decode cL_finds 5 = .ok (.iload_n 2, 1) := by decide +kernel
theorem dL_finds_6 : decode cL_finds 6 = .ok (.iload_n 3, 1) := by decide +kernel
theorem dL_finds_7 : decode cL_finds 7 = .ok (.invokevirtual 51, 3) := by decide +kernel
theorem dL_finds_10 : decode cL_finds 10 = .ok (.i2l, 1) := by decide +kernel
theorem dL_finds_11 : decode cL_finds 11 = .ok (.lastore, 1) := by decide +kernel
theorem dL_finds_12 : decode cL_finds 12 = .ok (.goto 15, 3) := by decide +kernel
theorem dL_finds_15 : decode cL_finds 15 = .ok (.astore 5, 2) := by decide +kernel
theorem dL_finds_17 : decode cL_finds 17 = .ok (.iconst 1, 1) := by decide +kernel
theorem dL_finds_18 : decode cL_finds 18 = .ok (.ireturn, 1) := by decide +kernel
theorem dL_finds_19 : decode cL_finds 19 = .ok (.astore 5, 2) := by decide +kernel
theorem dL_finds_21 : decode cL_finds 21 = .ok (.iconst 2, 1) := by decide +kernel
theorem dL_finds_22 : decode cL_finds 22 = .ok (.ireturn, 1) := by decide +kernel
theorem dL_finds_23 : decode cL_finds 23 = .ok (.astore 5, 2) := by decide +kernel
theorem dL_finds_25 : decode cL_finds 25 = .ok (.iconst 3, 1) := by decide +kernel
theorem dL_finds_26 : decode cL_finds 26 = .ok (.ireturn, 1) := by decide +kernel
theorem dL_finds_27 : decode cL_finds 27 = .ok (.iconst 0, 1) := by decide +kernel
theorem dL_finds_28 : decode cL_finds 28 = .ok (.ireturn, 1) := by decide +kernel
theorem dL_mends_0 : decode cL_mends 0 = .ok (.aload 4, 2) := by decide +kernel
theorem dL_mends_2 : decode cL_mends 2 = .ok (.iconst 0, 1) := by decide +kernel
theorem dL_mends_3 : decode cL_mends 3 = .ok (.aload_n 0, 1) := by decide +kernel
theorem dL_mends_4 : decode cL_mends 4 = .ok (.iload_n 1, 1) := by decide +kernel
theorem dL_mends_5 : decode cL_mends 5 = .ok (.iload_n 2, 1) := by decide +kernel
theorem dL_mends_6 : decode cL_mends 6 = .ok (.iload_n 3, 1) := by decide +kernel
theorem dL_mends_7 : decode cL_mends 7 = .ok (.invokevirtual 54, 3) := by decide +kernel
theorem dL_mends_10 : decode cL_mends 10 = .ok (.i2l, 1) := by decide +kernel
theorem dL_mends_11 : decode cL_mends 11 = .ok (.lastore, 1) := by decide +kernel
theorem dL_mends_12 : decode cL_mends 12 = .ok (.goto 11, 3) := by decide +kernel
theorem dL_mends_15 : decode cL_mends 15 = .ok (.astore 5, 2) := by decide +kernel
theorem dL_mends_17 : decode cL_mends 17 = .ok (.iconst 1, 1) := by decide +kernel
theorem dL_mends_18 : decode cL_mends 18 = .ok (.ireturn, 1) := by decide +kernel
theorem dL_mends_19 : decode cL_mends 19 = .ok (.astore 5, 2) := by decide +kernel
theorem dL_mends_21 : decode cL_mends 21 = .ok (.iconst 2, 1) := by decide +kernel
theorem dL_mends_22 : decode cL_mends 22 = .ok (.ireturn, 1) := by decide +kernel
theorem dL_mends_23 : decode cL_mends 23 = .ok (.iconst 0, 1) := by decide +kernel
theorem dL_mends_24 : decode cL_mends 24 = .ok (.ireturn, 1) := by decide +kernel
theorem dL_detain_0 : decode cL_detain 0 = .ok (.aload_n 2, 1) := by decide +kernel
theorem dL_detain_1 : decode cL_detain 1 = .ok (.iconst 0, 1) := by decide +kernel
theorem dL_detain_2 : decode cL_detain 2 = .ok (.aload_n 0, 1) := by decide +kernel
theorem dL_detain_3 : decode cL_detain 3 = .ok (.iload_n 1, 1) := by decide +kernel
theorem dL_detain_4 : decode cL_detain 4 = .ok (.invokevirtual 58, 3) := by decide +kernel
theorem dL_detain_7 : decode cL_detain 7 = .ok (.i2l, 1) := by decide +kernel
theorem dL_detain_8 : decode cL_detain 8 = .ok (.lastore, 1) := by decide +kernel
theorem dL_detain_9 : decode cL_detain 9 = .ok (.goto 9, 3) := by decide +kernel
theorem dL_detain_12 : decode cL_detain 12 = .ok (.astore_n 3, 1) := by decide +kernel
theorem dL_detain_13 : decode cL_detain 13 = .ok (.iconst 1, 1) := by decide +kernel
theorem dL_detain_14 : decode cL_detain 14 = .ok (.ireturn, 1) := by decide +kernel
theorem dL_detain_15 : decode cL_detain 15 = .ok (.astore_n 3, 1) := by decide +kernel
theorem dL_detain_16 : decode cL_detain 16 = .ok (.iconst 2, 1) := by decide +kernel
theorem dL_detain_17 : decode cL_detain 17 = .ok (.ireturn, 1) := by decide +kernel
theorem dL_detain_18 : decode cL_detain 18 = .ok (.iconst 0, 1) := by decide +kernel
theorem dL_detain_19 : decode cL_detain 19 = .ok (.ireturn, 1) := by decide +kernel
theorem dL_release_0 : decode cL_release 0 = .ok (.aload_n 2, 1) := by decide +kernel
theorem dL_release_1 : decode cL_release 1 = .ok (.iconst 0, 1) := by decide +kernel
theorem dL_release_2 : decode cL_release 2 = .ok (.aload_n 0, 1) := by decide +kernel
theorem dL_release_3 : decode cL_release 3 = .ok (.iload_n 1, 1) := by decide +kernel
theorem dL_release_4 : decode cL_release 4 = .ok (.invokevirtual 61, 3) := by decide +kernel
theorem dL_release_7 : decode cL_release 7 = .ok (.i2l, 1) := by decide +kernel
theorem dL_release_8 : decode cL_release 8 = .ok (.lastore, 1) := by decide +kernel
theorem dL_release_9 : decode cL_release 9 = .ok (.goto 9, 3) := by decide +kernel
theorem dL_release_12 : decode cL_release 12 = .ok (.astore_n 3, 1) := by decide +kernel
theorem dL_release_13 : decode cL_release 13 = .ok (.iconst 1, 1) := by decide +kernel
theorem dL_release_14 : decode cL_release 14 = .ok (.ireturn, 1) := by decide +kernel
theorem dL_release_15 : decode cL_release 15 = .ok (.astore_n 3, 1) := by decide +kernel
theorem dL_release_16 : decode cL_release 16 = .ok (.iconst 2, 1) := by decide +kernel
theorem dL_release_17 : decode cL_release 17 = .ok (.ireturn, 1) := by decide +kernel
theorem dL_release_18 : decode cL_release 18 = .ok (.iconst 0, 1) := by decide +kernel
theorem dL_release_19 : decode cL_release 19 = .ok (.ireturn, 1) := by decide +kernel
theorem dL_appeal_0 : decode cL_appeal 0 = .ok (.aload_n 0, 1) := by decide +kernel
theorem dL_appeal_1 : decode cL_appeal 1 = .ok (.iload_n 1, 1) := by decide +kernel
theorem dL_appeal_2 : decode cL_appeal 2 = .ok (.invokevirtual 64, 3) := by decide +kernel
theorem dL_appeal_5 : decode cL_appeal 5 = .ok (.goto 9, 3) := by decide +kernel
theorem dL_appeal_8 : decode cL_appeal 8 = .ok (.astore_n 2, 1) := by decide +kernel
theorem dL_appeal_9 : decode cL_appeal 9 = .ok (.iconst 1, 1) := by decide +kernel
theorem dL_appeal_10 : decode cL_appeal 10 = .ok (.ireturn, 1) := by decide +kernel
theorem dL_appeal_11 : decode cL_appeal 11 = .ok (.astore_n 2, 1) := by decide +kernel
theorem dL_appeal_12 : decode cL_appeal 12 = .ok (.iconst 2, 1) := by decide +kernel
theorem dL_appeal_13 : decode cL_appeal 13 = .ok (.ireturn, 1) := by decide +kernel
theorem dL_appeal_14 : decode cL_appeal 14 = .ok (.iconst 0, 1) := by decide +kernel
theorem dL_appeal_15 : decode cL_appeal 15 = .ok (.ireturn, 1) := by decide +kernel
theorem dL_vote_0 : decode cL_vote 0 = .ok (.aload_n 3, 1) := by decide +kernel
theorem dL_vote_1 : decode cL_vote 1 = .ok (.iconst 0, 1) := by decide +kernel
theorem dL_vote_2 : decode cL_vote 2 = .ok (.aload_n 0, 1) := by decide +kernel
theorem dL_vote_3 : decode cL_vote 3 = .ok (.iload_n 1, 1) := by decide +kernel
theorem dL_vote_4 : decode cL_vote 4 = .ok (.iload_n 2, 1) := by decide +kernel
theorem dL_vote_5 : decode cL_vote 5 = .ok (.invokevirtual 68, 3) := by decide +kernel
theorem dL_vote_8 : decode cL_vote 8 = .ok (.i2l, 1) := by decide +kernel
theorem dL_vote_9 : decode cL_vote 9 = .ok (.lastore, 1) := by decide +kernel
theorem dL_vote_10 : decode cL_vote 10 = .ok (.goto 11, 3) := by decide +kernel
theorem dL_vote_13 : decode cL_vote 13 = .ok (.astore 4, 2) := by decide +kernel
theorem dL_vote_15 : decode cL_vote 15 = .ok (.iconst 1, 1) := by decide +kernel
theorem dL_vote_16 : decode cL_vote 16 = .ok (.ireturn, 1) := by decide +kernel
theorem dL_vote_17 : decode cL_vote 17 = .ok (.astore 4, 2) := by decide +kernel
theorem dL_vote_19 : decode cL_vote 19 = .ok (.iconst 2, 1) := by decide +kernel
theorem dL_vote_20 : decode cL_vote 20 = .ok (.ireturn, 1) := by decide +kernel
theorem dL_vote_21 : decode cL_vote 21 = .ok (.iconst 0, 1) := by decide +kernel
theorem dL_vote_22 : decode cL_vote 22 = .ok (.ireturn, 1) := by decide +kernel
theorem dL_ofShip_0 : decode cL_ofShip 0 = .ok (.aload_n 3, 1) := by decide +kernel
theorem dL_ofShip_1 : decode cL_ofShip 1 = .ok (.iconst 0, 1) := by decide +kernel
theorem dL_ofShip_2 : decode cL_ofShip 2 = .ok (.aload_n 0, 1) := by decide +kernel
theorem dL_ofShip_3 : decode cL_ofShip 3 = .ok (.iload_n 1, 1) := by decide +kernel
theorem dL_ofShip_4 : decode cL_ofShip 4 = .ok (.iload_n 2, 1) := by decide +kernel
theorem dL_ofShip_5 : decode cL_ofShip 5 = .ok (.invokevirtual 72, 3) := by decide +kernel
theorem dL_ofShip_8 : decode cL_ofShip 8 = .ok (.i2l, 1) := by decide +kernel
theorem dL_ofShip_9 : decode cL_ofShip 9 = .ok (.lastore, 1) := by decide +kernel
theorem dL_ofShip_10 : decode cL_ofShip 10 = .ok (.goto 11, 3) := by decide +kernel
theorem dL_ofShip_13 : decode cL_ofShip 13 = .ok (.astore 4, 2) := by decide +kernel
theorem dL_ofShip_15 : decode cL_ofShip 15 = .ok (.iconst 1, 1) := by decide +kernel
theorem dL_ofShip_16 : decode cL_ofShip 16 = .ok (.ireturn, 1) := by decide +kernel
theorem dL_ofShip_17 : decode cL_ofShip 17 = .ok (.astore 4, 2) := by decide +kernel
theorem dL_ofShip_19 : decode cL_ofShip 19 = .ok (.iconst 2, 1) := by decide +kernel
theorem dL_ofShip_20 : decode cL_ofShip 20 = .ok (.ireturn, 1) := by decide +kernel
theorem dL_ofShip_21 : decode cL_ofShip 21 = .ok (.iconst 0, 1) := by decide +kernel
theorem dL_ofShip_22 : decode cL_ofShip 22 = .ok (.ireturn, 1) := by decide +kernel
theorem dL_pointsAnew_0 : decode cL_pointsAnew 0 = .ok (.aload_n 2, 1) := by decide +kernel
theorem dL_pointsAnew_1 : decode cL_pointsAnew 1 = .ok (.iconst 0, 1) := by decide +kernel
theorem dL_pointsAnew_2 : decode cL_pointsAnew 2 = .ok (.aload_n 0, 1) := by decide +kernel
theorem dL_pointsAnew_3 : decode cL_pointsAnew 3 = .ok (.iload_n 1, 1) := by decide +kernel
theorem dL_pointsAnew_4 : decode cL_pointsAnew 4 = .ok (.invokevirtual 75, 3) := by decide +kernel
theorem dL_pointsAnew_7 : decode cL_pointsAnew 7 = .ok (.i2l, 1) := by decide +kernel
theorem dL_pointsAnew_8 : decode cL_pointsAnew 8 = .ok (.lastore, 1) := by decide +kernel
theorem dL_pointsAnew_9 : decode cL_pointsAnew 9 = .ok (.goto 6, 3) := by decide +kernel
theorem dL_pointsAnew_12 : decode cL_pointsAnew 12 = .ok (.astore_n 3, 1) := by decide +kernel
theorem dL_pointsAnew_13 : decode cL_pointsAnew 13 = .ok (.iconst 1, 1) := by decide +kernel
theorem dL_pointsAnew_14 : decode cL_pointsAnew 14 = .ok (.ireturn, 1) := by decide +kernel
theorem dL_pointsAnew_15 : decode cL_pointsAnew 15 = .ok (.iconst 0, 1) := by decide +kernel
theorem dL_pointsAnew_16 : decode cL_pointsAnew 16 = .ok (.ireturn, 1) := by decide +kernel
theorem dL_isGround_0 : decode cL_isGround 0 = .ok (.aload_n 3, 1) := by decide +kernel
theorem dL_isGround_1 : decode cL_isGround 1 = .ok (.iconst 0, 1) := by decide +kernel
theorem dL_isGround_2 : decode cL_isGround 2 = .ok (.aload_n 0, 1) := by decide +kernel
theorem dL_isGround_3 : decode cL_isGround 3 = .ok (.iload_n 1, 1) := by decide +kernel
theorem dL_isGround_4 : decode cL_isGround 4 = .ok (.iload_n 2, 1) := by decide +kernel
theorem dL_isGround_5 : decode cL_isGround 5 = .ok (.invokevirtual 78, 3) := by decide +kernel
theorem dL_isGround_8 : decode cL_isGround 8 = .ok (.ifCond .eq 7, 3) := by decide +kernel
theorem dL_isGround_11 : decode cL_isGround 11 = .ok (.lconst 1, 1) := by decide +kernel
theorem dL_isGround_12 : decode cL_isGround 12 = .ok (.goto 4, 3) := by decide +kernel
theorem dL_isGround_15 : decode cL_isGround 15 = .ok (.lconst 0, 1) := by decide +kernel
theorem dL_isGround_16 : decode cL_isGround 16 = .ok (.lastore, 1) := by decide +kernel
theorem dL_isGround_17 : decode cL_isGround 17 = .ok (.goto 11, 3) := by decide +kernel
theorem dL_isGround_20 : decode cL_isGround 20 = .ok (.astore 4, 2) := by decide +kernel
theorem dL_isGround_22 : decode cL_isGround 22 = .ok (.iconst 1, 1) := by decide +kernel
theorem dL_isGround_23 : decode cL_isGround 23 = .ok (.ireturn, 1) := by decide +kernel
theorem dL_isGround_24 : decode cL_isGround 24 = .ok (.astore 4, 2) := by decide +kernel
theorem dL_isGround_26 : decode cL_isGround 26 = .ok (.iconst 2, 1) := by decide +kernel
theorem dL_isGround_27 : decode cL_isGround 27 = .ok (.ireturn, 1) := by decide +kernel
theorem dL_isGround_28 : decode cL_isGround 28 = .ok (.iconst 0, 1) := by decide +kernel
theorem dL_isGround_29 : decode cL_isGround 29 = .ok (.ireturn, 1) := by decide +kernel
theorem dL_ofVisit_0 : decode cL_ofVisit 0 = .ok (.aload_n 3, 1) := by decide +kernel
theorem dL_ofVisit_1 : decode cL_ofVisit 1 = .ok (.iconst 0, 1) := by decide +kernel
theorem dL_ofVisit_2 : decode cL_ofVisit 2 = .ok (.aload_n 0, 1) := by decide +kernel
theorem dL_ofVisit_3 : decode cL_ofVisit 3 = .ok (.iload_n 1, 1) := by decide +kernel
theorem dL_ofVisit_4 : decode cL_ofVisit 4 = .ok (.iload_n 2, 1) := by decide +kernel
theorem dL_ofVisit_5 : decode cL_ofVisit 5 = .ok (.invokevirtual 82, 3) := by decide +kernel
theorem dL_ofVisit_8 : decode cL_ofVisit 8 = .ok (.i2l, 1) := by decide +kernel
theorem dL_ofVisit_9 : decode cL_ofVisit 9 = .ok (.lastore, 1) := by decide +kernel
theorem dL_ofVisit_10 : decode cL_ofVisit 10 = .ok (.goto 11, 3) := by decide +kernel
theorem dL_ofVisit_13 : decode cL_ofVisit 13 = .ok (.astore 4, 2) := by decide +kernel
theorem dL_ofVisit_15 : decode cL_ofVisit 15 = .ok (.iconst 1, 1) := by decide +kernel
theorem dL_ofVisit_16 : decode cL_ofVisit 16 = .ok (.ireturn, 1) := by decide +kernel
theorem dL_ofVisit_17 : decode cL_ofVisit 17 = .ok (.astore 4, 2) := by decide +kernel
theorem dL_ofVisit_19 : decode cL_ofVisit 19 = .ok (.iconst 2, 1) := by decide +kernel
theorem dL_ofVisit_20 : decode cL_ofVisit 20 = .ok (.ireturn, 1) := by decide +kernel
theorem dL_ofVisit_21 : decode cL_ofVisit 21 = .ok (.iconst 0, 1) := by decide +kernel
theorem dL_ofVisit_22 : decode cL_ofVisit 22 = .ok (.ireturn, 1) := by decide +kernel
theorem dL_list_0 : decode cL_list 0 = .ok (.aload_n 2, 1) := by decide +kernel
theorem dL_list_1 : decode cL_list 1 = .ok (.iconst 0, 1) := by decide +kernel
theorem dL_list_2 : decode cL_list 2 = .ok (.aload_n 0, 1) := by decide +kernel
theorem dL_list_3 : decode cL_list 3 = .ok (.iload_n 1, 1) := by decide +kernel
theorem dL_list_4 : decode cL_list 4 = .ok (.invokevirtual 85, 3) := by decide +kernel
theorem dL_list_7 : decode cL_list 7 = .ok (.i2l, 1) := by decide +kernel
theorem dL_list_8 : decode cL_list 8 = .ok (.lastore, 1) := by decide +kernel
theorem dL_list_9 : decode cL_list 9 = .ok (.goto 6, 3) := by decide +kernel
theorem dL_list_12 : decode cL_list 12 = .ok (.astore_n 3, 1) := by decide +kernel
theorem dL_list_13 : decode cL_list 13 = .ok (.iconst 1, 1) := by decide +kernel
theorem dL_list_14 : decode cL_list 14 = .ok (.ireturn, 1) := by decide +kernel
theorem dL_list_15 : decode cL_list 15 = .ok (.iconst 0, 1) := by decide +kernel
theorem dL_list_16 : decode cL_list 16 = .ok (.ireturn, 1) := by decide +kernel
theorem dL_missed_0 : decode cL_missed 0 = .ok (.aload_n 2, 1) := by decide +kernel
theorem dL_missed_1 : decode cL_missed 1 = .ok (.iconst 0, 1) := by decide +kernel
theorem dL_missed_2 : decode cL_missed 2 = .ok (.aload_n 0, 1) := by decide +kernel
theorem dL_missed_3 : decode cL_missed 3 = .ok (.iload_n 1, 1) := by decide +kernel
theorem dL_missed_4 : decode cL_missed 4 = .ok (.invokevirtual 88, 3) := by decide +kernel
theorem dL_missed_7 : decode cL_missed 7 = .ok (.i2l, 1) := by decide +kernel
theorem dL_missed_8 : decode cL_missed 8 = .ok (.lastore, 1) := by decide +kernel
theorem dL_missed_9 : decode cL_missed 9 = .ok (.goto 6, 3) := by decide +kernel
theorem dL_missed_12 : decode cL_missed 12 = .ok (.astore_n 3, 1) := by decide +kernel
theorem dL_missed_13 : decode cL_missed 13 = .ok (.iconst 1, 1) := by decide +kernel
theorem dL_missed_14 : decode cL_missed 14 = .ok (.ireturn, 1) := by decide +kernel
theorem dL_missed_15 : decode cL_missed 15 = .ok (.iconst 0, 1) := by decide +kernel
theorem dL_missed_16 : decode cL_missed 16 = .ok (.ireturn, 1) := by decide +kernel
theorem dL_knew_0 : decode cL_knew 0 = .ok (.aload 4, 2) := by decide +kernel
theorem dL_knew_2 : decode cL_knew 2 = .ok (.iconst 0, 1) := by decide +kernel
theorem dL_knew_3 : decode cL_knew 3 = .ok (.aload_n 0, 1) := by decide +kernel
theorem dL_knew_4 : decode cL_knew 4 = .ok (.iload_n 1, 1) := by decide +kernel
theorem dL_knew_5 : decode cL_knew 5 = .ok (.iload_n 2, 1) := by decide +kernel
theorem dL_knew_6 : decode cL_knew 6 = .ok (.iload_n 3, 1) := by decide +kernel
theorem dL_knew_7 : decode cL_knew 7 = .ok (.invokevirtual 91, 3) := by decide +kernel
theorem dL_knew_10 : decode cL_knew 10 = .ok (.i2l, 1) := by decide +kernel
theorem dL_knew_11 : decode cL_knew 11 = .ok (.lastore, 1) := by decide +kernel
theorem dL_knew_12 : decode cL_knew 12 = .ok (.goto 11, 3) := by decide +kernel
theorem dL_knew_15 : decode cL_knew 15 = .ok (.astore 5, 2) := by decide +kernel
theorem dL_knew_17 : decode cL_knew 17 = .ok (.iconst 1, 1) := by decide +kernel
theorem dL_knew_18 : decode cL_knew 18 = .ok (.ireturn, 1) := by decide +kernel
theorem dL_knew_19 : decode cL_knew 19 = .ok (.astore 5, 2) := by decide +kernel
theorem dL_knew_21 : decode cL_knew 21 = .ok (.iconst 2, 1) := by decide +kernel
theorem dL_knew_22 : decode cL_knew 22 = .ok (.ireturn, 1) := by decide +kernel
theorem dL_knew_23 : decode cL_knew 23 = .ok (.iconst 0, 1) := by decide +kernel
theorem dL_knew_24 : decode cL_knew 24 = .ok (.ireturn, 1) := by decide +kernel
theorem dL_law_0 : decode cL_law 0 = .ok (.new 8, 3) := by decide +kernel
theorem dL_law_3 : decode cL_law 3 = .ok (.dup, 1) := by decide +kernel
theorem dL_law_4 : decode cL_law 4 = .ok (.invokespecial 94, 3) := by decide +kernel
theorem dL_law_7 : decode cL_law 7 = .ok (.astore_n 1, 1) := by decide +kernel
theorem dL_law_8 : decode cL_law 8 = .ok (.new 95, 3) := by decide +kernel
theorem dL_law_11 : decode cL_law 11 = .ok (.dup, 1) := by decide +kernel
theorem dL_law_12 : decode cL_law 12 = .ok (.invokespecial 97, 3) := by decide +kernel
theorem dL_law_15 : decode cL_law 15 = .ok (.astore_n 2, 1) := by decide +kernel
theorem dL_law_16 : decode cL_law 16 = .ok (.iconst 1, 1) := by decide +kernel
theorem dL_law_17 : decode cL_law 17 = .ok (.newarray .long, 2) := by decide +kernel
theorem dL_law_19 : decode cL_law 19 = .ok (.astore_n 3, 1) := by decide +kernel
theorem dL_law_20 : decode cL_law 20 = .ok (.iconst 0, 1) := by decide +kernel
theorem dL_law_21 : decode cL_law 21 = .ok (.istore 4, 2) := by decide +kernel
theorem dL_law_23 : decode cL_law 23 = .ok (.iload 4, 2) := by decide +kernel
theorem dL_law_25 : decode cL_law 25 = .ok (.aload_n 0, 1) := by decide +kernel
theorem dL_law_26 : decode cL_law 26 = .ok (.arraylength, 1) := by decide +kernel
theorem dL_law_27 : decode cL_law 27 = .ok (.bipush 6, 2) := by decide +kernel
theorem dL_law_29 : decode cL_law 29 = .ok (.isub, 1) := by decide +kernel
theorem dL_law_30 : decode cL_law 30 = .ok (.if_icmp .gt 1761, 3) := by decide +kernel
theorem dL_law_33 : decode cL_law 33 = .ok (.aload_n 0, 1) := by decide +kernel
theorem dL_law_34 : decode cL_law 34 = .ok (.iload 4, 2) := by decide +kernel
theorem dL_law_36 : decode cL_law 36 = .ok (.iaload, 1) := by decide +kernel
theorem dL_law_37 : decode cL_law 37 = .ok (.bipush 31, 2) := by decide +kernel
theorem dL_law_39 : decode cL_law 39 = .ok (.iand, 1) := by decide +kernel
theorem dL_law_40 : decode cL_law 40 = .ok (.tableswitch 1745 0 22 #[108, 164, 268, 348, 439, 543, 623, 691, 759, 822, 878, 958, 1054, 1110, 1166, 1202, 1286, 1354, 1410, 1485, 1553, 1609, 1665], 108) := by decide +kernel
theorem dL_law_148 : decode cL_law 148 = .ok (.aload_n 1, 1) := by decide +kernel
theorem dL_law_149 : decode cL_law 149 = .ok (.aload_n 0, 1) := by decide +kernel
theorem dL_law_150 : decode cL_law 150 = .ok (.iload 4, 2) := by decide +kernel
theorem dL_law_152 : decode cL_law 152 = .ok (.iconst 1, 1) := by decide +kernel
theorem dL_law_153 : decode cL_law 153 = .ok (.iadd, 1) := by decide +kernel
theorem dL_law_154 : decode cL_law 154 = .ok (.iaload, 1) := by decide +kernel
theorem dL_law_155 : decode cL_law 155 = .ok (.aload_n 3, 1) := by decide +kernel
theorem dL_law_156 : decode cL_law 156 = .ok (.invokestatic 98, 3) := by decide +kernel
theorem dL_law_159 : decode cL_law 159 = .ok (.istore 5, 2) := by decide +kernel
theorem dL_law_161 : decode cL_law 161 = .ok (.aload_n 2, 1) := by decide +kernel
theorem dL_law_162 : decode cL_law 162 = .ok (.aload_n 0, 1) := by decide +kernel
theorem dL_law_163 : decode cL_law 163 = .ok (.iload 4, 2) := by decide +kernel
theorem dL_law_165 : decode cL_law 165 = .ok (.iconst 1, 1) := by decide +kernel
theorem dL_law_166 : decode cL_law 166 = .ok (.iadd, 1) := by decide +kernel
theorem dL_law_167 : decode cL_law 167 = .ok (.iaload, 1) := by decide +kernel
theorem dL_law_168 : decode cL_law 168 = .ok (.invokevirtual 103, 3) := by decide +kernel
theorem dL_law_171 : decode cL_law 171 = .ok (.istore 6, 2) := by decide +kernel
theorem dL_law_173 : decode cL_law 173 = .ok (.aload_n 2, 1) := by decide +kernel
theorem dL_law_174 : decode cL_law 174 = .ok (.invokevirtual 104, 3) := by decide +kernel
theorem dL_law_177 : decode cL_law 177 = .ok (.iload 5, 2) := by decide +kernel
theorem dL_law_179 : decode cL_law 179 = .ok (.if_icmp .eq 5, 3) := by decide +kernel
theorem dL_law_182 : decode cL_law 182 = .ok (.iconst 0, 1) := by decide +kernel
theorem dL_law_183 : decode cL_law 183 = .ok (.ireturn, 1) := by decide +kernel
theorem dL_law_184 : decode cL_law 184 = .ok (.iload 5, 2) := by decide +kernel
theorem dL_law_186 : decode cL_law 186 = .ok (.ifCond .ne 15, 3) := by decide +kernel
theorem dL_law_189 : decode cL_law 189 = .ok (.aload_n 3, 1) := by decide +kernel
theorem dL_law_190 : decode cL_law 190 = .ok (.iconst 0, 1) := by decide +kernel
theorem dL_law_191 : decode cL_law 191 = .ok (.laload, 1) := by decide +kernel
theorem dL_law_192 : decode cL_law 192 = .ok (.iload 6, 2) := by decide +kernel
theorem dL_law_194 : decode cL_law 194 = .ok (.i2l, 1) := by decide +kernel
theorem dL_law_195 : decode cL_law 195 = .ok (.lcmp, 1) := by decide +kernel
theorem dL_law_196 : decode cL_law 196 = .ok (.ifCond .eq 5, 3) := by decide +kernel
theorem dL_law_199 : decode cL_law 199 = .ok (.iconst 0, 1) := by decide +kernel
theorem dL_law_200 : decode cL_law 200 = .ok (.ireturn, 1) := by decide +kernel
theorem dL_law_201 : decode cL_law 201 = .ok (.goto 1584, 3) := by decide +kernel
theorem dL_law_204 : decode cL_law 204 = .ok (.aload_n 1, 1) := by decide +kernel
theorem dL_law_205 : decode cL_law 205 = .ok (.aload_n 0, 1) := by decide +kernel
theorem dL_law_206 : decode cL_law 206 = .ok (.iload 4, 2) := by decide +kernel
theorem dL_law_208 : decode cL_law 208 = .ok (.iconst 1, 1) := by decide +kernel
theorem dL_law_209 : decode cL_law 209 = .ok (.iadd, 1) := by decide +kernel
theorem dL_law_210 : decode cL_law 210 = .ok (.iaload, 1) := by decide +kernel
theorem dL_law_211 : decode cL_law 211 = .ok (.aload_n 0, 1) := by decide +kernel
theorem dL_law_212 : decode cL_law 212 = .ok (.iload 4, 2) := by decide +kernel
theorem dL_law_214 : decode cL_law 214 = .ok (.iconst 2, 1) := by decide +kernel
theorem dL_law_215 : decode cL_law 215 = .ok (.iadd, 1) := by decide +kernel
theorem dL_law_216 : decode cL_law 216 = .ok (.iaload, 1) := by decide +kernel
theorem dL_law_217 : decode cL_law 217 = .ok (.aload_n 0, 1) := by decide +kernel
theorem dL_law_218 : decode cL_law 218 = .ok (.iload 4, 2) := by decide +kernel
theorem dL_law_220 : decode cL_law 220 = .ok (.iconst 3, 1) := by decide +kernel
theorem dL_law_221 : decode cL_law 221 = .ok (.iadd, 1) := by decide +kernel
theorem dL_law_222 : decode cL_law 222 = .ok (.iaload, 1) := by decide +kernel
theorem dL_law_223 : decode cL_law 223 = .ok (.aload_n 0, 1) := by decide +kernel
theorem dL_law_224 : decode cL_law 224 = .ok (.iload 4, 2) := by decide +kernel
theorem dL_law_226 : decode cL_law 226 = .ok (.iconst 4, 1) := by decide +kernel
theorem dL_law_227 : decode cL_law 227 = .ok (.iadd, 1) := by decide +kernel
theorem dL_law_228 : decode cL_law 228 = .ok (.iaload, 1) := by decide +kernel
theorem dL_law_229 : decode cL_law 229 = .ok (.aload_n 0, 1) := by decide +kernel
theorem dL_law_230 : decode cL_law 230 = .ok (.iload 4, 2) := by decide +kernel
theorem dL_law_232 : decode cL_law 232 = .ok (.iconst 5, 1) := by decide +kernel
theorem dL_law_233 : decode cL_law 233 = .ok (.iadd, 1) := by decide +kernel
theorem dL_law_234 : decode cL_law 234 = .ok (.iaload, 1) := by decide +kernel
theorem dL_law_235 : decode cL_law 235 = .ok (.aload_n 3, 1) := by decide +kernel
theorem dL_law_236 : decode cL_law 236 = .ok (.invokestatic 108, 3) := by decide +kernel
theorem dL_law_239 : decode cL_law 239 = .ok (.istore 5, 2) := by decide +kernel
theorem dL_law_241 : decode cL_law 241 = .ok (.aload_n 2, 1) := by decide +kernel
theorem dL_law_242 : decode cL_law 242 = .ok (.aload_n 0, 1) := by decide +kernel
theorem dL_law_243 : decode cL_law 243 = .ok (.iload 4, 2) := by decide +kernel
theorem dL_law_245 : decode cL_law 245 = .ok (.iconst 1, 1) := by decide +kernel
theorem dL_law_246 : decode cL_law 246 = .ok (.iadd, 1) := by decide +kernel
theorem dL_law_247 : decode cL_law 247 = .ok (.iaload, 1) := by decide +kernel
theorem dL_law_248 : decode cL_law 248 = .ok (.aload_n 0, 1) := by decide +kernel
theorem dL_law_249 : decode cL_law 249 = .ok (.iload 4, 2) := by decide +kernel
theorem dL_law_251 : decode cL_law 251 = .ok (.iconst 2, 1) := by decide +kernel
theorem dL_law_252 : decode cL_law 252 = .ok (.iadd, 1) := by decide +kernel
theorem dL_law_253 : decode cL_law 253 = .ok (.iaload, 1) := by decide +kernel
theorem dL_law_254 : decode cL_law 254 = .ok (.aload_n 0, 1) := by decide +kernel
theorem dL_law_255 : decode cL_law 255 = .ok (.iload 4, 2) := by decide +kernel
theorem dL_law_257 : decode cL_law 257 = .ok (.iconst 3, 1) := by decide +kernel
theorem dL_law_258 : decode cL_law 258 = .ok (.iadd, 1) := by decide +kernel
theorem dL_law_259 : decode cL_law 259 = .ok (.iaload, 1) := by decide +kernel
theorem dL_law_260 : decode cL_law 260 = .ok (.aload_n 0, 1) := by decide +kernel
theorem dL_law_261 : decode cL_law 261 = .ok (.iload 4, 2) := by decide +kernel
theorem dL_law_263 : decode cL_law 263 = .ok (.iconst 4, 1) := by decide +kernel
theorem dL_law_264 : decode cL_law 264 = .ok (.iadd, 1) := by decide +kernel
theorem dL_law_265 : decode cL_law 265 = .ok (.iaload, 1) := by decide +kernel
theorem dL_law_266 : decode cL_law 266 = .ok (.aload_n 0, 1) := by decide +kernel
theorem dL_law_267 : decode cL_law 267 = .ok (.iload 4, 2) := by decide +kernel
theorem dL_law_269 : decode cL_law 269 = .ok (.iconst 5, 1) := by decide +kernel
theorem dL_law_270 : decode cL_law 270 = .ok (.iadd, 1) := by decide +kernel
theorem dL_law_271 : decode cL_law 271 = .ok (.iaload, 1) := by decide +kernel
theorem dL_law_272 : decode cL_law 272 = .ok (.invokevirtual 111, 3) := by decide +kernel
theorem dL_law_275 : decode cL_law 275 = .ok (.istore 6, 2) := by decide +kernel
theorem dL_law_277 : decode cL_law 277 = .ok (.aload_n 2, 1) := by decide +kernel
theorem dL_law_278 : decode cL_law 278 = .ok (.invokevirtual 104, 3) := by decide +kernel
theorem dL_law_281 : decode cL_law 281 = .ok (.iload 5, 2) := by decide +kernel
theorem dL_law_283 : decode cL_law 283 = .ok (.if_icmp .eq 5, 3) := by decide +kernel
theorem dL_law_286 : decode cL_law 286 = .ok (.iconst 0, 1) := by decide +kernel
theorem dL_law_287 : decode cL_law 287 = .ok (.ireturn, 1) := by decide +kernel
theorem dL_law_288 : decode cL_law 288 = .ok (.iload 5, 2) := by decide +kernel
theorem dL_law_290 : decode cL_law 290 = .ok (.ifCond .ne 15, 3) := by decide +kernel
theorem dL_law_293 : decode cL_law 293 = .ok (.aload_n 3, 1) := by decide +kernel
theorem dL_law_294 : decode cL_law 294 = .ok (.iconst 0, 1) := by decide +kernel
theorem dL_law_295 : decode cL_law 295 = .ok (.laload, 1) := by decide +kernel
theorem dL_law_296 : decode cL_law 296 = .ok (.iload 6, 2) := by decide +kernel
theorem dL_law_298 : decode cL_law 298 = .ok (.i2l, 1) := by decide +kernel
theorem dL_law_299 : decode cL_law 299 = .ok (.lcmp, 1) := by decide +kernel
theorem dL_law_300 : decode cL_law 300 = .ok (.ifCond .eq 5, 3) := by decide +kernel
theorem dL_law_303 : decode cL_law 303 = .ok (.iconst 0, 1) := by decide +kernel
theorem dL_law_304 : decode cL_law 304 = .ok (.ireturn, 1) := by decide +kernel
theorem dL_law_305 : decode cL_law 305 = .ok (.goto 1480, 3) := by decide +kernel
theorem dL_law_308 : decode cL_law 308 = .ok (.aload_n 1, 1) := by decide +kernel
theorem dL_law_309 : decode cL_law 309 = .ok (.aload_n 0, 1) := by decide +kernel
theorem dL_law_310 : decode cL_law 310 = .ok (.iload 4, 2) := by decide +kernel
theorem dL_law_312 : decode cL_law 312 = .ok (.iconst 1, 1) := by decide +kernel
theorem dL_law_313 : decode cL_law 313 = .ok (.iadd, 1) := by decide +kernel
theorem dL_law_314 : decode cL_law 314 = .ok (.iaload, 1) := by decide +kernel
theorem dL_law_315 : decode cL_law 315 = .ok (.aload_n 0, 1) := by decide +kernel
theorem dL_law_316 : decode cL_law 316 = .ok (.iload 4, 2) := by decide +kernel
theorem dL_law_318 : decode cL_law 318 = .ok (.iconst 2, 1) := by decide +kernel
theorem dL_law_319 : decode cL_law 319 = .ok (.iadd, 1) := by decide +kernel
theorem dL_law_320 : decode cL_law 320 = .ok (.iaload, 1) := by decide +kernel
theorem dL_law_321 : decode cL_law 321 = .ok (.aload_n 0, 1) := by decide +kernel
theorem dL_law_322 : decode cL_law 322 = .ok (.iload 4, 2) := by decide +kernel
theorem dL_law_324 : decode cL_law 324 = .ok (.iconst 3, 1) := by decide +kernel
theorem dL_law_325 : decode cL_law 325 = .ok (.iadd, 1) := by decide +kernel
theorem dL_law_326 : decode cL_law 326 = .ok (.iaload, 1) := by decide +kernel
theorem dL_law_327 : decode cL_law 327 = .ok (.aload_n 3, 1) := by decide +kernel
theorem dL_law_328 : decode cL_law 328 = .ok (.invokestatic 112, 3) := by decide +kernel
theorem dL_law_331 : decode cL_law 331 = .ok (.istore 5, 2) := by decide +kernel
theorem dL_law_333 : decode cL_law 333 = .ok (.aload_n 2, 1) := by decide +kernel
theorem dL_law_334 : decode cL_law 334 = .ok (.aload_n 0, 1) := by decide +kernel
theorem dL_law_335 : decode cL_law 335 = .ok (.iload 4, 2) := by decide +kernel
theorem dL_law_337 : decode cL_law 337 = .ok (.iconst 1, 1) := by decide +kernel
theorem dL_law_338 : decode cL_law 338 = .ok (.iadd, 1) := by decide +kernel
theorem dL_law_339 : decode cL_law 339 = .ok (.iaload, 1) := by decide +kernel
theorem dL_law_340 : decode cL_law 340 = .ok (.aload_n 0, 1) := by decide +kernel
theorem dL_law_341 : decode cL_law 341 = .ok (.iload 4, 2) := by decide +kernel
theorem dL_law_343 : decode cL_law 343 = .ok (.iconst 2, 1) := by decide +kernel
theorem dL_law_344 : decode cL_law 344 = .ok (.iadd, 1) := by decide +kernel
theorem dL_law_345 : decode cL_law 345 = .ok (.iaload, 1) := by decide +kernel
theorem dL_law_346 : decode cL_law 346 = .ok (.aload_n 0, 1) := by decide +kernel
theorem dL_law_347 : decode cL_law 347 = .ok (.iload 4, 2) := by decide +kernel
theorem dL_law_349 : decode cL_law 349 = .ok (.iconst 3, 1) := by decide +kernel
theorem dL_law_350 : decode cL_law 350 = .ok (.iadd, 1) := by decide +kernel
theorem dL_law_351 : decode cL_law 351 = .ok (.iaload, 1) := by decide +kernel
theorem dL_law_352 : decode cL_law 352 = .ok (.invokevirtual 115, 3) := by decide +kernel
theorem dL_law_355 : decode cL_law 355 = .ok (.istore 6, 2) := by decide +kernel
theorem dL_law_357 : decode cL_law 357 = .ok (.aload_n 2, 1) := by decide +kernel
theorem dL_law_358 : decode cL_law 358 = .ok (.invokevirtual 104, 3) := by decide +kernel
theorem dL_law_361 : decode cL_law 361 = .ok (.iload 5, 2) := by decide +kernel
theorem dL_law_363 : decode cL_law 363 = .ok (.if_icmp .eq 5, 3) := by decide +kernel
theorem dL_law_366 : decode cL_law 366 = .ok (.iconst 0, 1) := by decide +kernel
theorem dL_law_367 : decode cL_law 367 = .ok (.ireturn, 1) := by decide +kernel
theorem dL_law_368 : decode cL_law 368 = .ok (.iload 5, 2) := by decide +kernel
theorem dL_law_370 : decode cL_law 370 = .ok (.ifCond .ne 15, 3) := by decide +kernel
theorem dL_law_373 : decode cL_law 373 = .ok (.aload_n 3, 1) := by decide +kernel
theorem dL_law_374 : decode cL_law 374 = .ok (.iconst 0, 1) := by decide +kernel
theorem dL_law_375 : decode cL_law 375 = .ok (.laload, 1) := by decide +kernel
theorem dL_law_376 : decode cL_law 376 = .ok (.iload 6, 2) := by decide +kernel
theorem dL_law_378 : decode cL_law 378 = .ok (.i2l, 1) := by decide +kernel
theorem dL_law_379 : decode cL_law 379 = .ok (.lcmp, 1) := by decide +kernel
theorem dL_law_380 : decode cL_law 380 = .ok (.ifCond .eq 5, 3) := by decide +kernel
theorem dL_law_383 : decode cL_law 383 = .ok (.iconst 0, 1) := by decide +kernel
theorem dL_law_384 : decode cL_law 384 = .ok (.ireturn, 1) := by decide +kernel
theorem dL_law_385 : decode cL_law 385 = .ok (.goto 1400, 3) := by decide +kernel
theorem dL_law_388 : decode cL_law 388 = .ok (.aload_n 1, 1) := by decide +kernel
theorem dL_law_389 : decode cL_law 389 = .ok (.aload_n 0, 1) := by decide +kernel
theorem dL_law_390 : decode cL_law 390 = .ok (.iload 4, 2) := by decide +kernel
theorem dL_law_392 : decode cL_law 392 = .ok (.iconst 1, 1) := by decide +kernel
theorem dL_law_393 : decode cL_law 393 = .ok (.iadd, 1) := by decide +kernel
theorem dL_law_394 : decode cL_law 394 = .ok (.iaload, 1) := by decide +kernel
theorem dL_law_395 : decode cL_law 395 = .ok (.aload_n 0, 1) := by decide +kernel
theorem dL_law_396 : decode cL_law 396 = .ok (.iload 4, 2) := by decide +kernel
theorem dL_law_398 : decode cL_law 398 = .ok (.iconst 2, 1) := by decide +kernel
theorem dL_law_399 : decode cL_law 399 = .ok (.iadd, 1) := by decide +kernel
theorem dL_law_400 : decode cL_law 400 = .ok (.iaload, 1) := by decide +kernel
theorem dL_law_401 : decode cL_law 401 = .ok (.ifCond .eq 7, 3) := by decide +kernel
theorem dL_law_404 : decode cL_law 404 = .ok (.iconst 1, 1) := by decide +kernel
theorem dL_law_405 : decode cL_law 405 = .ok (.goto 4, 3) := by decide +kernel
theorem dL_law_408 : decode cL_law 408 = .ok (.iconst 0, 1) := by decide +kernel
theorem dL_law_409 : decode cL_law 409 = .ok (.aload_n 3, 1) := by decide +kernel
theorem dL_law_410 : decode cL_law 410 = .ok (.invokestatic 116, 3) := by decide +kernel
theorem dL_law_413 : decode cL_law 413 = .ok (.istore 5, 2) := by decide +kernel
theorem dL_law_415 : decode cL_law 415 = .ok (.aload_n 2, 1) := by decide +kernel
theorem dL_law_416 : decode cL_law 416 = .ok (.aload_n 0, 1) := by decide +kernel
theorem dL_law_417 : decode cL_law 417 = .ok (.iload 4, 2) := by decide +kernel
theorem dL_law_419 : decode cL_law 419 = .ok (.iconst 1, 1) := by decide +kernel
theorem dL_law_420 : decode cL_law 420 = .ok (.iadd, 1) := by decide +kernel
theorem dL_law_421 : decode cL_law 421 = .ok (.iaload, 1) := by decide +kernel
theorem dL_law_422 : decode cL_law 422 = .ok (.aload_n 0, 1) := by decide +kernel
theorem dL_law_423 : decode cL_law 423 = .ok (.iload 4, 2) := by decide +kernel
theorem dL_law_425 : decode cL_law 425 = .ok (.iconst 2, 1) := by decide +kernel
theorem dL_law_426 : decode cL_law 426 = .ok (.iadd, 1) := by decide +kernel
theorem dL_law_427 : decode cL_law 427 = .ok (.iaload, 1) := by decide +kernel
theorem dL_law_428 : decode cL_law 428 = .ok (.ifCond .eq 7, 3) := by decide +kernel
theorem dL_law_431 : decode cL_law 431 = .ok (.iconst 1, 1) := by decide +kernel
theorem dL_law_432 : decode cL_law 432 = .ok (.goto 4, 3) := by decide +kernel
theorem dL_law_435 : decode cL_law 435 = .ok (.iconst 0, 1) := by decide +kernel
theorem dL_law_436 : decode cL_law 436 = .ok (.invokevirtual 119, 3) := by decide +kernel
theorem dL_law_439 : decode cL_law 439 = .ok (.istore 6, 2) := by decide +kernel
theorem dL_law_441 : decode cL_law 441 = .ok (.aload_n 2, 1) := by decide +kernel
theorem dL_law_442 : decode cL_law 442 = .ok (.invokevirtual 104, 3) := by decide +kernel
theorem dL_law_445 : decode cL_law 445 = .ok (.iload 5, 2) := by decide +kernel
theorem dL_law_447 : decode cL_law 447 = .ok (.if_icmp .eq 5, 3) := by decide +kernel
theorem dL_law_450 : decode cL_law 450 = .ok (.iconst 0, 1) := by decide +kernel
theorem dL_law_451 : decode cL_law 451 = .ok (.ireturn, 1) := by decide +kernel
theorem dL_law_452 : decode cL_law 452 = .ok (.iload 5, 2) := by decide +kernel
theorem dL_law_454 : decode cL_law 454 = .ok (.ifCond .ne 22, 3) := by decide +kernel
theorem dL_law_457 : decode cL_law 457 = .ok (.aload_n 3, 1) := by decide +kernel
theorem dL_law_458 : decode cL_law 458 = .ok (.iconst 0, 1) := by decide +kernel
theorem dL_law_459 : decode cL_law 459 = .ok (.laload, 1) := by decide +kernel
theorem dL_law_460 : decode cL_law 460 = .ok (.iload 6, 2) := by decide +kernel
theorem dL_law_462 : decode cL_law 462 = .ok (.ifCond .eq 7, 3) := by decide +kernel
theorem dL_law_465 : decode cL_law 465 = .ok (.lconst 1, 1) := by decide +kernel
theorem dL_law_466 : decode cL_law 466 = .ok (.goto 4, 3) := by decide +kernel
theorem dL_law_469 : decode cL_law 469 = .ok (.lconst 0, 1) := by decide +kernel
theorem dL_law_470 : decode cL_law 470 = .ok (.lcmp, 1) := by decide +kernel
theorem dL_law_471 : decode cL_law 471 = .ok (.ifCond .eq 5, 3) := by decide +kernel
theorem dL_law_474 : decode cL_law 474 = .ok (.iconst 0, 1) := by decide +kernel
theorem dL_law_475 : decode cL_law 475 = .ok (.ireturn, 1) := by decide +kernel
theorem dL_law_476 : decode cL_law 476 = .ok (.goto 1309, 3) := by decide +kernel
theorem dL_law_479 : decode cL_law 479 = .ok (.aload_n 1, 1) := by decide +kernel
theorem dL_law_480 : decode cL_law 480 = .ok (.aload_n 0, 1) := by decide +kernel
theorem dL_law_481 : decode cL_law 481 = .ok (.iload 4, 2) := by decide +kernel
theorem dL_law_483 : decode cL_law 483 = .ok (.iconst 1, 1) := by decide +kernel
theorem dL_law_484 : decode cL_law 484 = .ok (.iadd, 1) := by decide +kernel
theorem dL_law_485 : decode cL_law 485 = .ok (.iaload, 1) := by decide +kernel
theorem dL_law_486 : decode cL_law 486 = .ok (.aload_n 0, 1) := by decide +kernel
theorem dL_law_487 : decode cL_law 487 = .ok (.iload 4, 2) := by decide +kernel
theorem dL_law_489 : decode cL_law 489 = .ok (.iconst 2, 1) := by decide +kernel
theorem dL_law_490 : decode cL_law 490 = .ok (.iadd, 1) := by decide +kernel
theorem dL_law_491 : decode cL_law 491 = .ok (.iaload, 1) := by decide +kernel
theorem dL_law_492 : decode cL_law 492 = .ok (.aload_n 0, 1) := by decide +kernel
theorem dL_law_493 : decode cL_law 493 = .ok (.iload 4, 2) := by decide +kernel
theorem dL_law_495 : decode cL_law 495 = .ok (.iconst 3, 1) := by decide +kernel
theorem dL_law_496 : decode cL_law 496 = .ok (.iadd, 1) := by decide +kernel
theorem dL_law_497 : decode cL_law 497 = .ok (.iaload, 1) := by decide +kernel
theorem dL_law_498 : decode cL_law 498 = .ok (.aload_n 0, 1) := by decide +kernel
theorem dL_law_499 : decode cL_law 499 = .ok (.iload 4, 2) := by decide +kernel
theorem dL_law_501 : decode cL_law 501 = .ok (.iconst 4, 1) := by decide +kernel
theorem dL_law_502 : decode cL_law 502 = .ok (.iadd, 1) := by decide +kernel
theorem dL_law_503 : decode cL_law 503 = .ok (.iaload, 1) := by decide +kernel
theorem dL_law_504 : decode cL_law 504 = .ok (.aload_n 0, 1) := by decide +kernel
theorem dL_law_505 : decode cL_law 505 = .ok (.iload 4, 2) := by decide +kernel
theorem dL_law_507 : decode cL_law 507 = .ok (.iconst 5, 1) := by decide +kernel
theorem dL_law_508 : decode cL_law 508 = .ok (.iadd, 1) := by decide +kernel
theorem dL_law_509 : decode cL_law 509 = .ok (.iaload, 1) := by decide +kernel
theorem dL_law_510 : decode cL_law 510 = .ok (.aload_n 3, 1) := by decide +kernel
theorem dL_law_511 : decode cL_law 511 = .ok (.invokestatic 120, 3) := by decide +kernel
theorem dL_law_514 : decode cL_law 514 = .ok (.istore 5, 2) := by decide +kernel
theorem dL_law_516 : decode cL_law 516 = .ok (.aload_n 2, 1) := by decide +kernel
theorem dL_law_517 : decode cL_law 517 = .ok (.aload_n 0, 1) := by decide +kernel
theorem dL_law_518 : decode cL_law 518 = .ok (.iload 4, 2) := by decide +kernel
theorem dL_law_520 : decode cL_law 520 = .ok (.iconst 1, 1) := by decide +kernel
theorem dL_law_521 : decode cL_law 521 = .ok (.iadd, 1) := by decide +kernel
theorem dL_law_522 : decode cL_law 522 = .ok (.iaload, 1) := by decide +kernel
theorem dL_law_523 : decode cL_law 523 = .ok (.aload_n 0, 1) := by decide +kernel
theorem dL_law_524 : decode cL_law 524 = .ok (.iload 4, 2) := by decide +kernel
theorem dL_law_526 : decode cL_law 526 = .ok (.iconst 2, 1) := by decide +kernel
theorem dL_law_527 : decode cL_law 527 = .ok (.iadd, 1) := by decide +kernel
theorem dL_law_528 : decode cL_law 528 = .ok (.iaload, 1) := by decide +kernel
theorem dL_law_529 : decode cL_law 529 = .ok (.aload_n 0, 1) := by decide +kernel
theorem dL_law_530 : decode cL_law 530 = .ok (.iload 4, 2) := by decide +kernel
theorem dL_law_532 : decode cL_law 532 = .ok (.iconst 3, 1) := by decide +kernel
theorem dL_law_533 : decode cL_law 533 = .ok (.iadd, 1) := by decide +kernel
theorem dL_law_534 : decode cL_law 534 = .ok (.iaload, 1) := by decide +kernel
theorem dL_law_535 : decode cL_law 535 = .ok (.aload_n 0, 1) := by decide +kernel
theorem dL_law_536 : decode cL_law 536 = .ok (.iload 4, 2) := by decide +kernel
theorem dL_law_538 : decode cL_law 538 = .ok (.iconst 4, 1) := by decide +kernel
theorem dL_law_539 : decode cL_law 539 = .ok (.iadd, 1) := by decide +kernel
theorem dL_law_540 : decode cL_law 540 = .ok (.iaload, 1) := by decide +kernel
theorem dL_law_541 : decode cL_law 541 = .ok (.aload_n 0, 1) := by decide +kernel
theorem dL_law_542 : decode cL_law 542 = .ok (.iload 4, 2) := by decide +kernel
theorem dL_law_544 : decode cL_law 544 = .ok (.iconst 5, 1) := by decide +kernel
theorem dL_law_545 : decode cL_law 545 = .ok (.iadd, 1) := by decide +kernel
theorem dL_law_546 : decode cL_law 546 = .ok (.iaload, 1) := by decide +kernel
theorem dL_law_547 : decode cL_law 547 = .ok (.invokevirtual 122, 3) := by decide +kernel
theorem dL_law_550 : decode cL_law 550 = .ok (.istore 6, 2) := by decide +kernel
theorem dL_law_552 : decode cL_law 552 = .ok (.aload_n 2, 1) := by decide +kernel
theorem dL_law_553 : decode cL_law 553 = .ok (.invokevirtual 104, 3) := by decide +kernel
theorem dL_law_556 : decode cL_law 556 = .ok (.iload 5, 2) := by decide +kernel
theorem dL_law_558 : decode cL_law 558 = .ok (.if_icmp .eq 5, 3) := by decide +kernel
theorem dL_law_561 : decode cL_law 561 = .ok (.iconst 0, 1) := by decide +kernel
theorem dL_law_562 : decode cL_law 562 = .ok (.ireturn, 1) := by decide +kernel
theorem dL_law_563 : decode cL_law 563 = .ok (.iload 5, 2) := by decide +kernel
theorem dL_law_565 : decode cL_law 565 = .ok (.ifCond .ne 15, 3) := by decide +kernel
theorem dL_law_568 : decode cL_law 568 = .ok (.aload_n 3, 1) := by decide +kernel
theorem dL_law_569 : decode cL_law 569 = .ok (.iconst 0, 1) := by decide +kernel
theorem dL_law_570 : decode cL_law 570 = .ok (.laload, 1) := by decide +kernel
theorem dL_law_571 : decode cL_law 571 = .ok (.iload 6, 2) := by decide +kernel
theorem dL_law_573 : decode cL_law 573 = .ok (.i2l, 1) := by decide +kernel
theorem dL_law_574 : decode cL_law 574 = .ok (.lcmp, 1) := by decide +kernel
theorem dL_law_575 : decode cL_law 575 = .ok (.ifCond .eq 5, 3) := by decide +kernel
theorem dL_law_578 : decode cL_law 578 = .ok (.iconst 0, 1) := by decide +kernel
theorem dL_law_579 : decode cL_law 579 = .ok (.ireturn, 1) := by decide +kernel
theorem dL_law_580 : decode cL_law 580 = .ok (.goto 1205, 3) := by decide +kernel
theorem dL_law_583 : decode cL_law 583 = .ok (.aload_n 1, 1) := by decide +kernel
theorem dL_law_584 : decode cL_law 584 = .ok (.aload_n 0, 1) := by decide +kernel
theorem dL_law_585 : decode cL_law 585 = .ok (.iload 4, 2) := by decide +kernel
theorem dL_law_587 : decode cL_law 587 = .ok (.iconst 1, 1) := by decide +kernel
theorem dL_law_588 : decode cL_law 588 = .ok (.iadd, 1) := by decide +kernel
theorem dL_law_589 : decode cL_law 589 = .ok (.iaload, 1) := by decide +kernel
theorem dL_law_590 : decode cL_law 590 = .ok (.aload_n 0, 1) := by decide +kernel
theorem dL_law_591 : decode cL_law 591 = .ok (.iload 4, 2) := by decide +kernel
theorem dL_law_593 : decode cL_law 593 = .ok (.iconst 2, 1) := by decide +kernel
theorem dL_law_594 : decode cL_law 594 = .ok (.iadd, 1) := by decide +kernel
theorem dL_law_595 : decode cL_law 595 = .ok (.iaload, 1) := by decide +kernel
theorem dL_law_596 : decode cL_law 596 = .ok (.aload_n 0, 1) := by decide +kernel
theorem dL_law_597 : decode cL_law 597 = .ok (.iload 4, 2) := by decide +kernel
theorem dL_law_599 : decode cL_law 599 = .ok (.iconst 3, 1) := by decide +kernel
theorem dL_law_600 : decode cL_law 600 = .ok (.iadd, 1) := by decide +kernel
theorem dL_law_601 : decode cL_law 601 = .ok (.iaload, 1) := by decide +kernel
theorem dL_law_602 : decode cL_law 602 = .ok (.aload_n 3, 1) := by decide +kernel
theorem dL_law_603 : decode cL_law 603 = .ok (.invokestatic 123, 3) := by decide +kernel
theorem dL_law_606 : decode cL_law 606 = .ok (.istore 5, 2) := by decide +kernel
theorem dL_law_608 : decode cL_law 608 = .ok (.aload_n 2, 1) := by decide +kernel
theorem dL_law_609 : decode cL_law 609 = .ok (.aload_n 0, 1) := by decide +kernel
theorem dL_law_610 : decode cL_law 610 = .ok (.iload 4, 2) := by decide +kernel
theorem dL_law_612 : decode cL_law 612 = .ok (.iconst 1, 1) := by decide +kernel
theorem dL_law_613 : decode cL_law 613 = .ok (.iadd, 1) := by decide +kernel
theorem dL_law_614 : decode cL_law 614 = .ok (.iaload, 1) := by decide +kernel
theorem dL_law_615 : decode cL_law 615 = .ok (.aload_n 0, 1) := by decide +kernel
theorem dL_law_616 : decode cL_law 616 = .ok (.iload 4, 2) := by decide +kernel
theorem dL_law_618 : decode cL_law 618 = .ok (.iconst 2, 1) := by decide +kernel
theorem dL_law_619 : decode cL_law 619 = .ok (.iadd, 1) := by decide +kernel
theorem dL_law_620 : decode cL_law 620 = .ok (.iaload, 1) := by decide +kernel
theorem dL_law_621 : decode cL_law 621 = .ok (.aload_n 0, 1) := by decide +kernel
theorem dL_law_622 : decode cL_law 622 = .ok (.iload 4, 2) := by decide +kernel
theorem dL_law_624 : decode cL_law 624 = .ok (.iconst 3, 1) := by decide +kernel
theorem dL_law_625 : decode cL_law 625 = .ok (.iadd, 1) := by decide +kernel
theorem dL_law_626 : decode cL_law 626 = .ok (.iaload, 1) := by decide +kernel
theorem dL_law_627 : decode cL_law 627 = .ok (.invokevirtual 125, 3) := by decide +kernel
theorem dL_law_630 : decode cL_law 630 = .ok (.istore 6, 2) := by decide +kernel
theorem dL_law_632 : decode cL_law 632 = .ok (.aload_n 2, 1) := by decide +kernel
theorem dL_law_633 : decode cL_law 633 = .ok (.invokevirtual 104, 3) := by decide +kernel
theorem dL_law_636 : decode cL_law 636 = .ok (.iload 5, 2) := by decide +kernel
theorem dL_law_638 : decode cL_law 638 = .ok (.if_icmp .eq 5, 3) := by decide +kernel
theorem dL_law_641 : decode cL_law 641 = .ok (.iconst 0, 1) := by decide +kernel
theorem dL_law_642 : decode cL_law 642 = .ok (.ireturn, 1) := by decide +kernel
theorem dL_law_643 : decode cL_law 643 = .ok (.iload 5, 2) := by decide +kernel
theorem dL_law_645 : decode cL_law 645 = .ok (.ifCond .ne 15, 3) := by decide +kernel
theorem dL_law_648 : decode cL_law 648 = .ok (.aload_n 3, 1) := by decide +kernel
theorem dL_law_649 : decode cL_law 649 = .ok (.iconst 0, 1) := by decide +kernel
theorem dL_law_650 : decode cL_law 650 = .ok (.laload, 1) := by decide +kernel
theorem dL_law_651 : decode cL_law 651 = .ok (.iload 6, 2) := by decide +kernel
theorem dL_law_653 : decode cL_law 653 = .ok (.i2l, 1) := by decide +kernel
theorem dL_law_654 : decode cL_law 654 = .ok (.lcmp, 1) := by decide +kernel
theorem dL_law_655 : decode cL_law 655 = .ok (.ifCond .eq 5, 3) := by decide +kernel
theorem dL_law_658 : decode cL_law 658 = .ok (.iconst 0, 1) := by decide +kernel
theorem dL_law_659 : decode cL_law 659 = .ok (.ireturn, 1) := by decide +kernel
theorem dL_law_660 : decode cL_law 660 = .ok (.goto 1125, 3) := by decide +kernel
theorem dL_law_663 : decode cL_law 663 = .ok (.aload_n 1, 1) := by decide +kernel
theorem dL_law_664 : decode cL_law 664 = .ok (.aload_n 0, 1) := by decide +kernel
theorem dL_law_665 : decode cL_law 665 = .ok (.iload 4, 2) := by decide +kernel
theorem dL_law_667 : decode cL_law 667 = .ok (.iconst 1, 1) := by decide +kernel
theorem dL_law_668 : decode cL_law 668 = .ok (.iadd, 1) := by decide +kernel
theorem dL_law_669 : decode cL_law 669 = .ok (.iaload, 1) := by decide +kernel
theorem dL_law_670 : decode cL_law 670 = .ok (.aload_n 0, 1) := by decide +kernel
theorem dL_law_671 : decode cL_law 671 = .ok (.iload 4, 2) := by decide +kernel
theorem dL_law_673 : decode cL_law 673 = .ok (.iconst 2, 1) := by decide +kernel
theorem dL_law_674 : decode cL_law 674 = .ok (.iadd, 1) := by decide +kernel
theorem dL_law_675 : decode cL_law 675 = .ok (.iaload, 1) := by decide +kernel
theorem dL_law_676 : decode cL_law 676 = .ok (.aload_n 3, 1) := by decide +kernel
theorem dL_law_677 : decode cL_law 677 = .ok (.invokestatic 126, 3) := by decide +kernel
theorem dL_law_680 : decode cL_law 680 = .ok (.istore 5, 2) := by decide +kernel
theorem dL_law_682 : decode cL_law 682 = .ok (.aload_n 2, 1) := by decide +kernel
theorem dL_law_683 : decode cL_law 683 = .ok (.aload_n 0, 1) := by decide +kernel
theorem dL_law_684 : decode cL_law 684 = .ok (.iload 4, 2) := by decide +kernel
theorem dL_law_686 : decode cL_law 686 = .ok (.iconst 1, 1) := by decide +kernel
theorem dL_law_687 : decode cL_law 687 = .ok (.iadd, 1) := by decide +kernel
theorem dL_law_688 : decode cL_law 688 = .ok (.iaload, 1) := by decide +kernel
theorem dL_law_689 : decode cL_law 689 = .ok (.aload_n 0, 1) := by decide +kernel
theorem dL_law_690 : decode cL_law 690 = .ok (.iload 4, 2) := by decide +kernel
theorem dL_law_692 : decode cL_law 692 = .ok (.iconst 2, 1) := by decide +kernel
theorem dL_law_693 : decode cL_law 693 = .ok (.iadd, 1) := by decide +kernel
theorem dL_law_694 : decode cL_law 694 = .ok (.iaload, 1) := by decide +kernel
theorem dL_law_695 : decode cL_law 695 = .ok (.invokevirtual 129, 3) := by decide +kernel
theorem dL_law_698 : decode cL_law 698 = .ok (.istore 6, 2) := by decide +kernel
theorem dL_law_700 : decode cL_law 700 = .ok (.aload_n 2, 1) := by decide +kernel
theorem dL_law_701 : decode cL_law 701 = .ok (.invokevirtual 104, 3) := by decide +kernel
theorem dL_law_704 : decode cL_law 704 = .ok (.iload 5, 2) := by decide +kernel
theorem dL_law_706 : decode cL_law 706 = .ok (.if_icmp .eq 5, 3) := by decide +kernel
theorem dL_law_709 : decode cL_law 709 = .ok (.iconst 0, 1) := by decide +kernel
theorem dL_law_710 : decode cL_law 710 = .ok (.ireturn, 1) := by decide +kernel
theorem dL_law_711 : decode cL_law 711 = .ok (.iload 5, 2) := by decide +kernel
theorem dL_law_713 : decode cL_law 713 = .ok (.ifCond .ne 15, 3) := by decide +kernel
theorem dL_law_716 : decode cL_law 716 = .ok (.aload_n 3, 1) := by decide +kernel
theorem dL_law_717 : decode cL_law 717 = .ok (.iconst 0, 1) := by decide +kernel
theorem dL_law_718 : decode cL_law 718 = .ok (.laload, 1) := by decide +kernel
theorem dL_law_719 : decode cL_law 719 = .ok (.iload 6, 2) := by decide +kernel
theorem dL_law_721 : decode cL_law 721 = .ok (.i2l, 1) := by decide +kernel
theorem dL_law_722 : decode cL_law 722 = .ok (.lcmp, 1) := by decide +kernel
theorem dL_law_723 : decode cL_law 723 = .ok (.ifCond .eq 5, 3) := by decide +kernel
theorem dL_law_726 : decode cL_law 726 = .ok (.iconst 0, 1) := by decide +kernel
theorem dL_law_727 : decode cL_law 727 = .ok (.ireturn, 1) := by decide +kernel
theorem dL_law_728 : decode cL_law 728 = .ok (.goto 1057, 3) := by decide +kernel
theorem dL_law_731 : decode cL_law 731 = .ok (.aload_n 1, 1) := by decide +kernel
theorem dL_law_732 : decode cL_law 732 = .ok (.aload_n 0, 1) := by decide +kernel
theorem dL_law_733 : decode cL_law 733 = .ok (.iload 4, 2) := by decide +kernel
theorem dL_law_735 : decode cL_law 735 = .ok (.iconst 1, 1) := by decide +kernel
theorem dL_law_736 : decode cL_law 736 = .ok (.iadd, 1) := by decide +kernel
theorem dL_law_737 : decode cL_law 737 = .ok (.iaload, 1) := by decide +kernel
theorem dL_law_738 : decode cL_law 738 = .ok (.aload_n 0, 1) := by decide +kernel
theorem dL_law_739 : decode cL_law 739 = .ok (.iload 4, 2) := by decide +kernel
theorem dL_law_741 : decode cL_law 741 = .ok (.iconst 2, 1) := by decide +kernel
theorem dL_law_742 : decode cL_law 742 = .ok (.iadd, 1) := by decide +kernel
theorem dL_law_743 : decode cL_law 743 = .ok (.iaload, 1) := by decide +kernel
theorem dL_law_744 : decode cL_law 744 = .ok (.aload_n 3, 1) := by decide +kernel
theorem dL_law_745 : decode cL_law 745 = .ok (.invokestatic 130, 3) := by decide +kernel
theorem dL_law_748 : decode cL_law 748 = .ok (.istore 5, 2) := by decide +kernel
theorem dL_law_750 : decode cL_law 750 = .ok (.aload_n 2, 1) := by decide +kernel
theorem dL_law_751 : decode cL_law 751 = .ok (.aload_n 0, 1) := by decide +kernel
theorem dL_law_752 : decode cL_law 752 = .ok (.iload 4, 2) := by decide +kernel
theorem dL_law_754 : decode cL_law 754 = .ok (.iconst 1, 1) := by decide +kernel
theorem dL_law_755 : decode cL_law 755 = .ok (.iadd, 1) := by decide +kernel
theorem dL_law_756 : decode cL_law 756 = .ok (.iaload, 1) := by decide +kernel
theorem dL_law_757 : decode cL_law 757 = .ok (.aload_n 0, 1) := by decide +kernel
theorem dL_law_758 : decode cL_law 758 = .ok (.iload 4, 2) := by decide +kernel
theorem dL_law_760 : decode cL_law 760 = .ok (.iconst 2, 1) := by decide +kernel
theorem dL_law_761 : decode cL_law 761 = .ok (.iadd, 1) := by decide +kernel
theorem dL_law_762 : decode cL_law 762 = .ok (.iaload, 1) := by decide +kernel
theorem dL_law_763 : decode cL_law 763 = .ok (.invokevirtual 132, 3) := by decide +kernel
theorem dL_law_766 : decode cL_law 766 = .ok (.istore 6, 2) := by decide +kernel
theorem dL_law_768 : decode cL_law 768 = .ok (.aload_n 2, 1) := by decide +kernel
theorem dL_law_769 : decode cL_law 769 = .ok (.invokevirtual 104, 3) := by decide +kernel
theorem dL_law_772 : decode cL_law 772 = .ok (.iload 5, 2) := by decide +kernel
theorem dL_law_774 : decode cL_law 774 = .ok (.if_icmp .eq 5, 3) := by decide +kernel
theorem dL_law_777 : decode cL_law 777 = .ok (.iconst 0, 1) := by decide +kernel
theorem dL_law_778 : decode cL_law 778 = .ok (.ireturn, 1) := by decide +kernel
theorem dL_law_779 : decode cL_law 779 = .ok (.iload 5, 2) := by decide +kernel
theorem dL_law_781 : decode cL_law 781 = .ok (.ifCond .ne 15, 3) := by decide +kernel
theorem dL_law_784 : decode cL_law 784 = .ok (.aload_n 3, 1) := by decide +kernel
theorem dL_law_785 : decode cL_law 785 = .ok (.iconst 0, 1) := by decide +kernel
theorem dL_law_786 : decode cL_law 786 = .ok (.laload, 1) := by decide +kernel
theorem dL_law_787 : decode cL_law 787 = .ok (.iload 6, 2) := by decide +kernel
theorem dL_law_789 : decode cL_law 789 = .ok (.i2l, 1) := by decide +kernel
theorem dL_law_790 : decode cL_law 790 = .ok (.lcmp, 1) := by decide +kernel
theorem dL_law_791 : decode cL_law 791 = .ok (.ifCond .eq 5, 3) := by decide +kernel
theorem dL_law_794 : decode cL_law 794 = .ok (.iconst 0, 1) := by decide +kernel
theorem dL_law_795 : decode cL_law 795 = .ok (.ireturn, 1) := by decide +kernel
theorem dL_law_796 : decode cL_law 796 = .ok (.goto 989, 3) := by decide +kernel
theorem dL_law_799 : decode cL_law 799 = .ok (.aload_n 1, 1) := by decide +kernel
theorem dL_law_800 : decode cL_law 800 = .ok (.aload_n 0, 1) := by decide +kernel
theorem dL_law_801 : decode cL_law 801 = .ok (.iload 4, 2) := by decide +kernel
theorem dL_law_803 : decode cL_law 803 = .ok (.iconst 1, 1) := by decide +kernel
theorem dL_law_804 : decode cL_law 804 = .ok (.iadd, 1) := by decide +kernel
theorem dL_law_805 : decode cL_law 805 = .ok (.iaload, 1) := by decide +kernel
theorem dL_law_806 : decode cL_law 806 = .ok (.aload_n 3, 1) := by decide +kernel
theorem dL_law_807 : decode cL_law 807 = .ok (.invokestatic 133, 3) := by decide +kernel
theorem dL_law_810 : decode cL_law 810 = .ok (.istore 5, 2) := by decide +kernel
theorem dL_law_812 : decode cL_law 812 = .ok (.aload_n 2, 1) := by decide +kernel
theorem dL_law_813 : decode cL_law 813 = .ok (.aload_n 0, 1) := by decide +kernel
theorem dL_law_814 : decode cL_law 814 = .ok (.iload 4, 2) := by decide +kernel
theorem dL_law_816 : decode cL_law 816 = .ok (.iconst 1, 1) := by decide +kernel
theorem dL_law_817 : decode cL_law 817 = .ok (.iadd, 1) := by decide +kernel
theorem dL_law_818 : decode cL_law 818 = .ok (.iaload, 1) := by decide +kernel
theorem dL_law_819 : decode cL_law 819 = .ok (.invokevirtual 135, 3) := by decide +kernel
theorem dL_law_822 : decode cL_law 822 = .ok (.istore 6, 2) := by decide +kernel
theorem dL_law_824 : decode cL_law 824 = .ok (.aload_n 2, 1) := by decide +kernel
theorem dL_law_825 : decode cL_law 825 = .ok (.invokevirtual 104, 3) := by decide +kernel
theorem dL_law_828 : decode cL_law 828 = .ok (.iload 5, 2) := by decide +kernel
theorem dL_law_830 : decode cL_law 830 = .ok (.if_icmp .eq 5, 3) := by decide +kernel
theorem dL_law_833 : decode cL_law 833 = .ok (.iconst 0, 1) := by decide +kernel
theorem dL_law_834 : decode cL_law 834 = .ok (.ireturn, 1) := by decide +kernel
theorem dL_law_835 : decode cL_law 835 = .ok (.iload 5, 2) := by decide +kernel
theorem dL_law_837 : decode cL_law 837 = .ok (.ifCond .ne 22, 3) := by decide +kernel
theorem dL_law_840 : decode cL_law 840 = .ok (.aload_n 3, 1) := by decide +kernel
theorem dL_law_841 : decode cL_law 841 = .ok (.iconst 0, 1) := by decide +kernel
theorem dL_law_842 : decode cL_law 842 = .ok (.laload, 1) := by decide +kernel
theorem dL_law_843 : decode cL_law 843 = .ok (.iload 6, 2) := by decide +kernel
theorem dL_law_845 : decode cL_law 845 = .ok (.ifCond .eq 7, 3) := by decide +kernel
theorem dL_law_848 : decode cL_law 848 = .ok (.lconst 1, 1) := by decide +kernel
theorem dL_law_849 : decode cL_law 849 = .ok (.goto 4, 3) := by decide +kernel
theorem dL_law_852 : decode cL_law 852 = .ok (.lconst 0, 1) := by decide +kernel
theorem dL_law_853 : decode cL_law 853 = .ok (.lcmp, 1) := by decide +kernel
theorem dL_law_854 : decode cL_law 854 = .ok (.ifCond .eq 5, 3) := by decide +kernel
theorem dL_law_857 : decode cL_law 857 = .ok (.iconst 0, 1) := by decide +kernel
theorem dL_law_858 : decode cL_law 858 = .ok (.ireturn, 1) := by decide +kernel
theorem dL_law_859 : decode cL_law 859 = .ok (.goto 926, 3) := by decide +kernel
theorem dL_law_862 : decode cL_law 862 = .ok (.aload_n 1, 1) := by decide +kernel
theorem dL_law_863 : decode cL_law 863 = .ok (.aload_n 0, 1) := by decide +kernel
theorem dL_law_864 : decode cL_law 864 = .ok (.iload 4, 2) := by decide +kernel
theorem dL_law_866 : decode cL_law 866 = .ok (.iconst 1, 1) := by decide +kernel
theorem dL_law_867 : decode cL_law 867 = .ok (.iadd, 1) := by decide +kernel
theorem dL_law_868 : decode cL_law 868 = .ok (.iaload, 1) := by decide +kernel
theorem dL_law_869 : decode cL_law 869 = .ok (.aload_n 3, 1) := by decide +kernel
theorem dL_law_870 : decode cL_law 870 = .ok (.invokestatic 136, 3) := by decide +kernel
theorem dL_law_873 : decode cL_law 873 = .ok (.istore 5, 2) := by decide +kernel
theorem dL_law_875 : decode cL_law 875 = .ok (.aload_n 2, 1) := by decide +kernel
theorem dL_law_876 : decode cL_law 876 = .ok (.aload_n 0, 1) := by decide +kernel
theorem dL_law_877 : decode cL_law 877 = .ok (.iload 4, 2) := by decide +kernel
theorem dL_law_879 : decode cL_law 879 = .ok (.iconst 1, 1) := by decide +kernel
theorem dL_law_880 : decode cL_law 880 = .ok (.iadd, 1) := by decide +kernel
theorem dL_law_881 : decode cL_law 881 = .ok (.iaload, 1) := by decide +kernel
theorem dL_law_882 : decode cL_law 882 = .ok (.invokevirtual 138, 3) := by decide +kernel
theorem dL_law_885 : decode cL_law 885 = .ok (.istore 6, 2) := by decide +kernel
theorem dL_law_887 : decode cL_law 887 = .ok (.aload_n 2, 1) := by decide +kernel
theorem dL_law_888 : decode cL_law 888 = .ok (.invokevirtual 104, 3) := by decide +kernel
theorem dL_law_891 : decode cL_law 891 = .ok (.iload 5, 2) := by decide +kernel
theorem dL_law_893 : decode cL_law 893 = .ok (.if_icmp .eq 5, 3) := by decide +kernel
theorem dL_law_896 : decode cL_law 896 = .ok (.iconst 0, 1) := by decide +kernel
theorem dL_law_897 : decode cL_law 897 = .ok (.ireturn, 1) := by decide +kernel
theorem dL_law_898 : decode cL_law 898 = .ok (.iload 5, 2) := by decide +kernel
theorem dL_law_900 : decode cL_law 900 = .ok (.ifCond .ne 15, 3) := by decide +kernel
theorem dL_law_903 : decode cL_law 903 = .ok (.aload_n 3, 1) := by decide +kernel
theorem dL_law_904 : decode cL_law 904 = .ok (.iconst 0, 1) := by decide +kernel
theorem dL_law_905 : decode cL_law 905 = .ok (.laload, 1) := by decide +kernel
theorem dL_law_906 : decode cL_law 906 = .ok (.iload 6, 2) := by decide +kernel
theorem dL_law_908 : decode cL_law 908 = .ok (.i2l, 1) := by decide +kernel
theorem dL_law_909 : decode cL_law 909 = .ok (.lcmp, 1) := by decide +kernel
theorem dL_law_910 : decode cL_law 910 = .ok (.ifCond .eq 5, 3) := by decide +kernel
theorem dL_law_913 : decode cL_law 913 = .ok (.iconst 0, 1) := by decide +kernel
theorem dL_law_914 : decode cL_law 914 = .ok (.ireturn, 1) := by decide +kernel
theorem dL_law_915 : decode cL_law 915 = .ok (.goto 870, 3) := by decide +kernel
theorem dL_law_918 : decode cL_law 918 = .ok (.aload_n 1, 1) := by decide +kernel
theorem dL_law_919 : decode cL_law 919 = .ok (.aload_n 0, 1) := by decide +kernel
theorem dL_law_920 : decode cL_law 920 = .ok (.iload 4, 2) := by decide +kernel
theorem dL_law_922 : decode cL_law 922 = .ok (.iconst 1, 1) := by decide +kernel
theorem dL_law_923 : decode cL_law 923 = .ok (.iadd, 1) := by decide +kernel
theorem dL_law_924 : decode cL_law 924 = .ok (.iaload, 1) := by decide +kernel
theorem dL_law_925 : decode cL_law 925 = .ok (.aload_n 0, 1) := by decide +kernel
theorem dL_law_926 : decode cL_law 926 = .ok (.iload 4, 2) := by decide +kernel
theorem dL_law_928 : decode cL_law 928 = .ok (.iconst 2, 1) := by decide +kernel
theorem dL_law_929 : decode cL_law 929 = .ok (.iadd, 1) := by decide +kernel
theorem dL_law_930 : decode cL_law 930 = .ok (.iaload, 1) := by decide +kernel
theorem dL_law_931 : decode cL_law 931 = .ok (.aload_n 0, 1) := by decide +kernel
theorem dL_law_932 : decode cL_law 932 = .ok (.iload 4, 2) := by decide +kernel
theorem dL_law_934 : decode cL_law 934 = .ok (.iconst 3, 1) := by decide +kernel
theorem dL_law_935 : decode cL_law 935 = .ok (.iadd, 1) := by decide +kernel
theorem dL_law_936 : decode cL_law 936 = .ok (.iaload, 1) := by decide +kernel
theorem dL_law_937 : decode cL_law 937 = .ok (.aload_n 3, 1) := by decide +kernel
theorem dL_law_938 : decode cL_law 938 = .ok (.invokestatic 139, 3) := by decide +kernel
theorem dL_law_941 : decode cL_law 941 = .ok (.istore 5, 2) := by decide +kernel
theorem dL_law_943 : decode cL_law 943 = .ok (.aload_n 2, 1) := by decide +kernel
theorem dL_law_944 : decode cL_law 944 = .ok (.aload_n 0, 1) := by decide +kernel
theorem dL_law_945 : decode cL_law 945 = .ok (.iload 4, 2) := by decide +kernel
theorem dL_law_947 : decode cL_law 947 = .ok (.iconst 1, 1) := by decide +kernel
theorem dL_law_948 : decode cL_law 948 = .ok (.iadd, 1) := by decide +kernel
theorem dL_law_949 : decode cL_law 949 = .ok (.iaload, 1) := by decide +kernel
theorem dL_law_950 : decode cL_law 950 = .ok (.aload_n 0, 1) := by decide +kernel
theorem dL_law_951 : decode cL_law 951 = .ok (.iload 4, 2) := by decide +kernel
theorem dL_law_953 : decode cL_law 953 = .ok (.iconst 2, 1) := by decide +kernel
theorem dL_law_954 : decode cL_law 954 = .ok (.iadd, 1) := by decide +kernel
theorem dL_law_955 : decode cL_law 955 = .ok (.iaload, 1) := by decide +kernel
theorem dL_law_956 : decode cL_law 956 = .ok (.aload_n 0, 1) := by decide +kernel
theorem dL_law_957 : decode cL_law 957 = .ok (.iload 4, 2) := by decide +kernel
theorem dL_law_959 : decode cL_law 959 = .ok (.iconst 3, 1) := by decide +kernel
theorem dL_law_960 : decode cL_law 960 = .ok (.iadd, 1) := by decide +kernel
theorem dL_law_961 : decode cL_law 961 = .ok (.iaload, 1) := by decide +kernel
theorem dL_law_962 : decode cL_law 962 = .ok (.invokevirtual 141, 3) := by decide +kernel
theorem dL_law_965 : decode cL_law 965 = .ok (.istore 6, 2) := by decide +kernel
theorem dL_law_967 : decode cL_law 967 = .ok (.aload_n 2, 1) := by decide +kernel
theorem dL_law_968 : decode cL_law 968 = .ok (.invokevirtual 104, 3) := by decide +kernel
theorem dL_law_971 : decode cL_law 971 = .ok (.iload 5, 2) := by decide +kernel
theorem dL_law_973 : decode cL_law 973 = .ok (.if_icmp .eq 5, 3) := by decide +kernel
theorem dL_law_976 : decode cL_law 976 = .ok (.iconst 0, 1) := by decide +kernel
theorem dL_law_977 : decode cL_law 977 = .ok (.ireturn, 1) := by decide +kernel
theorem dL_law_978 : decode cL_law 978 = .ok (.iload 5, 2) := by decide +kernel
theorem dL_law_980 : decode cL_law 980 = .ok (.ifCond .ne 15, 3) := by decide +kernel
theorem dL_law_983 : decode cL_law 983 = .ok (.aload_n 3, 1) := by decide +kernel
theorem dL_law_984 : decode cL_law 984 = .ok (.iconst 0, 1) := by decide +kernel
theorem dL_law_985 : decode cL_law 985 = .ok (.laload, 1) := by decide +kernel
theorem dL_law_986 : decode cL_law 986 = .ok (.iload 6, 2) := by decide +kernel
theorem dL_law_988 : decode cL_law 988 = .ok (.i2l, 1) := by decide +kernel
theorem dL_law_989 : decode cL_law 989 = .ok (.lcmp, 1) := by decide +kernel
theorem dL_law_990 : decode cL_law 990 = .ok (.ifCond .eq 5, 3) := by decide +kernel
theorem dL_law_993 : decode cL_law 993 = .ok (.iconst 0, 1) := by decide +kernel
theorem dL_law_994 : decode cL_law 994 = .ok (.ireturn, 1) := by decide +kernel
theorem dL_law_995 : decode cL_law 995 = .ok (.goto 790, 3) := by decide +kernel
theorem dL_law_998 : decode cL_law 998 = .ok (.aload_n 1, 1) := by decide +kernel
theorem dL_law_999 : decode cL_law 999 = .ok (.aload_n 0, 1) := by decide +kernel
theorem dL_law_1000 : decode cL_law 1000 = .ok (.iload 4, 2) := by decide +kernel
theorem dL_law_1002 : decode cL_law 1002 = .ok (.iconst 1, 1) := by decide +kernel
theorem dL_law_1003 : decode cL_law 1003 = .ok (.iadd, 1) := by decide +kernel
theorem dL_law_1004 : decode cL_law 1004 = .ok (.iaload, 1) := by decide +kernel
theorem dL_law_1005 : decode cL_law 1005 = .ok (.aload_n 0, 1) := by decide +kernel
theorem dL_law_1006 : decode cL_law 1006 = .ok (.iload 4, 2) := by decide +kernel
theorem dL_law_1008 : decode cL_law 1008 = .ok (.iconst 2, 1) := by decide +kernel
theorem dL_law_1009 : decode cL_law 1009 = .ok (.iadd, 1) := by decide +kernel
theorem dL_law_1010 : decode cL_law 1010 = .ok (.iaload, 1) := by decide +kernel
theorem dL_law_1011 : decode cL_law 1011 = .ok (.aload_n 0, 1) := by decide +kernel
theorem dL_law_1012 : decode cL_law 1012 = .ok (.iload 4, 2) := by decide +kernel
theorem dL_law_1014 : decode cL_law 1014 = .ok (.iconst 3, 1) := by decide +kernel
theorem dL_law_1015 : decode cL_law 1015 = .ok (.iadd, 1) := by decide +kernel
theorem dL_law_1016 : decode cL_law 1016 = .ok (.iaload, 1) := by decide +kernel
theorem dL_law_1017 : decode cL_law 1017 = .ok (.ifCond .eq 7, 3) := by decide +kernel
theorem dL_law_1020 : decode cL_law 1020 = .ok (.iconst 1, 1) := by decide +kernel
theorem dL_law_1021 : decode cL_law 1021 = .ok (.goto 4, 3) := by decide +kernel
theorem dL_law_1024 : decode cL_law 1024 = .ok (.iconst 0, 1) := by decide +kernel
theorem dL_law_1025 : decode cL_law 1025 = .ok (.aload_n 3, 1) := by decide +kernel
theorem dL_law_1026 : decode cL_law 1026 = .ok (.invokestatic 142, 3) := by decide +kernel
theorem dL_law_1029 : decode cL_law 1029 = .ok (.istore 5, 2) := by decide +kernel
theorem dL_law_1031 : decode cL_law 1031 = .ok (.aload_n 2, 1) := by decide +kernel
theorem dL_law_1032 : decode cL_law 1032 = .ok (.aload_n 0, 1) := by decide +kernel
theorem dL_law_1033 : decode cL_law 1033 = .ok (.iload 4, 2) := by decide +kernel
theorem dL_law_1035 : decode cL_law 1035 = .ok (.iconst 1, 1) := by decide +kernel
theorem dL_law_1036 : decode cL_law 1036 = .ok (.iadd, 1) := by decide +kernel
theorem dL_law_1037 : decode cL_law 1037 = .ok (.iaload, 1) := by decide +kernel
theorem dL_law_1038 : decode cL_law 1038 = .ok (.aload_n 0, 1) := by decide +kernel
theorem dL_law_1039 : decode cL_law 1039 = .ok (.iload 4, 2) := by decide +kernel
theorem dL_law_1041 : decode cL_law 1041 = .ok (.iconst 2, 1) := by decide +kernel
theorem dL_law_1042 : decode cL_law 1042 = .ok (.iadd, 1) := by decide +kernel
theorem dL_law_1043 : decode cL_law 1043 = .ok (.iaload, 1) := by decide +kernel
theorem dL_law_1044 : decode cL_law 1044 = .ok (.aload_n 0, 1) := by decide +kernel
theorem dL_law_1045 : decode cL_law 1045 = .ok (.iload 4, 2) := by decide +kernel
theorem dL_law_1047 : decode cL_law 1047 = .ok (.iconst 3, 1) := by decide +kernel
theorem dL_law_1048 : decode cL_law 1048 = .ok (.iadd, 1) := by decide +kernel
theorem dL_law_1049 : decode cL_law 1049 = .ok (.iaload, 1) := by decide +kernel
theorem dL_law_1050 : decode cL_law 1050 = .ok (.ifCond .eq 7, 3) := by decide +kernel
theorem dL_law_1053 : decode cL_law 1053 = .ok (.iconst 1, 1) := by decide +kernel
theorem dL_law_1054 : decode cL_law 1054 = .ok (.goto 4, 3) := by decide +kernel
theorem dL_law_1057 : decode cL_law 1057 = .ok (.iconst 0, 1) := by decide +kernel
theorem dL_law_1058 : decode cL_law 1058 = .ok (.invokevirtual 145, 3) := by decide +kernel
theorem dL_law_1061 : decode cL_law 1061 = .ok (.istore 6, 2) := by decide +kernel
theorem dL_law_1063 : decode cL_law 1063 = .ok (.aload_n 2, 1) := by decide +kernel
theorem dL_law_1064 : decode cL_law 1064 = .ok (.invokevirtual 104, 3) := by decide +kernel
theorem dL_law_1067 : decode cL_law 1067 = .ok (.iload 5, 2) := by decide +kernel
theorem dL_law_1069 : decode cL_law 1069 = .ok (.if_icmp .eq 5, 3) := by decide +kernel
theorem dL_law_1072 : decode cL_law 1072 = .ok (.iconst 0, 1) := by decide +kernel
theorem dL_law_1073 : decode cL_law 1073 = .ok (.ireturn, 1) := by decide +kernel
theorem dL_law_1074 : decode cL_law 1074 = .ok (.iload 5, 2) := by decide +kernel
theorem dL_law_1076 : decode cL_law 1076 = .ok (.ifCond .ne 15, 3) := by decide +kernel
theorem dL_law_1079 : decode cL_law 1079 = .ok (.aload_n 3, 1) := by decide +kernel
theorem dL_law_1080 : decode cL_law 1080 = .ok (.iconst 0, 1) := by decide +kernel
theorem dL_law_1081 : decode cL_law 1081 = .ok (.laload, 1) := by decide +kernel
theorem dL_law_1082 : decode cL_law 1082 = .ok (.iload 6, 2) := by decide +kernel
theorem dL_law_1084 : decode cL_law 1084 = .ok (.i2l, 1) := by decide +kernel
theorem dL_law_1085 : decode cL_law 1085 = .ok (.lcmp, 1) := by decide +kernel
theorem dL_law_1086 : decode cL_law 1086 = .ok (.ifCond .eq 5, 3) := by decide +kernel
theorem dL_law_1089 : decode cL_law 1089 = .ok (.iconst 0, 1) := by decide +kernel
theorem dL_law_1090 : decode cL_law 1090 = .ok (.ireturn, 1) := by decide +kernel
theorem dL_law_1091 : decode cL_law 1091 = .ok (.goto 694, 3) := by decide +kernel
theorem dL_law_1094 : decode cL_law 1094 = .ok (.aload_n 1, 1) := by decide +kernel
theorem dL_law_1095 : decode cL_law 1095 = .ok (.aload_n 0, 1) := by decide +kernel
theorem dL_law_1096 : decode cL_law 1096 = .ok (.iload 4, 2) := by decide +kernel
theorem dL_law_1098 : decode cL_law 1098 = .ok (.iconst 1, 1) := by decide +kernel
theorem dL_law_1099 : decode cL_law 1099 = .ok (.iadd, 1) := by decide +kernel
theorem dL_law_1100 : decode cL_law 1100 = .ok (.iaload, 1) := by decide +kernel
theorem dL_law_1101 : decode cL_law 1101 = .ok (.aload_n 3, 1) := by decide +kernel
theorem dL_law_1102 : decode cL_law 1102 = .ok (.invokestatic 146, 3) := by decide +kernel
theorem dL_law_1105 : decode cL_law 1105 = .ok (.istore 5, 2) := by decide +kernel
theorem dL_law_1107 : decode cL_law 1107 = .ok (.aload_n 2, 1) := by decide +kernel
theorem dL_law_1108 : decode cL_law 1108 = .ok (.aload_n 0, 1) := by decide +kernel
theorem dL_law_1109 : decode cL_law 1109 = .ok (.iload 4, 2) := by decide +kernel
theorem dL_law_1111 : decode cL_law 1111 = .ok (.iconst 1, 1) := by decide +kernel
theorem dL_law_1112 : decode cL_law 1112 = .ok (.iadd, 1) := by decide +kernel
theorem dL_law_1113 : decode cL_law 1113 = .ok (.iaload, 1) := by decide +kernel
theorem dL_law_1114 : decode cL_law 1114 = .ok (.invokevirtual 148, 3) := by decide +kernel
theorem dL_law_1117 : decode cL_law 1117 = .ok (.istore 6, 2) := by decide +kernel
theorem dL_law_1119 : decode cL_law 1119 = .ok (.aload_n 2, 1) := by decide +kernel
theorem dL_law_1120 : decode cL_law 1120 = .ok (.invokevirtual 104, 3) := by decide +kernel
theorem dL_law_1123 : decode cL_law 1123 = .ok (.iload 5, 2) := by decide +kernel
theorem dL_law_1125 : decode cL_law 1125 = .ok (.if_icmp .eq 5, 3) := by decide +kernel
theorem dL_law_1128 : decode cL_law 1128 = .ok (.iconst 0, 1) := by decide +kernel
theorem dL_law_1129 : decode cL_law 1129 = .ok (.ireturn, 1) := by decide +kernel
theorem dL_law_1130 : decode cL_law 1130 = .ok (.iload 5, 2) := by decide +kernel
theorem dL_law_1132 : decode cL_law 1132 = .ok (.ifCond .ne 15, 3) := by decide +kernel
theorem dL_law_1135 : decode cL_law 1135 = .ok (.aload_n 3, 1) := by decide +kernel
theorem dL_law_1136 : decode cL_law 1136 = .ok (.iconst 0, 1) := by decide +kernel
theorem dL_law_1137 : decode cL_law 1137 = .ok (.laload, 1) := by decide +kernel
theorem dL_law_1138 : decode cL_law 1138 = .ok (.iload 6, 2) := by decide +kernel
theorem dL_law_1140 : decode cL_law 1140 = .ok (.i2l, 1) := by decide +kernel
theorem dL_law_1141 : decode cL_law 1141 = .ok (.lcmp, 1) := by decide +kernel
theorem dL_law_1142 : decode cL_law 1142 = .ok (.ifCond .eq 5, 3) := by decide +kernel
theorem dL_law_1145 : decode cL_law 1145 = .ok (.iconst 0, 1) := by decide +kernel
theorem dL_law_1146 : decode cL_law 1146 = .ok (.ireturn, 1) := by decide +kernel
theorem dL_law_1147 : decode cL_law 1147 = .ok (.goto 638, 3) := by decide +kernel
theorem dL_law_1150 : decode cL_law 1150 = .ok (.aload_n 1, 1) := by decide +kernel
theorem dL_law_1151 : decode cL_law 1151 = .ok (.aload_n 0, 1) := by decide +kernel
theorem dL_law_1152 : decode cL_law 1152 = .ok (.iload 4, 2) := by decide +kernel
theorem dL_law_1154 : decode cL_law 1154 = .ok (.iconst 1, 1) := by decide +kernel
theorem dL_law_1155 : decode cL_law 1155 = .ok (.iadd, 1) := by decide +kernel
theorem dL_law_1156 : decode cL_law 1156 = .ok (.iaload, 1) := by decide +kernel
theorem dL_law_1157 : decode cL_law 1157 = .ok (.aload_n 3, 1) := by decide +kernel
theorem dL_law_1158 : decode cL_law 1158 = .ok (.invokestatic 149, 3) := by decide +kernel
theorem dL_law_1161 : decode cL_law 1161 = .ok (.istore 5, 2) := by decide +kernel
theorem dL_law_1163 : decode cL_law 1163 = .ok (.aload_n 2, 1) := by decide +kernel
theorem dL_law_1164 : decode cL_law 1164 = .ok (.aload_n 0, 1) := by decide +kernel
theorem dL_law_1165 : decode cL_law 1165 = .ok (.iload 4, 2) := by decide +kernel
theorem dL_law_1167 : decode cL_law 1167 = .ok (.iconst 1, 1) := by decide +kernel
theorem dL_law_1168 : decode cL_law 1168 = .ok (.iadd, 1) := by decide +kernel
theorem dL_law_1169 : decode cL_law 1169 = .ok (.iaload, 1) := by decide +kernel
theorem dL_law_1170 : decode cL_law 1170 = .ok (.invokevirtual 151, 3) := by decide +kernel
theorem dL_law_1173 : decode cL_law 1173 = .ok (.istore 6, 2) := by decide +kernel
theorem dL_law_1175 : decode cL_law 1175 = .ok (.aload_n 2, 1) := by decide +kernel
theorem dL_law_1176 : decode cL_law 1176 = .ok (.invokevirtual 104, 3) := by decide +kernel
theorem dL_law_1179 : decode cL_law 1179 = .ok (.iload 5, 2) := by decide +kernel
theorem dL_law_1181 : decode cL_law 1181 = .ok (.if_icmp .eq 5, 3) := by decide +kernel
theorem dL_law_1184 : decode cL_law 1184 = .ok (.iconst 0, 1) := by decide +kernel
theorem dL_law_1185 : decode cL_law 1185 = .ok (.ireturn, 1) := by decide +kernel
theorem dL_law_1186 : decode cL_law 1186 = .ok (.iload 5, 2) := by decide +kernel
theorem dL_law_1188 : decode cL_law 1188 = .ok (.ifCond .ne 15, 3) := by decide +kernel
theorem dL_law_1191 : decode cL_law 1191 = .ok (.aload_n 3, 1) := by decide +kernel
theorem dL_law_1192 : decode cL_law 1192 = .ok (.iconst 0, 1) := by decide +kernel
theorem dL_law_1193 : decode cL_law 1193 = .ok (.laload, 1) := by decide +kernel
theorem dL_law_1194 : decode cL_law 1194 = .ok (.iload 6, 2) := by decide +kernel
theorem dL_law_1196 : decode cL_law 1196 = .ok (.i2l, 1) := by decide +kernel
theorem dL_law_1197 : decode cL_law 1197 = .ok (.lcmp, 1) := by decide +kernel
theorem dL_law_1198 : decode cL_law 1198 = .ok (.ifCond .eq 5, 3) := by decide +kernel
theorem dL_law_1201 : decode cL_law 1201 = .ok (.iconst 0, 1) := by decide +kernel
theorem dL_law_1202 : decode cL_law 1202 = .ok (.ireturn, 1) := by decide +kernel
theorem dL_law_1203 : decode cL_law 1203 = .ok (.goto 582, 3) := by decide +kernel
theorem dL_law_1206 : decode cL_law 1206 = .ok (.aload_n 1, 1) := by decide +kernel
theorem dL_law_1207 : decode cL_law 1207 = .ok (.aload_n 0, 1) := by decide +kernel
theorem dL_law_1208 : decode cL_law 1208 = .ok (.iload 4, 2) := by decide +kernel
theorem dL_law_1210 : decode cL_law 1210 = .ok (.iconst 1, 1) := by decide +kernel
theorem dL_law_1211 : decode cL_law 1211 = .ok (.iadd, 1) := by decide +kernel
theorem dL_law_1212 : decode cL_law 1212 = .ok (.iaload, 1) := by decide +kernel
theorem dL_law_1213 : decode cL_law 1213 = .ok (.invokestatic 152, 3) := by decide +kernel
theorem dL_law_1216 : decode cL_law 1216 = .ok (.istore 5, 2) := by decide +kernel
theorem dL_law_1218 : decode cL_law 1218 = .ok (.aload_n 2, 1) := by decide +kernel
theorem dL_law_1219 : decode cL_law 1219 = .ok (.aload_n 0, 1) := by decide +kernel
theorem dL_law_1220 : decode cL_law 1220 = .ok (.iload 4, 2) := by decide +kernel
theorem dL_law_1222 : decode cL_law 1222 = .ok (.iconst 1, 1) := by decide +kernel
theorem dL_law_1223 : decode cL_law 1223 = .ok (.iadd, 1) := by decide +kernel
theorem dL_law_1224 : decode cL_law 1224 = .ok (.iaload, 1) := by decide +kernel
theorem dL_law_1225 : decode cL_law 1225 = .ok (.invokevirtual 155, 3) := by decide +kernel
theorem dL_law_1228 : decode cL_law 1228 = .ok (.aload_n 2, 1) := by decide +kernel
theorem dL_law_1229 : decode cL_law 1229 = .ok (.invokevirtual 104, 3) := by decide +kernel
theorem dL_law_1232 : decode cL_law 1232 = .ok (.iload 5, 2) := by decide +kernel
theorem dL_law_1234 : decode cL_law 1234 = .ok (.if_icmp .eq 5, 3) := by decide +kernel
theorem dL_law_1237 : decode cL_law 1237 = .ok (.iconst 0, 1) := by decide +kernel
theorem dL_law_1238 : decode cL_law 1238 = .ok (.ireturn, 1) := by decide +kernel
theorem dL_law_1239 : decode cL_law 1239 = .ok (.goto 546, 3) := by decide +kernel
theorem dL_law_1242 : decode cL_law 1242 = .ok (.aload_n 1, 1) := by decide +kernel
theorem dL_law_1243 : decode cL_law 1243 = .ok (.aload_n 0, 1) := by decide +kernel
theorem dL_law_1244 : decode cL_law 1244 = .ok (.iload 4, 2) := by decide +kernel
theorem dL_law_1246 : decode cL_law 1246 = .ok (.iconst 1, 1) := by decide +kernel
theorem dL_law_1247 : decode cL_law 1247 = .ok (.iadd, 1) := by decide +kernel
theorem dL_law_1248 : decode cL_law 1248 = .ok (.iaload, 1) := by decide +kernel
theorem dL_law_1249 : decode cL_law 1249 = .ok (.aload_n 0, 1) := by decide +kernel
theorem dL_law_1250 : decode cL_law 1250 = .ok (.iload 4, 2) := by decide +kernel
theorem dL_law_1252 : decode cL_law 1252 = .ok (.iconst 2, 1) := by decide +kernel
theorem dL_law_1253 : decode cL_law 1253 = .ok (.iadd, 1) := by decide +kernel
theorem dL_law_1254 : decode cL_law 1254 = .ok (.iaload, 1) := by decide +kernel
theorem dL_law_1255 : decode cL_law 1255 = .ok (.ifCond .eq 7, 3) := by decide +kernel
theorem dL_law_1258 : decode cL_law 1258 = .ok (.iconst 1, 1) := by decide +kernel
theorem dL_law_1259 : decode cL_law 1259 = .ok (.goto 4, 3) := by decide +kernel
theorem dL_law_1262 : decode cL_law 1262 = .ok (.iconst 0, 1) := by decide +kernel
theorem dL_law_1263 : decode cL_law 1263 = .ok (.aload_n 3, 1) := by decide +kernel
theorem dL_law_1264 : decode cL_law 1264 = .ok (.invokestatic 156, 3) := by decide +kernel
theorem dL_law_1267 : decode cL_law 1267 = .ok (.istore 5, 2) := by decide +kernel
theorem dL_law_1269 : decode cL_law 1269 = .ok (.aload_n 2, 1) := by decide +kernel
theorem dL_law_1270 : decode cL_law 1270 = .ok (.aload_n 0, 1) := by decide +kernel
theorem dL_law_1271 : decode cL_law 1271 = .ok (.iload 4, 2) := by decide +kernel
theorem dL_law_1273 : decode cL_law 1273 = .ok (.iconst 1, 1) := by decide +kernel
theorem dL_law_1274 : decode cL_law 1274 = .ok (.iadd, 1) := by decide +kernel
theorem dL_law_1275 : decode cL_law 1275 = .ok (.iaload, 1) := by decide +kernel
theorem dL_law_1276 : decode cL_law 1276 = .ok (.aload_n 0, 1) := by decide +kernel
theorem dL_law_1277 : decode cL_law 1277 = .ok (.iload 4, 2) := by decide +kernel
theorem dL_law_1279 : decode cL_law 1279 = .ok (.iconst 2, 1) := by decide +kernel
theorem dL_law_1280 : decode cL_law 1280 = .ok (.iadd, 1) := by decide +kernel
theorem dL_law_1281 : decode cL_law 1281 = .ok (.iaload, 1) := by decide +kernel
theorem dL_law_1282 : decode cL_law 1282 = .ok (.ifCond .eq 7, 3) := by decide +kernel
theorem dL_law_1285 : decode cL_law 1285 = .ok (.iconst 1, 1) := by decide +kernel
theorem dL_law_1286 : decode cL_law 1286 = .ok (.goto 4, 3) := by decide +kernel
theorem dL_law_1289 : decode cL_law 1289 = .ok (.iconst 0, 1) := by decide +kernel
theorem dL_law_1290 : decode cL_law 1290 = .ok (.invokevirtual 158, 3) := by decide +kernel
theorem dL_law_1293 : decode cL_law 1293 = .ok (.istore 6, 2) := by decide +kernel
theorem dL_law_1295 : decode cL_law 1295 = .ok (.aload_n 2, 1) := by decide +kernel
theorem dL_law_1296 : decode cL_law 1296 = .ok (.invokevirtual 104, 3) := by decide +kernel
theorem dL_law_1299 : decode cL_law 1299 = .ok (.iload 5, 2) := by decide +kernel
theorem dL_law_1301 : decode cL_law 1301 = .ok (.if_icmp .eq 5, 3) := by decide +kernel
theorem dL_law_1304 : decode cL_law 1304 = .ok (.iconst 0, 1) := by decide +kernel
theorem dL_law_1305 : decode cL_law 1305 = .ok (.ireturn, 1) := by decide +kernel
theorem dL_law_1306 : decode cL_law 1306 = .ok (.iload 5, 2) := by decide +kernel
theorem dL_law_1308 : decode cL_law 1308 = .ok (.ifCond .ne 15, 3) := by decide +kernel
theorem dL_law_1311 : decode cL_law 1311 = .ok (.aload_n 3, 1) := by decide +kernel
theorem dL_law_1312 : decode cL_law 1312 = .ok (.iconst 0, 1) := by decide +kernel
theorem dL_law_1313 : decode cL_law 1313 = .ok (.laload, 1) := by decide +kernel
theorem dL_law_1314 : decode cL_law 1314 = .ok (.iload 6, 2) := by decide +kernel
theorem dL_law_1316 : decode cL_law 1316 = .ok (.i2l, 1) := by decide +kernel
theorem dL_law_1317 : decode cL_law 1317 = .ok (.lcmp, 1) := by decide +kernel
theorem dL_law_1318 : decode cL_law 1318 = .ok (.ifCond .eq 5, 3) := by decide +kernel
theorem dL_law_1321 : decode cL_law 1321 = .ok (.iconst 0, 1) := by decide +kernel
theorem dL_law_1322 : decode cL_law 1322 = .ok (.ireturn, 1) := by decide +kernel
theorem dL_law_1323 : decode cL_law 1323 = .ok (.goto 462, 3) := by decide +kernel
theorem dL_law_1326 : decode cL_law 1326 = .ok (.aload_n 1, 1) := by decide +kernel
theorem dL_law_1327 : decode cL_law 1327 = .ok (.aload_n 0, 1) := by decide +kernel
theorem dL_law_1328 : decode cL_law 1328 = .ok (.iload 4, 2) := by decide +kernel
theorem dL_law_1330 : decode cL_law 1330 = .ok (.iconst 1, 1) := by decide +kernel
theorem dL_law_1331 : decode cL_law 1331 = .ok (.iadd, 1) := by decide +kernel
theorem dL_law_1332 : decode cL_law 1332 = .ok (.iaload, 1) := by decide +kernel
theorem dL_law_1333 : decode cL_law 1333 = .ok (.aload_n 0, 1) := by decide +kernel
theorem dL_law_1334 : decode cL_law 1334 = .ok (.iload 4, 2) := by decide +kernel
theorem dL_law_1336 : decode cL_law 1336 = .ok (.iconst 2, 1) := by decide +kernel
theorem dL_law_1337 : decode cL_law 1337 = .ok (.iadd, 1) := by decide +kernel
theorem dL_law_1338 : decode cL_law 1338 = .ok (.iaload, 1) := by decide +kernel
theorem dL_law_1339 : decode cL_law 1339 = .ok (.aload_n 3, 1) := by decide +kernel
theorem dL_law_1340 : decode cL_law 1340 = .ok (.invokestatic 159, 3) := by decide +kernel
theorem dL_law_1343 : decode cL_law 1343 = .ok (.istore 5, 2) := by decide +kernel
theorem dL_law_1345 : decode cL_law 1345 = .ok (.aload_n 2, 1) := by decide +kernel
theorem dL_law_1346 : decode cL_law 1346 = .ok (.aload_n 0, 1) := by decide +kernel
theorem dL_law_1347 : decode cL_law 1347 = .ok (.iload 4, 2) := by decide +kernel
theorem dL_law_1349 : decode cL_law 1349 = .ok (.iconst 1, 1) := by decide +kernel
theorem dL_law_1350 : decode cL_law 1350 = .ok (.iadd, 1) := by decide +kernel
theorem dL_law_1351 : decode cL_law 1351 = .ok (.iaload, 1) := by decide +kernel
theorem dL_law_1352 : decode cL_law 1352 = .ok (.aload_n 0, 1) := by decide +kernel
theorem dL_law_1353 : decode cL_law 1353 = .ok (.iload 4, 2) := by decide +kernel
theorem dL_law_1355 : decode cL_law 1355 = .ok (.iconst 2, 1) := by decide +kernel
theorem dL_law_1356 : decode cL_law 1356 = .ok (.iadd, 1) := by decide +kernel
theorem dL_law_1357 : decode cL_law 1357 = .ok (.iaload, 1) := by decide +kernel
theorem dL_law_1358 : decode cL_law 1358 = .ok (.invokevirtual 161, 3) := by decide +kernel
theorem dL_law_1361 : decode cL_law 1361 = .ok (.istore 6, 2) := by decide +kernel
theorem dL_law_1363 : decode cL_law 1363 = .ok (.aload_n 2, 1) := by decide +kernel
theorem dL_law_1364 : decode cL_law 1364 = .ok (.invokevirtual 104, 3) := by decide +kernel
theorem dL_law_1367 : decode cL_law 1367 = .ok (.iload 5, 2) := by decide +kernel
theorem dL_law_1369 : decode cL_law 1369 = .ok (.if_icmp .eq 5, 3) := by decide +kernel
theorem dL_law_1372 : decode cL_law 1372 = .ok (.iconst 0, 1) := by decide +kernel
theorem dL_law_1373 : decode cL_law 1373 = .ok (.ireturn, 1) := by decide +kernel
theorem dL_law_1374 : decode cL_law 1374 = .ok (.iload 5, 2) := by decide +kernel
theorem dL_law_1376 : decode cL_law 1376 = .ok (.ifCond .ne 15, 3) := by decide +kernel
theorem dL_law_1379 : decode cL_law 1379 = .ok (.aload_n 3, 1) := by decide +kernel
theorem dL_law_1380 : decode cL_law 1380 = .ok (.iconst 0, 1) := by decide +kernel
theorem dL_law_1381 : decode cL_law 1381 = .ok (.laload, 1) := by decide +kernel
theorem dL_law_1382 : decode cL_law 1382 = .ok (.iload 6, 2) := by decide +kernel
theorem dL_law_1384 : decode cL_law 1384 = .ok (.i2l, 1) := by decide +kernel
theorem dL_law_1385 : decode cL_law 1385 = .ok (.lcmp, 1) := by decide +kernel
theorem dL_law_1386 : decode cL_law 1386 = .ok (.ifCond .eq 5, 3) := by decide +kernel
theorem dL_law_1389 : decode cL_law 1389 = .ok (.iconst 0, 1) := by decide +kernel
theorem dL_law_1390 : decode cL_law 1390 = .ok (.ireturn, 1) := by decide +kernel
theorem dL_law_1391 : decode cL_law 1391 = .ok (.goto 394, 3) := by decide +kernel
theorem dL_law_1394 : decode cL_law 1394 = .ok (.aload_n 1, 1) := by decide +kernel
theorem dL_law_1395 : decode cL_law 1395 = .ok (.aload_n 0, 1) := by decide +kernel
theorem dL_law_1396 : decode cL_law 1396 = .ok (.iload 4, 2) := by decide +kernel
theorem dL_law_1398 : decode cL_law 1398 = .ok (.iconst 1, 1) := by decide +kernel
theorem dL_law_1399 : decode cL_law 1399 = .ok (.iadd, 1) := by decide +kernel
theorem dL_law_1400 : decode cL_law 1400 = .ok (.iaload, 1) := by decide +kernel
theorem dL_law_1401 : decode cL_law 1401 = .ok (.aload_n 3, 1) := by decide +kernel
theorem dL_law_1402 : decode cL_law 1402 = .ok (.invokestatic 162, 3) := by decide +kernel
theorem dL_law_1405 : decode cL_law 1405 = .ok (.istore 5, 2) := by decide +kernel
theorem dL_law_1407 : decode cL_law 1407 = .ok (.aload_n 2, 1) := by decide +kernel
theorem dL_law_1408 : decode cL_law 1408 = .ok (.aload_n 0, 1) := by decide +kernel
theorem dL_law_1409 : decode cL_law 1409 = .ok (.iload 4, 2) := by decide +kernel
theorem dL_law_1411 : decode cL_law 1411 = .ok (.iconst 1, 1) := by decide +kernel
theorem dL_law_1412 : decode cL_law 1412 = .ok (.iadd, 1) := by decide +kernel
theorem dL_law_1413 : decode cL_law 1413 = .ok (.iaload, 1) := by decide +kernel
theorem dL_law_1414 : decode cL_law 1414 = .ok (.invokevirtual 164, 3) := by decide +kernel
theorem dL_law_1417 : decode cL_law 1417 = .ok (.istore 6, 2) := by decide +kernel
theorem dL_law_1419 : decode cL_law 1419 = .ok (.aload_n 2, 1) := by decide +kernel
theorem dL_law_1420 : decode cL_law 1420 = .ok (.invokevirtual 104, 3) := by decide +kernel
theorem dL_law_1423 : decode cL_law 1423 = .ok (.iload 5, 2) := by decide +kernel
theorem dL_law_1425 : decode cL_law 1425 = .ok (.if_icmp .eq 5, 3) := by decide +kernel
theorem dL_law_1428 : decode cL_law 1428 = .ok (.iconst 0, 1) := by decide +kernel
theorem dL_law_1429 : decode cL_law 1429 = .ok (.ireturn, 1) := by decide +kernel
theorem dL_law_1430 : decode cL_law 1430 = .ok (.iload 5, 2) := by decide +kernel
theorem dL_law_1432 : decode cL_law 1432 = .ok (.ifCond .ne 15, 3) := by decide +kernel
theorem dL_law_1435 : decode cL_law 1435 = .ok (.aload_n 3, 1) := by decide +kernel
theorem dL_law_1436 : decode cL_law 1436 = .ok (.iconst 0, 1) := by decide +kernel
theorem dL_law_1437 : decode cL_law 1437 = .ok (.laload, 1) := by decide +kernel
theorem dL_law_1438 : decode cL_law 1438 = .ok (.iload 6, 2) := by decide +kernel
theorem dL_law_1440 : decode cL_law 1440 = .ok (.i2l, 1) := by decide +kernel
theorem dL_law_1441 : decode cL_law 1441 = .ok (.lcmp, 1) := by decide +kernel
theorem dL_law_1442 : decode cL_law 1442 = .ok (.ifCond .eq 5, 3) := by decide +kernel
theorem dL_law_1445 : decode cL_law 1445 = .ok (.iconst 0, 1) := by decide +kernel
theorem dL_law_1446 : decode cL_law 1446 = .ok (.ireturn, 1) := by decide +kernel
theorem dL_law_1447 : decode cL_law 1447 = .ok (.goto 338, 3) := by decide +kernel
theorem dL_law_1450 : decode cL_law 1450 = .ok (.aload_n 1, 1) := by decide +kernel
theorem dL_law_1451 : decode cL_law 1451 = .ok (.aload_n 0, 1) := by decide +kernel
theorem dL_law_1452 : decode cL_law 1452 = .ok (.iload 4, 2) := by decide +kernel
theorem dL_law_1454 : decode cL_law 1454 = .ok (.iconst 1, 1) := by decide +kernel
theorem dL_law_1455 : decode cL_law 1455 = .ok (.iadd, 1) := by decide +kernel
theorem dL_law_1456 : decode cL_law 1456 = .ok (.iaload, 1) := by decide +kernel
theorem dL_law_1457 : decode cL_law 1457 = .ok (.aload_n 0, 1) := by decide +kernel
theorem dL_law_1458 : decode cL_law 1458 = .ok (.iload 4, 2) := by decide +kernel
theorem dL_law_1460 : decode cL_law 1460 = .ok (.iconst 2, 1) := by decide +kernel
theorem dL_law_1461 : decode cL_law 1461 = .ok (.iadd, 1) := by decide +kernel
theorem dL_law_1462 : decode cL_law 1462 = .ok (.iaload, 1) := by decide +kernel
theorem dL_law_1463 : decode cL_law 1463 = .ok (.aload_n 3, 1) := by decide +kernel
theorem dL_law_1464 : decode cL_law 1464 = .ok (.invokestatic 165, 3) := by decide +kernel
theorem dL_law_1467 : decode cL_law 1467 = .ok (.istore 5, 2) := by decide +kernel
theorem dL_law_1469 : decode cL_law 1469 = .ok (.aload_n 2, 1) := by decide +kernel
theorem dL_law_1470 : decode cL_law 1470 = .ok (.aload_n 0, 1) := by decide +kernel
theorem dL_law_1471 : decode cL_law 1471 = .ok (.iload 4, 2) := by decide +kernel
theorem dL_law_1473 : decode cL_law 1473 = .ok (.iconst 1, 1) := by decide +kernel
theorem dL_law_1474 : decode cL_law 1474 = .ok (.iadd, 1) := by decide +kernel
theorem dL_law_1475 : decode cL_law 1475 = .ok (.iaload, 1) := by decide +kernel
theorem dL_law_1476 : decode cL_law 1476 = .ok (.aload_n 0, 1) := by decide +kernel
theorem dL_law_1477 : decode cL_law 1477 = .ok (.iload 4, 2) := by decide +kernel
theorem dL_law_1479 : decode cL_law 1479 = .ok (.iconst 2, 1) := by decide +kernel
theorem dL_law_1480 : decode cL_law 1480 = .ok (.iadd, 1) := by decide +kernel
theorem dL_law_1481 : decode cL_law 1481 = .ok (.iaload, 1) := by decide +kernel
theorem dL_law_1482 : decode cL_law 1482 = .ok (.invokevirtual 167, 3) := by decide +kernel
theorem dL_law_1485 : decode cL_law 1485 = .ok (.istore 6, 2) := by decide +kernel
theorem dL_law_1487 : decode cL_law 1487 = .ok (.aload_n 2, 1) := by decide +kernel
theorem dL_law_1488 : decode cL_law 1488 = .ok (.invokevirtual 104, 3) := by decide +kernel
theorem dL_law_1491 : decode cL_law 1491 = .ok (.iload 5, 2) := by decide +kernel
theorem dL_law_1493 : decode cL_law 1493 = .ok (.if_icmp .eq 5, 3) := by decide +kernel
theorem dL_law_1496 : decode cL_law 1496 = .ok (.iconst 0, 1) := by decide +kernel
theorem dL_law_1497 : decode cL_law 1497 = .ok (.ireturn, 1) := by decide +kernel
theorem dL_law_1498 : decode cL_law 1498 = .ok (.iload 5, 2) := by decide +kernel
theorem dL_law_1500 : decode cL_law 1500 = .ok (.ifCond .ne 22, 3) := by decide +kernel
theorem dL_law_1503 : decode cL_law 1503 = .ok (.aload_n 3, 1) := by decide +kernel
theorem dL_law_1504 : decode cL_law 1504 = .ok (.iconst 0, 1) := by decide +kernel
theorem dL_law_1505 : decode cL_law 1505 = .ok (.laload, 1) := by decide +kernel
theorem dL_law_1506 : decode cL_law 1506 = .ok (.iload 6, 2) := by decide +kernel
theorem dL_law_1508 : decode cL_law 1508 = .ok (.ifCond .eq 7, 3) := by decide +kernel
theorem dL_law_1511 : decode cL_law 1511 = .ok (.lconst 1, 1) := by decide +kernel
theorem dL_law_1512 : decode cL_law 1512 = .ok (.goto 4, 3) := by decide +kernel
theorem dL_law_1515 : decode cL_law 1515 = .ok (.lconst 0, 1) := by decide +kernel
theorem dL_law_1516 : decode cL_law 1516 = .ok (.lcmp, 1) := by decide +kernel
theorem dL_law_1517 : decode cL_law 1517 = .ok (.ifCond .eq 5, 3) := by decide +kernel
theorem dL_law_1520 : decode cL_law 1520 = .ok (.iconst 0, 1) := by decide +kernel
theorem dL_law_1521 : decode cL_law 1521 = .ok (.ireturn, 1) := by decide +kernel
theorem dL_law_1522 : decode cL_law 1522 = .ok (.goto 263, 3) := by decide +kernel
theorem dL_law_1525 : decode cL_law 1525 = .ok (.aload_n 1, 1) := by decide +kernel
theorem dL_law_1526 : decode cL_law 1526 = .ok (.aload_n 0, 1) := by decide +kernel
theorem dL_law_1527 : decode cL_law 1527 = .ok (.iload 4, 2) := by decide +kernel
theorem dL_law_1529 : decode cL_law 1529 = .ok (.iconst 1, 1) := by decide +kernel
theorem dL_law_1530 : decode cL_law 1530 = .ok (.iadd, 1) := by decide +kernel
theorem dL_law_1531 : decode cL_law 1531 = .ok (.iaload, 1) := by decide +kernel
theorem dL_law_1532 : decode cL_law 1532 = .ok (.aload_n 0, 1) := by decide +kernel
theorem dL_law_1533 : decode cL_law 1533 = .ok (.iload 4, 2) := by decide +kernel
theorem dL_law_1535 : decode cL_law 1535 = .ok (.iconst 2, 1) := by decide +kernel
theorem dL_law_1536 : decode cL_law 1536 = .ok (.iadd, 1) := by decide +kernel
theorem dL_law_1537 : decode cL_law 1537 = .ok (.iaload, 1) := by decide +kernel
theorem dL_law_1538 : decode cL_law 1538 = .ok (.aload_n 3, 1) := by decide +kernel
theorem dL_law_1539 : decode cL_law 1539 = .ok (.invokestatic 168, 3) := by decide +kernel
theorem dL_law_1542 : decode cL_law 1542 = .ok (.istore 5, 2) := by decide +kernel
theorem dL_law_1544 : decode cL_law 1544 = .ok (.aload_n 2, 1) := by decide +kernel
theorem dL_law_1545 : decode cL_law 1545 = .ok (.aload_n 0, 1) := by decide +kernel
theorem dL_law_1546 : decode cL_law 1546 = .ok (.iload 4, 2) := by decide +kernel
theorem dL_law_1548 : decode cL_law 1548 = .ok (.iconst 1, 1) := by decide +kernel
theorem dL_law_1549 : decode cL_law 1549 = .ok (.iadd, 1) := by decide +kernel
theorem dL_law_1550 : decode cL_law 1550 = .ok (.iaload, 1) := by decide +kernel
theorem dL_law_1551 : decode cL_law 1551 = .ok (.aload_n 0, 1) := by decide +kernel
theorem dL_law_1552 : decode cL_law 1552 = .ok (.iload 4, 2) := by decide +kernel
theorem dL_law_1554 : decode cL_law 1554 = .ok (.iconst 2, 1) := by decide +kernel
theorem dL_law_1555 : decode cL_law 1555 = .ok (.iadd, 1) := by decide +kernel
theorem dL_law_1556 : decode cL_law 1556 = .ok (.iaload, 1) := by decide +kernel
theorem dL_law_1557 : decode cL_law 1557 = .ok (.invokevirtual 170, 3) := by decide +kernel
theorem dL_law_1560 : decode cL_law 1560 = .ok (.istore 6, 2) := by decide +kernel
theorem dL_law_1562 : decode cL_law 1562 = .ok (.aload_n 2, 1) := by decide +kernel
theorem dL_law_1563 : decode cL_law 1563 = .ok (.invokevirtual 104, 3) := by decide +kernel
theorem dL_law_1566 : decode cL_law 1566 = .ok (.iload 5, 2) := by decide +kernel
theorem dL_law_1568 : decode cL_law 1568 = .ok (.if_icmp .eq 5, 3) := by decide +kernel
theorem dL_law_1571 : decode cL_law 1571 = .ok (.iconst 0, 1) := by decide +kernel
theorem dL_law_1572 : decode cL_law 1572 = .ok (.ireturn, 1) := by decide +kernel
theorem dL_law_1573 : decode cL_law 1573 = .ok (.iload 5, 2) := by decide +kernel
theorem dL_law_1575 : decode cL_law 1575 = .ok (.ifCond .ne 15, 3) := by decide +kernel
theorem dL_law_1578 : decode cL_law 1578 = .ok (.aload_n 3, 1) := by decide +kernel
theorem dL_law_1579 : decode cL_law 1579 = .ok (.iconst 0, 1) := by decide +kernel
theorem dL_law_1580 : decode cL_law 1580 = .ok (.laload, 1) := by decide +kernel
theorem dL_law_1581 : decode cL_law 1581 = .ok (.iload 6, 2) := by decide +kernel
theorem dL_law_1583 : decode cL_law 1583 = .ok (.i2l, 1) := by decide +kernel
theorem dL_law_1584 : decode cL_law 1584 = .ok (.lcmp, 1) := by decide +kernel
theorem dL_law_1585 : decode cL_law 1585 = .ok (.ifCond .eq 5, 3) := by decide +kernel
theorem dL_law_1588 : decode cL_law 1588 = .ok (.iconst 0, 1) := by decide +kernel
theorem dL_law_1589 : decode cL_law 1589 = .ok (.ireturn, 1) := by decide +kernel
theorem dL_law_1590 : decode cL_law 1590 = .ok (.goto 195, 3) := by decide +kernel
theorem dL_law_1593 : decode cL_law 1593 = .ok (.aload_n 1, 1) := by decide +kernel
theorem dL_law_1594 : decode cL_law 1594 = .ok (.aload_n 0, 1) := by decide +kernel
theorem dL_law_1595 : decode cL_law 1595 = .ok (.iload 4, 2) := by decide +kernel
theorem dL_law_1597 : decode cL_law 1597 = .ok (.iconst 1, 1) := by decide +kernel
theorem dL_law_1598 : decode cL_law 1598 = .ok (.iadd, 1) := by decide +kernel
theorem dL_law_1599 : decode cL_law 1599 = .ok (.iaload, 1) := by decide +kernel
theorem dL_law_1600 : decode cL_law 1600 = .ok (.aload_n 3, 1) := by decide +kernel
theorem dL_law_1601 : decode cL_law 1601 = .ok (.invokestatic 171, 3) := by decide +kernel
theorem dL_law_1604 : decode cL_law 1604 = .ok (.istore 5, 2) := by decide +kernel
theorem dL_law_1606 : decode cL_law 1606 = .ok (.aload_n 2, 1) := by decide +kernel
theorem dL_law_1607 : decode cL_law 1607 = .ok (.aload_n 0, 1) := by decide +kernel
theorem dL_law_1608 : decode cL_law 1608 = .ok (.iload 4, 2) := by decide +kernel
theorem dL_law_1610 : decode cL_law 1610 = .ok (.iconst 1, 1) := by decide +kernel
theorem dL_law_1611 : decode cL_law 1611 = .ok (.iadd, 1) := by decide +kernel
theorem dL_law_1612 : decode cL_law 1612 = .ok (.iaload, 1) := by decide +kernel
theorem dL_law_1613 : decode cL_law 1613 = .ok (.invokevirtual 173, 3) := by decide +kernel
theorem dL_law_1616 : decode cL_law 1616 = .ok (.istore 6, 2) := by decide +kernel
theorem dL_law_1618 : decode cL_law 1618 = .ok (.aload_n 2, 1) := by decide +kernel
theorem dL_law_1619 : decode cL_law 1619 = .ok (.invokevirtual 104, 3) := by decide +kernel
theorem dL_law_1622 : decode cL_law 1622 = .ok (.iload 5, 2) := by decide +kernel
theorem dL_law_1624 : decode cL_law 1624 = .ok (.if_icmp .eq 5, 3) := by decide +kernel
theorem dL_law_1627 : decode cL_law 1627 = .ok (.iconst 0, 1) := by decide +kernel
theorem dL_law_1628 : decode cL_law 1628 = .ok (.ireturn, 1) := by decide +kernel
theorem dL_law_1629 : decode cL_law 1629 = .ok (.iload 5, 2) := by decide +kernel
theorem dL_law_1631 : decode cL_law 1631 = .ok (.ifCond .ne 15, 3) := by decide +kernel
theorem dL_law_1634 : decode cL_law 1634 = .ok (.aload_n 3, 1) := by decide +kernel
theorem dL_law_1635 : decode cL_law 1635 = .ok (.iconst 0, 1) := by decide +kernel
theorem dL_law_1636 : decode cL_law 1636 = .ok (.laload, 1) := by decide +kernel
theorem dL_law_1637 : decode cL_law 1637 = .ok (.iload 6, 2) := by decide +kernel
theorem dL_law_1639 : decode cL_law 1639 = .ok (.i2l, 1) := by decide +kernel
theorem dL_law_1640 : decode cL_law 1640 = .ok (.lcmp, 1) := by decide +kernel
theorem dL_law_1641 : decode cL_law 1641 = .ok (.ifCond .eq 5, 3) := by decide +kernel
theorem dL_law_1644 : decode cL_law 1644 = .ok (.iconst 0, 1) := by decide +kernel
theorem dL_law_1645 : decode cL_law 1645 = .ok (.ireturn, 1) := by decide +kernel
theorem dL_law_1646 : decode cL_law 1646 = .ok (.goto 139, 3) := by decide +kernel
theorem dL_law_1649 : decode cL_law 1649 = .ok (.aload_n 1, 1) := by decide +kernel
theorem dL_law_1650 : decode cL_law 1650 = .ok (.aload_n 0, 1) := by decide +kernel
theorem dL_law_1651 : decode cL_law 1651 = .ok (.iload 4, 2) := by decide +kernel
theorem dL_law_1653 : decode cL_law 1653 = .ok (.iconst 1, 1) := by decide +kernel
theorem dL_law_1654 : decode cL_law 1654 = .ok (.iadd, 1) := by decide +kernel
theorem dL_law_1655 : decode cL_law 1655 = .ok (.iaload, 1) := by decide +kernel
theorem dL_law_1656 : decode cL_law 1656 = .ok (.aload_n 3, 1) := by decide +kernel
theorem dL_law_1657 : decode cL_law 1657 = .ok (.invokestatic 174, 3) := by decide +kernel
theorem dL_law_1660 : decode cL_law 1660 = .ok (.istore 5, 2) := by decide +kernel
theorem dL_law_1662 : decode cL_law 1662 = .ok (.aload_n 2, 1) := by decide +kernel
theorem dL_law_1663 : decode cL_law 1663 = .ok (.aload_n 0, 1) := by decide +kernel
theorem dL_law_1664 : decode cL_law 1664 = .ok (.iload 4, 2) := by decide +kernel
theorem dL_law_1666 : decode cL_law 1666 = .ok (.iconst 1, 1) := by decide +kernel
theorem dL_law_1667 : decode cL_law 1667 = .ok (.iadd, 1) := by decide +kernel
theorem dL_law_1668 : decode cL_law 1668 = .ok (.iaload, 1) := by decide +kernel
theorem dL_law_1669 : decode cL_law 1669 = .ok (.invokevirtual 176, 3) := by decide +kernel
theorem dL_law_1672 : decode cL_law 1672 = .ok (.istore 6, 2) := by decide +kernel
theorem dL_law_1674 : decode cL_law 1674 = .ok (.aload_n 2, 1) := by decide +kernel
theorem dL_law_1675 : decode cL_law 1675 = .ok (.invokevirtual 104, 3) := by decide +kernel
theorem dL_law_1678 : decode cL_law 1678 = .ok (.iload 5, 2) := by decide +kernel
theorem dL_law_1680 : decode cL_law 1680 = .ok (.if_icmp .eq 5, 3) := by decide +kernel
theorem dL_law_1683 : decode cL_law 1683 = .ok (.iconst 0, 1) := by decide +kernel
theorem dL_law_1684 : decode cL_law 1684 = .ok (.ireturn, 1) := by decide +kernel
theorem dL_law_1685 : decode cL_law 1685 = .ok (.iload 5, 2) := by decide +kernel
theorem dL_law_1687 : decode cL_law 1687 = .ok (.ifCond .ne 15, 3) := by decide +kernel
theorem dL_law_1690 : decode cL_law 1690 = .ok (.aload_n 3, 1) := by decide +kernel
theorem dL_law_1691 : decode cL_law 1691 = .ok (.iconst 0, 1) := by decide +kernel
theorem dL_law_1692 : decode cL_law 1692 = .ok (.laload, 1) := by decide +kernel
theorem dL_law_1693 : decode cL_law 1693 = .ok (.iload 6, 2) := by decide +kernel
theorem dL_law_1695 : decode cL_law 1695 = .ok (.i2l, 1) := by decide +kernel
theorem dL_law_1696 : decode cL_law 1696 = .ok (.lcmp, 1) := by decide +kernel
theorem dL_law_1697 : decode cL_law 1697 = .ok (.ifCond .eq 5, 3) := by decide +kernel
theorem dL_law_1700 : decode cL_law 1700 = .ok (.iconst 0, 1) := by decide +kernel
theorem dL_law_1701 : decode cL_law 1701 = .ok (.ireturn, 1) := by decide +kernel
theorem dL_law_1702 : decode cL_law 1702 = .ok (.goto 83, 3) := by decide +kernel
theorem dL_law_1705 : decode cL_law 1705 = .ok (.aload_n 1, 1) := by decide +kernel
theorem dL_law_1706 : decode cL_law 1706 = .ok (.aload_n 0, 1) := by decide +kernel
theorem dL_law_1707 : decode cL_law 1707 = .ok (.iload 4, 2) := by decide +kernel
theorem dL_law_1709 : decode cL_law 1709 = .ok (.iconst 1, 1) := by decide +kernel
theorem dL_law_1710 : decode cL_law 1710 = .ok (.iadd, 1) := by decide +kernel
theorem dL_law_1711 : decode cL_law 1711 = .ok (.iaload, 1) := by decide +kernel
theorem dL_law_1712 : decode cL_law 1712 = .ok (.aload_n 0, 1) := by decide +kernel
theorem dL_law_1713 : decode cL_law 1713 = .ok (.iload 4, 2) := by decide +kernel
theorem dL_law_1715 : decode cL_law 1715 = .ok (.iconst 2, 1) := by decide +kernel
theorem dL_law_1716 : decode cL_law 1716 = .ok (.iadd, 1) := by decide +kernel
theorem dL_law_1717 : decode cL_law 1717 = .ok (.iaload, 1) := by decide +kernel
theorem dL_law_1718 : decode cL_law 1718 = .ok (.aload_n 0, 1) := by decide +kernel
theorem dL_law_1719 : decode cL_law 1719 = .ok (.iload 4, 2) := by decide +kernel
theorem dL_law_1721 : decode cL_law 1721 = .ok (.iconst 3, 1) := by decide +kernel
theorem dL_law_1722 : decode cL_law 1722 = .ok (.iadd, 1) := by decide +kernel
theorem dL_law_1723 : decode cL_law 1723 = .ok (.iaload, 1) := by decide +kernel
theorem dL_law_1724 : decode cL_law 1724 = .ok (.aload_n 3, 1) := by decide +kernel
theorem dL_law_1725 : decode cL_law 1725 = .ok (.invokestatic 177, 3) := by decide +kernel
theorem dL_law_1728 : decode cL_law 1728 = .ok (.istore 5, 2) := by decide +kernel
theorem dL_law_1730 : decode cL_law 1730 = .ok (.aload_n 2, 1) := by decide +kernel
theorem dL_law_1731 : decode cL_law 1731 = .ok (.aload_n 0, 1) := by decide +kernel
theorem dL_law_1732 : decode cL_law 1732 = .ok (.iload 4, 2) := by decide +kernel
theorem dL_law_1734 : decode cL_law 1734 = .ok (.iconst 1, 1) := by decide +kernel
theorem dL_law_1735 : decode cL_law 1735 = .ok (.iadd, 1) := by decide +kernel
theorem dL_law_1736 : decode cL_law 1736 = .ok (.iaload, 1) := by decide +kernel
theorem dL_law_1737 : decode cL_law 1737 = .ok (.aload_n 0, 1) := by decide +kernel
theorem dL_law_1738 : decode cL_law 1738 = .ok (.iload 4, 2) := by decide +kernel
theorem dL_law_1740 : decode cL_law 1740 = .ok (.iconst 2, 1) := by decide +kernel
theorem dL_law_1741 : decode cL_law 1741 = .ok (.iadd, 1) := by decide +kernel
theorem dL_law_1742 : decode cL_law 1742 = .ok (.iaload, 1) := by decide +kernel
theorem dL_law_1743 : decode cL_law 1743 = .ok (.aload_n 0, 1) := by decide +kernel
theorem dL_law_1744 : decode cL_law 1744 = .ok (.iload 4, 2) := by decide +kernel
theorem dL_law_1746 : decode cL_law 1746 = .ok (.iconst 3, 1) := by decide +kernel
theorem dL_law_1747 : decode cL_law 1747 = .ok (.iadd, 1) := by decide +kernel
theorem dL_law_1748 : decode cL_law 1748 = .ok (.iaload, 1) := by decide +kernel
theorem dL_law_1749 : decode cL_law 1749 = .ok (.invokevirtual 179, 3) := by decide +kernel
theorem dL_law_1752 : decode cL_law 1752 = .ok (.istore 6, 2) := by decide +kernel
theorem dL_law_1754 : decode cL_law 1754 = .ok (.aload_n 2, 1) := by decide +kernel
theorem dL_law_1755 : decode cL_law 1755 = .ok (.invokevirtual 104, 3) := by decide +kernel
theorem dL_law_1758 : decode cL_law 1758 = .ok (.iload 5, 2) := by decide +kernel
theorem dL_law_1760 : decode cL_law 1760 = .ok (.if_icmp .eq 5, 3) := by decide +kernel
theorem dL_law_1763 : decode cL_law 1763 = .ok (.iconst 0, 1) := by decide +kernel
theorem dL_law_1764 : decode cL_law 1764 = .ok (.ireturn, 1) := by decide +kernel
theorem dL_law_1765 : decode cL_law 1765 = .ok (.iload 5, 2) := by decide +kernel
theorem dL_law_1767 : decode cL_law 1767 = .ok (.ifCond .ne 15, 3) := by decide +kernel
theorem dL_law_1770 : decode cL_law 1770 = .ok (.aload_n 3, 1) := by decide +kernel
theorem dL_law_1771 : decode cL_law 1771 = .ok (.iconst 0, 1) := by decide +kernel
theorem dL_law_1772 : decode cL_law 1772 = .ok (.laload, 1) := by decide +kernel
theorem dL_law_1773 : decode cL_law 1773 = .ok (.iload 6, 2) := by decide +kernel
theorem dL_law_1775 : decode cL_law 1775 = .ok (.i2l, 1) := by decide +kernel
theorem dL_law_1776 : decode cL_law 1776 = .ok (.lcmp, 1) := by decide +kernel
theorem dL_law_1777 : decode cL_law 1777 = .ok (.ifCond .eq 5, 3) := by decide +kernel
theorem dL_law_1780 : decode cL_law 1780 = .ok (.iconst 0, 1) := by decide +kernel
theorem dL_law_1781 : decode cL_law 1781 = .ok (.ireturn, 1) := by decide +kernel
theorem dL_law_1782 : decode cL_law 1782 = .ok (.goto 3, 3) := by decide +kernel
theorem dL_law_1785 : decode cL_law 1785 = .ok (.iinc 4 6, 3) := by decide +kernel
theorem dL_law_1788 : decode cL_law 1788 = .ok (.goto (-1765), 3) := by decide +kernel
theorem dL_law_1791 : decode cL_law 1791 = .ok (.iconst 1, 1) := by decide +kernel
theorem dL_law_1792 : decode cL_law 1792 = .ok (.ireturn, 1) := by decide +kernel
end
section
theorem zz_last : True := trivial
end
