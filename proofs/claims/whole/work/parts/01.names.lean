-- ===== PART A: goes FIRST, ahead of the names: the tables' words, and 'selects' of the private methods out of them =====
/-- a private method of a class that the tables say can be made, by its rows of tables_1 -/
def lw_okq (q : MethodName × Nat) : Prop := (q.1.cls ≠ "java/lang/invoke/MethodHandle" ∧ q.1.cls ≠ "java/lang/invoke/VarHandle") ∧ Cond.instantiable q.1.cls q.2 ∈ tables_1 ∧ Cond.privateMethod q.1 ∈ tables_1 ∧ Cond.instanceMethod q.1 ∈ tables_1
theorem lw_p0 : lw_okq (⟨"RegionHandles$Ground", "placeFromBelow", "(III)I"⟩, 1) := ⟨⟨by decide +kernel, by decide +kernel⟩, List.mem_of_getElem? (i := 56) (by decide +kernel), List.mem_of_getElem? (i := 348) (by decide +kernel), List.mem_of_getElem? (i := 349) (by decide +kernel)⟩
theorem lw_p1 : lw_okq (⟨"RegionHandles$Ground", "placeFromAbove", "(III)I"⟩, 1) := ⟨⟨by decide +kernel, by decide +kernel⟩, List.mem_of_getElem? (i := 56) (by decide +kernel), List.mem_of_getElem? (i := 352) (by decide +kernel), List.mem_of_getElem? (i := 353) (by decide +kernel)⟩
theorem lw_p2 : lw_okq (⟨"RegionHandles$Memory", "nextToMove", "(I)I"⟩, 8) := ⟨⟨by decide +kernel, by decide +kernel⟩, List.mem_of_getElem? (i := 23) (by decide +kernel), List.mem_of_getElem? (i := 426) (by decide +kernel), List.mem_of_getElem? (i := 427) (by decide +kernel)⟩
theorem lw_p3 : lw_okq (⟨"RegionHandles$Memory", "mayMove", "(I)Z"⟩, 8) := ⟨⟨by decide +kernel, by decide +kernel⟩, List.mem_of_getElem? (i := 23) (by decide +kernel), List.mem_of_getElem? (i := 430) (by decide +kernel), List.mem_of_getElem? (i := 431) (by decide +kernel)⟩
theorem lw_p4 : lw_okq (⟨"RegionHandles$Memory", "movedLow", "(I)I"⟩, 8) := ⟨⟨by decide +kernel, by decide +kernel⟩, List.mem_of_getElem? (i := 23) (by decide +kernel), List.mem_of_getElem? (i := 434) (by decide +kernel), List.mem_of_getElem? (i := 435) (by decide +kernel)⟩
theorem lw_p5 : lw_okq (⟨"RegionHandles", "leakedCellsOf", "(I)I"⟩, 9) := ⟨⟨by decide +kernel, by decide +kernel⟩, List.mem_of_getElem? (i := 15) (by decide +kernel), List.mem_of_getElem? (i := 525) (by decide +kernel), List.mem_of_getElem? (i := 526) (by decide +kernel)⟩
theorem lw_p6 : lw_okq (⟨"RegionHandles$Walk", "begin", "()V"⟩, 3) := ⟨⟨by decide +kernel, by decide +kernel⟩, List.mem_of_getElem? (i := 183) (by decide +kernel), List.mem_of_getElem? (i := 533) (by decide +kernel), List.mem_of_getElem? (i := 534) (by decide +kernel)⟩
theorem lw_p7 : lw_okq (⟨"RegionHandles$Walk", "comeTo", "(II)V"⟩, 3) := ⟨⟨by decide +kernel, by decide +kernel⟩, List.mem_of_getElem? (i := 183) (by decide +kernel), List.mem_of_getElem? (i := 538) (by decide +kernel), List.mem_of_getElem? (i := 539) (by decide +kernel)⟩
theorem lw_p8 : lw_okq (⟨"RegionHandles$Walk", "goOn", "(LRegionHandles$Memory;)V"⟩, 3) := ⟨⟨by decide +kernel, by decide +kernel⟩, List.mem_of_getElem? (i := 183) (by decide +kernel), List.mem_of_getElem? (i := 542) (by decide +kernel), List.mem_of_getElem? (i := 543) (by decide +kernel)⟩
theorem lw_p9 : lw_okq (⟨"RegionHandles", "isLeaked", "(I)Z"⟩, 9) := ⟨⟨by decide +kernel, by decide +kernel⟩, List.mem_of_getElem? (i := 15) (by decide +kernel), List.mem_of_getElem? (i := 547) (by decide +kernel), List.mem_of_getElem? (i := 548) (by decide +kernel)⟩
theorem lw_p10 : lw_okq (⟨"RegionHandles$Memory", "isFreeable", "(I)Z"⟩, 8) := ⟨⟨by decide +kernel, by decide +kernel⟩, List.mem_of_getElem? (i := 23) (by decide +kernel), List.mem_of_getElem? (i := 571) (by decide +kernel), List.mem_of_getElem? (i := 572) (by decide +kernel)⟩
theorem lw_p11 : lw_okq (⟨"RegionHandles", "planElement", "(II)Z"⟩, 9) := ⟨⟨by decide +kernel, by decide +kernel⟩, List.mem_of_getElem? (i := 15) (by decide +kernel), List.mem_of_getElem? (i := 678) (by decide +kernel), List.mem_of_getElem? (i := 679) (by decide +kernel)⟩
theorem lw_p12 : lw_okq (⟨"RegionHandles$Tape", "readLine", "()Z"⟩, 6) := ⟨⟨by decide +kernel, by decide +kernel⟩, List.mem_of_getElem? (i := 217) (by decide +kernel), List.mem_of_getElem? (i := 713) (by decide +kernel), List.mem_of_getElem? (i := 714) (by decide +kernel)⟩
theorem lw_p13 : lw_okq (⟨"RegionHandles$Tape", "nextByte", "()I"⟩, 6) := ⟨⟨by decide +kernel, by decide +kernel⟩, List.mem_of_getElem? (i := 217) (by decide +kernel), List.mem_of_getElem? (i := 717) (by decide +kernel), List.mem_of_getElem? (i := 718) (by decide +kernel)⟩
theorem lw_p14 : lw_okq (⟨"RegionHandles$Tape", "readSign", "(I)Z"⟩, 6) := ⟨⟨by decide +kernel, by decide +kernel⟩, List.mem_of_getElem? (i := 217) (by decide +kernel), List.mem_of_getElem? (i := 724) (by decide +kernel), List.mem_of_getElem? (i := 725) (by decide +kernel)⟩
theorem lw_p15 : lw_okq (⟨"RegionHandles$Tape", "readNumber", "(I)Z"⟩, 6) := ⟨⟨by decide +kernel, by decide +kernel⟩, List.mem_of_getElem? (i := 217) (by decide +kernel), List.mem_of_getElem? (i := 728) (by decide +kernel), List.mem_of_getElem? (i := 729) (by decide +kernel)⟩
def lw_privs_1 : List (MethodName × Nat) := [(⟨"RegionHandles$Ground", "placeFromBelow", "(III)I"⟩, 1), (⟨"RegionHandles$Ground", "placeFromAbove", "(III)I"⟩, 1), (⟨"RegionHandles$Memory", "nextToMove", "(I)I"⟩, 8), (⟨"RegionHandles$Memory", "mayMove", "(I)Z"⟩, 8), (⟨"RegionHandles$Memory", "movedLow", "(I)I"⟩, 8), (⟨"RegionHandles", "leakedCellsOf", "(I)I"⟩, 9), (⟨"RegionHandles$Walk", "begin", "()V"⟩, 3), (⟨"RegionHandles$Walk", "comeTo", "(II)V"⟩, 3), (⟨"RegionHandles$Walk", "goOn", "(LRegionHandles$Memory;)V"⟩, 3), (⟨"RegionHandles", "isLeaked", "(I)Z"⟩, 9), (⟨"RegionHandles$Memory", "isFreeable", "(I)Z"⟩, 8), (⟨"RegionHandles", "planElement", "(II)Z"⟩, 9), (⟨"RegionHandles$Tape", "readLine", "()Z"⟩, 6), (⟨"RegionHandles$Tape", "nextByte", "()I"⟩, 6), (⟨"RegionHandles$Tape", "readSign", "(I)Z"⟩, 6), (⟨"RegionHandles$Tape", "readNumber", "(I)Z"⟩, 6)]
theorem lw_r1 : ∀ q ∈ lw_privs_1, lw_okq q := List.forall_mem_cons.mpr ⟨lw_p0, List.forall_mem_cons.mpr ⟨lw_p1, List.forall_mem_cons.mpr ⟨lw_p2, List.forall_mem_cons.mpr ⟨lw_p3, List.forall_mem_cons.mpr ⟨lw_p4, List.forall_mem_cons.mpr ⟨lw_p5, List.forall_mem_cons.mpr ⟨lw_p6, List.forall_mem_cons.mpr ⟨lw_p7, List.forall_mem_cons.mpr ⟨lw_p8, List.forall_mem_cons.mpr ⟨lw_p9, List.forall_mem_cons.mpr ⟨lw_p10, List.forall_mem_cons.mpr ⟨lw_p11, List.forall_mem_cons.mpr ⟨lw_p12, List.forall_mem_cons.mpr ⟨lw_p13, List.forall_mem_cons.mpr ⟨lw_p14, List.forall_mem_cons.mpr ⟨lw_p15, fun _ h => absurd h List.not_mem_nil⟩⟩⟩⟩⟩⟩⟩⟩⟩⟩⟩⟩⟩⟩⟩⟩
theorem lw_p16 : lw_okq (⟨"RegionHandles", "doLine", "(I)I"⟩, 9) := ⟨⟨by decide +kernel, by decide +kernel⟩, List.mem_of_getElem? (i := 15) (by decide +kernel), List.mem_of_getElem? (i := 732) (by decide +kernel), List.mem_of_getElem? (i := 733) (by decide +kernel)⟩
theorem lw_p17 : lw_okq (⟨"RegionHandles", "tagByLine", "(III)I"⟩, 9) := ⟨⟨by decide +kernel, by decide +kernel⟩, List.mem_of_getElem? (i := 15) (by decide +kernel), List.mem_of_getElem? (i := 744) (by decide +kernel), List.mem_of_getElem? (i := 745) (by decide +kernel)⟩
theorem lw_p18 : lw_okq (⟨"RegionHandles", "takenFor", "(II)I"⟩, 9) := ⟨⟨by decide +kernel, by decide +kernel⟩, List.mem_of_getElem? (i := 15) (by decide +kernel), List.mem_of_getElem? (i := 794) (by decide +kernel), List.mem_of_getElem? (i := 795) (by decide +kernel)⟩
theorem lw_p19 : lw_okq (⟨"RegionHandlesModel", "end", "(I)I"⟩, 19) := ⟨⟨by decide +kernel, by decide +kernel⟩, List.mem_of_getElem? (i := 810) (by decide +kernel), List.mem_of_getElem? (i := 883) (by decide +kernel), List.mem_of_getElem? (i := 884) (by decide +kernel)⟩
theorem lw_p20 : lw_okq (⟨"RegionHandlesModel", "isRegion", "(I)Z"⟩, 19) := ⟨⟨by decide +kernel, by decide +kernel⟩, List.mem_of_getElem? (i := 810) (by decide +kernel), List.mem_of_getElem? (i := 891) (by decide +kernel), List.mem_of_getElem? (i := 892) (by decide +kernel)⟩
theorem lw_p21 : lw_okq (⟨"RegionHandlesModel", "used", "(I)I"⟩, 19) := ⟨⟨by decide +kernel, by decide +kernel⟩, List.mem_of_getElem? (i := 810) (by decide +kernel), List.mem_of_getElem? (i := 895) (by decide +kernel), List.mem_of_getElem? (i := 896) (by decide +kernel)⟩
theorem lw_p22 : lw_okq (⟨"RegionHandlesModel", "at", "(II)I"⟩, 19) := ⟨⟨by decide +kernel, by decide +kernel⟩, List.mem_of_getElem? (i := 810) (by decide +kernel), List.mem_of_getElem? (i := 899) (by decide +kernel), List.mem_of_getElem? (i := 900) (by decide +kernel)⟩
theorem lw_p23 : lw_okq (⟨"RegionHandlesModel", "laid", "()V"⟩, 19) := ⟨⟨by decide +kernel, by decide +kernel⟩, List.mem_of_getElem? (i := 810) (by decide +kernel), List.mem_of_getElem? (i := 903) (by decide +kernel), List.mem_of_getElem? (i := 904) (by decide +kernel)⟩
theorem lw_p24 : lw_okq (⟨"RegionHandlesModel", "placed", "(II)I"⟩, 19) := ⟨⟨by decide +kernel, by decide +kernel⟩, List.mem_of_getElem? (i := 810) (by decide +kernel), List.mem_of_getElem? (i := 907) (by decide +kernel), List.mem_of_getElem? (i := 908) (by decide +kernel)⟩
theorem lw_p25 : lw_okq (⟨"RegionHandlesModel", "freeSlot", "()I"⟩, 19) := ⟨⟨by decide +kernel, by decide +kernel⟩, List.mem_of_getElem? (i := 810) (by decide +kernel), List.mem_of_getElem? (i := 911) (by decide +kernel), List.mem_of_getElem? (i := 912) (by decide +kernel)⟩
theorem lw_p26 : lw_okq (⟨"RegionHandlesModel", "sets", "(III)V"⟩, 19) := ⟨⟨by decide +kernel, by decide +kernel⟩, List.mem_of_getElem? (i := 810) (by decide +kernel), List.mem_of_getElem? (i := 915) (by decide +kernel), List.mem_of_getElem? (i := 916) (by decide +kernel)⟩
theorem lw_p27 : lw_okq (⟨"RegionHandlesModel", "handleOf", "(I)I"⟩, 19) := ⟨⟨by decide +kernel, by decide +kernel⟩, List.mem_of_getElem? (i := 810) (by decide +kernel), List.mem_of_getElem? (i := 919) (by decide +kernel), List.mem_of_getElem? (i := 920) (by decide +kernel)⟩
theorem lw_p28 : lw_okq (⟨"RegionHandlesModel", "good", "(I)I"⟩, 19) := ⟨⟨by decide +kernel, by decide +kernel⟩, List.mem_of_getElem? (i := 810) (by decide +kernel), List.mem_of_getElem? (i := 927) (by decide +kernel), List.mem_of_getElem? (i := 928) (by decide +kernel)⟩
theorem lw_p29 : lw_okq (⟨"RegionHandlesModel", "isLive", "(I)Z"⟩, 19) := ⟨⟨by decide +kernel, by decide +kernel⟩, List.mem_of_getElem? (i := 810) (by decide +kernel), List.mem_of_getElem? (i := 931) (by decide +kernel), List.mem_of_getElem? (i := 932) (by decide +kernel)⟩
theorem lw_p30 : lw_okq (⟨"RegionHandlesModel", "isFreeBehind", "(II)Z"⟩, 19) := ⟨⟨by decide +kernel, by decide +kernel⟩, List.mem_of_getElem? (i := 810) (by decide +kernel), List.mem_of_getElem? (i := 943) (by decide +kernel), List.mem_of_getElem? (i := 944) (by decide +kernel)⟩
theorem lw_p31 : lw_okq (⟨"RegionHandlesModel", "goes", "(II)V"⟩, 19) := ⟨⟨by decide +kernel, by decide +kernel⟩, List.mem_of_getElem? (i := 810) (by decide +kernel), List.mem_of_getElem? (i := 947) (by decide +kernel), List.mem_of_getElem? (i := 948) (by decide +kernel)⟩
def lw_privs_2 : List (MethodName × Nat) := [(⟨"RegionHandles", "doLine", "(I)I"⟩, 9), (⟨"RegionHandles", "tagByLine", "(III)I"⟩, 9), (⟨"RegionHandles", "takenFor", "(II)I"⟩, 9), (⟨"RegionHandlesModel", "end", "(I)I"⟩, 19), (⟨"RegionHandlesModel", "isRegion", "(I)Z"⟩, 19), (⟨"RegionHandlesModel", "used", "(I)I"⟩, 19), (⟨"RegionHandlesModel", "at", "(II)I"⟩, 19), (⟨"RegionHandlesModel", "laid", "()V"⟩, 19), (⟨"RegionHandlesModel", "placed", "(II)I"⟩, 19), (⟨"RegionHandlesModel", "freeSlot", "()I"⟩, 19), (⟨"RegionHandlesModel", "sets", "(III)V"⟩, 19), (⟨"RegionHandlesModel", "handleOf", "(I)I"⟩, 19), (⟨"RegionHandlesModel", "good", "(I)I"⟩, 19), (⟨"RegionHandlesModel", "isLive", "(I)Z"⟩, 19), (⟨"RegionHandlesModel", "isFreeBehind", "(II)Z"⟩, 19), (⟨"RegionHandlesModel", "goes", "(II)V"⟩, 19)]
theorem lw_r2 : ∀ q ∈ lw_privs_2, lw_okq q := List.forall_mem_cons.mpr ⟨lw_p16, List.forall_mem_cons.mpr ⟨lw_p17, List.forall_mem_cons.mpr ⟨lw_p18, List.forall_mem_cons.mpr ⟨lw_p19, List.forall_mem_cons.mpr ⟨lw_p20, List.forall_mem_cons.mpr ⟨lw_p21, List.forall_mem_cons.mpr ⟨lw_p22, List.forall_mem_cons.mpr ⟨lw_p23, List.forall_mem_cons.mpr ⟨lw_p24, List.forall_mem_cons.mpr ⟨lw_p25, List.forall_mem_cons.mpr ⟨lw_p26, List.forall_mem_cons.mpr ⟨lw_p27, List.forall_mem_cons.mpr ⟨lw_p28, List.forall_mem_cons.mpr ⟨lw_p29, List.forall_mem_cons.mpr ⟨lw_p30, List.forall_mem_cons.mpr ⟨lw_p31, fun _ h => absurd h List.not_mem_nil⟩⟩⟩⟩⟩⟩⟩⟩⟩⟩⟩⟩⟩⟩⟩⟩
theorem lw_p32 : lw_okq (⟨"RegionHandlesModel", "moved", "(II)I"⟩, 19) := ⟨⟨by decide +kernel, by decide +kernel⟩, List.mem_of_getElem? (i := 810) (by decide +kernel), List.mem_of_getElem? (i := 955) (by decide +kernel), List.mem_of_getElem? (i := 956) (by decide +kernel)⟩
theorem lw_p33 : lw_okq (⟨"RegionHandlesModel", "nextBlock", "(IIZ)I"⟩, 19) := ⟨⟨by decide +kernel, by decide +kernel⟩, List.mem_of_getElem? (i := 810) (by decide +kernel), List.mem_of_getElem? (i := 959) (by decide +kernel), List.mem_of_getElem? (i := 960) (by decide +kernel)⟩
theorem lw_p34 : lw_okq (⟨"RegionHandlesModel", "cellOf", "(II)I"⟩, 19) := ⟨⟨by decide +kernel, by decide +kernel⟩, List.mem_of_getElem? (i := 810) (by decide +kernel), List.mem_of_getElem? (i := 972) (by decide +kernel), List.mem_of_getElem? (i := 973) (by decide +kernel)⟩
theorem lw_p35 : lw_okq (⟨"RegionHandlesModel", "taggedBy", "(I)I"⟩, 19) := ⟨⟨by decide +kernel, by decide +kernel⟩, List.mem_of_getElem? (i := 810) (by decide +kernel), List.mem_of_getElem? (i := 996) (by decide +kernel), List.mem_of_getElem? (i := 997) (by decide +kernel)⟩
theorem lw_p36 : lw_okq (⟨"RegionHandlesModel", "tagsMany", "()I"⟩, 19) := ⟨⟨by decide +kernel, by decide +kernel⟩, List.mem_of_getElem? (i := 810) (by decide +kernel), List.mem_of_getElem? (i := 1000) (by decide +kernel), List.mem_of_getElem? (i := 1001) (by decide +kernel)⟩
theorem lw_p37 : lw_okq (⟨"RegionHandlesModel", "leakedOnes", "()I"⟩, 19) := ⟨⟨by decide +kernel, by decide +kernel⟩, List.mem_of_getElem? (i := 810) (by decide +kernel), List.mem_of_getElem? (i := 1020) (by decide +kernel), List.mem_of_getElem? (i := 1021) (by decide +kernel)⟩
theorem lw_p38 : lw_okq (⟨"RegionHandlesModel", "holds", "(II)Z"⟩, 19) := ⟨⟨by decide +kernel, by decide +kernel⟩, List.mem_of_getElem? (i := 810) (by decide +kernel), List.mem_of_getElem? (i := 1024) (by decide +kernel), List.mem_of_getElem? (i := 1025) (by decide +kernel)⟩
theorem lw_p39 : lw_okq (⟨"RegionHandlesModel", "liveMany", "(I)I"⟩, 19) := ⟨⟨by decide +kernel, by decide +kernel⟩, List.mem_of_getElem? (i := 810) (by decide +kernel), List.mem_of_getElem? (i := 1028) (by decide +kernel), List.mem_of_getElem? (i := 1029) (by decide +kernel)⟩
theorem lw_p40 : lw_okq (⟨"RegionHandlesModel", "freeable", "()I"⟩, 19) := ⟨⟨by decide +kernel, by decide +kernel⟩, List.mem_of_getElem? (i := 810) (by decide +kernel), List.mem_of_getElem? (i := 1044) (by decide +kernel), List.mem_of_getElem? (i := 1045) (by decide +kernel)⟩
theorem lw_p41 : lw_okq (⟨"RegionHandlesModel", "isSeen", "(I)Z"⟩, 19) := ⟨⟨by decide +kernel, by decide +kernel⟩, List.mem_of_getElem? (i := 810) (by decide +kernel), List.mem_of_getElem? (i := 1048) (by decide +kernel), List.mem_of_getElem? (i := 1049) (by decide +kernel)⟩
theorem lw_p42 : lw_okq (⟨"RegionHandlesModel", "freeIn", "(II)I"⟩, 19) := ⟨⟨by decide +kernel, by decide +kernel⟩, List.mem_of_getElem? (i := 810) (by decide +kernel), List.mem_of_getElem? (i := 1056) (by decide +kernel), List.mem_of_getElem? (i := 1057) (by decide +kernel)⟩
theorem lw_p43 : lw_okq (⟨"RegionHandlesModel", "isHolder", "(I)Z"⟩, 19) := ⟨⟨by decide +kernel, by decide +kernel⟩, List.mem_of_getElem? (i := 810) (by decide +kernel), List.mem_of_getElem? (i := 1083) (by decide +kernel), List.mem_of_getElem? (i := 1084) (by decide +kernel)⟩
theorem lw_p44 : lw_okq (⟨"RegionHandlesModel", "fills", "(III)V"⟩, 19) := ⟨⟨by decide +kernel, by decide +kernel⟩, List.mem_of_getElem? (i := 810) (by decide +kernel), List.mem_of_getElem? (i := 1087) (by decide +kernel), List.mem_of_getElem? (i := 1088) (by decide +kernel)⟩
theorem lw_p45 : lw_okq (⟨"RegionHandlesModel", "isForm", "()Z"⟩, 19) := ⟨⟨by decide +kernel, by decide +kernel⟩, List.mem_of_getElem? (i := 810) (by decide +kernel), List.mem_of_getElem? (i := 1103) (by decide +kernel), List.mem_of_getElem? (i := 1104) (by decide +kernel)⟩
theorem lw_p46 : lw_okq (⟨"RegionHandlesModel", "line", "()I"⟩, 19) := ⟨⟨by decide +kernel, by decide +kernel⟩, List.mem_of_getElem? (i := 810) (by decide +kernel), List.mem_of_getElem? (i := 1107) (by decide +kernel), List.mem_of_getElem? (i := 1108) (by decide +kernel)⟩
theorem lw_p47 : lw_okq (⟨"RegionHandlesModel", "number", "()I"⟩, 19) := ⟨⟨by decide +kernel, by decide +kernel⟩, List.mem_of_getElem? (i := 810) (by decide +kernel), List.mem_of_getElem? (i := 1114) (by decide +kernel), List.mem_of_getElem? (i := 1115) (by decide +kernel)⟩
def lw_privs_3 : List (MethodName × Nat) := [(⟨"RegionHandlesModel", "moved", "(II)I"⟩, 19), (⟨"RegionHandlesModel", "nextBlock", "(IIZ)I"⟩, 19), (⟨"RegionHandlesModel", "cellOf", "(II)I"⟩, 19), (⟨"RegionHandlesModel", "taggedBy", "(I)I"⟩, 19), (⟨"RegionHandlesModel", "tagsMany", "()I"⟩, 19), (⟨"RegionHandlesModel", "leakedOnes", "()I"⟩, 19), (⟨"RegionHandlesModel", "holds", "(II)Z"⟩, 19), (⟨"RegionHandlesModel", "liveMany", "(I)I"⟩, 19), (⟨"RegionHandlesModel", "freeable", "()I"⟩, 19), (⟨"RegionHandlesModel", "isSeen", "(I)Z"⟩, 19), (⟨"RegionHandlesModel", "freeIn", "(II)I"⟩, 19), (⟨"RegionHandlesModel", "isHolder", "(I)Z"⟩, 19), (⟨"RegionHandlesModel", "fills", "(III)V"⟩, 19), (⟨"RegionHandlesModel", "isForm", "()Z"⟩, 19), (⟨"RegionHandlesModel", "line", "()I"⟩, 19), (⟨"RegionHandlesModel", "number", "()I"⟩, 19)]
theorem lw_r3 : ∀ q ∈ lw_privs_3, lw_okq q := List.forall_mem_cons.mpr ⟨lw_p32, List.forall_mem_cons.mpr ⟨lw_p33, List.forall_mem_cons.mpr ⟨lw_p34, List.forall_mem_cons.mpr ⟨lw_p35, List.forall_mem_cons.mpr ⟨lw_p36, List.forall_mem_cons.mpr ⟨lw_p37, List.forall_mem_cons.mpr ⟨lw_p38, List.forall_mem_cons.mpr ⟨lw_p39, List.forall_mem_cons.mpr ⟨lw_p40, List.forall_mem_cons.mpr ⟨lw_p41, List.forall_mem_cons.mpr ⟨lw_p42, List.forall_mem_cons.mpr ⟨lw_p43, List.forall_mem_cons.mpr ⟨lw_p44, List.forall_mem_cons.mpr ⟨lw_p45, List.forall_mem_cons.mpr ⟨lw_p46, List.forall_mem_cons.mpr ⟨lw_p47, fun _ h => absurd h List.not_mem_nil⟩⟩⟩⟩⟩⟩⟩⟩⟩⟩⟩⟩⟩⟩⟩⟩
theorem lw_p48 : lw_okq (⟨"RegionHandlesModel", "must", "(II)I"⟩, 19) := ⟨⟨by decide +kernel, by decide +kernel⟩, List.mem_of_getElem? (i := 810) (by decide +kernel), List.mem_of_getElem? (i := 1118) (by decide +kernel), List.mem_of_getElem? (i := 1119) (by decide +kernel)⟩
theorem lw_p49 : lw_okq (⟨"RegionHandlesModel", "sees", "(II)Z"⟩, 19) := ⟨⟨by decide +kernel, by decide +kernel⟩, List.mem_of_getElem? (i := 810) (by decide +kernel), List.mem_of_getElem? (i := 1122) (by decide +kernel), List.mem_of_getElem? (i := 1123) (by decide +kernel)⟩
theorem lw_p50 : lw_okq (⟨"RegionHandlesModel", "does", "(I)I"⟩, 19) := ⟨⟨by decide +kernel, by decide +kernel⟩, List.mem_of_getElem? (i := 810) (by decide +kernel), List.mem_of_getElem? (i := 1126) (by decide +kernel), List.mem_of_getElem? (i := 1127) (by decide +kernel)⟩
theorem lw_p51 : lw_okq (⟨"RegionHandlesModel", "goodOf", "(I)I"⟩, 19) := ⟨⟨by decide +kernel, by decide +kernel⟩, List.mem_of_getElem? (i := 810) (by decide +kernel), List.mem_of_getElem? (i := 1132) (by decide +kernel), List.mem_of_getElem? (i := 1133) (by decide +kernel)⟩
def lw_privs_4 : List (MethodName × Nat) := [(⟨"RegionHandlesModel", "must", "(II)I"⟩, 19), (⟨"RegionHandlesModel", "sees", "(II)Z"⟩, 19), (⟨"RegionHandlesModel", "does", "(I)I"⟩, 19), (⟨"RegionHandlesModel", "goodOf", "(I)I"⟩, 19)]
theorem lw_r4 : ∀ q ∈ lw_privs_4, lw_okq q := List.forall_mem_cons.mpr ⟨lw_p48, List.forall_mem_cons.mpr ⟨lw_p49, List.forall_mem_cons.mpr ⟨lw_p50, List.forall_mem_cons.mpr ⟨lw_p51, fun _ h => absurd h List.not_mem_nil⟩⟩⟩⟩
def lw_privs : List (MethodName × Nat) := lw_privs_1 ++ (lw_privs_2 ++ (lw_privs_3 ++ (lw_privs_4)))
def lw_tbl : List Cond := k2_sels lw_privs ++ tables_1
theorem lw_privs_ok : ∀ q ∈ lw_privs, lw_okq q := by
  show ∀ q ∈ lw_privs_1 ++ (lw_privs_2 ++ (lw_privs_3 ++ (lw_privs_4))), lw_okq q
  exact List.forall_mem_append.mpr ⟨lw_r1, List.forall_mem_append.mpr ⟨lw_r2, List.forall_mem_append.mpr ⟨lw_r3, lw_r4⟩⟩⟩
-- ===== end of PART A; then your names; then what follows =====
/-! ===== BEGIN words of one list among another's, by their places ===== -/
theorem goodIn_r {big : List Cond} (ws : List Cond) (ps : List Nat) (hp : ws = ps.filterMap (fun i => big[i]?)) (h : ws.all goodWord = true) : GoodIn big ws := by
  intro w hw
  have h1 := List.all_eq_true.mp h w hw
  rw [hp] at hw
  obtain ⟨i, -, hi⟩ := List.mem_filterMap.mp hw
  have hm : w ∈ big := by first | exact List.mem_of_getElem? hi | exact List.getElem?_mem hi
  exact ⟨hm, good_of_word h1⟩
theorem goodIn_app {big a b : List Cond} (ha : GoodIn big a) (hb : GoodIn big b) : GoodIn big (a ++ b) := fun w h => (List.mem_append.mp h).elim (ha w) (hb w)
theorem goodIn_ca {big a b : List Cond} {c : Cond} (ha : GoodIn big (c :: a)) (hb : GoodIn big b) : GoodIn big (c :: (a ++ b)) := fun w h => (List.mem_cons.mp h).elim (fun e => ha w (List.mem_cons.mpr (Or.inl e))) (fun h => (List.mem_append.mp h).elim (fun h => ha w (List.mem_cons.mpr (Or.inr h))) (hb w))
theorem goodIn_sub {big ws : List Cond} (hm : ∀ w ∈ ws, w ∈ big) (h : ws.all goodWord = true) : GoodIn big ws := fun w hw => ⟨hm w hw, good_of_word (List.all_eq_true.mp h w hw)⟩
/-! ===== END ===== -/
/-! ===== BEGIN printed: names, fields, word lists, decode rows ===== -/
def RX0 : String := "RegionHandles$Blocks"
def TX0 : u_T := fun k => match k with
  | 0 => ("RegionHandles$Blocks", "generation", "[I", true)
  | 1 => ("RegionHandles$Blocks", "life", "[I", true)
  | 2 => ("RegionHandles$Blocks", "low", "[I", true)
  | 3 => ("RegionHandles$Blocks", "size", "[I", true)
  | 4 => ("RegionHandles$Blocks", "region", "[I", true)
  | 5 => ("RegionHandles$Blocks", "owner", "[I", true)
  | 6 => ("RegionHandles$Blocks", "pins", "[I", true)
  | 7 => ("RegionHandles$Blocks", "tag", "[I", true)
  | _ => ("RegionHandles$Blocks", "doomedBy", "[I", true)
def tyX0 : Nat → FieldType := fun k => match k with
  | 0 => .array .int
  | 1 => .array .int
  | 2 => .array .int
  | 3 => .array .int
  | 4 => .array .int
  | 5 => .array .int
  | 6 => .array .int
  | 7 => .array .int
  | _ => .array .int
abbrev wsX00 : List Cond := u_ws RX0 TX0 9
theorem nmX0 : ∀ a, a < 9 → ∀ b, b < 9 → a ≠ b → (TX0 a).2.1 ≠ (TX0 b).2.1 := by decide +kernel
theorem tyX0_ok : ∀ k, k < 9 → parseFieldDescriptor (TX0 k).2.2.1 = some (tyX0 k) := by decide +kernel
abbrev cX0_init : ByteArray := prog_2_method_1_code
def yX0_init : MethodName := ⟨RX0, "<init>", "()V"⟩
abbrev cX0_leastUnusedSlot : ByteArray := prog_2_method_2_code
def yX0_leastUnusedSlot : MethodName := ⟨RX0, "leastUnusedSlot", "()I"⟩
abbrev cX0_handleOf : ByteArray := prog_2_method_3_code
def yX0_handleOf : MethodName := ⟨RX0, "handleOf", "(I)I"⟩
abbrev cX0_liveHandleOf : ByteArray := prog_2_method_4_code
def yX0_liveHandleOf : MethodName := ⟨RX0, "liveHandleOf", "(I)I"⟩
abbrev cX0_slotOf : ByteArray := prog_2_method_5_code
def yX0_slotOf : MethodName := ⟨RX0, "slotOf", "(I)I"⟩
abbrev cX0_liveSlotOf : ByteArray := prog_2_method_6_code
def yX0_liveSlotOf : MethodName := ⟨RX0, "liveSlotOf", "(I)I"⟩
abbrev cX0_manyOf : ByteArray := prog_2_method_7_code
def yX0_manyOf : MethodName := ⟨RX0, "manyOf", "(I)I"⟩
abbrev cX0_liveOf : ByteArray := prog_2_method_8_code
def yX0_liveOf : MethodName := ⟨RX0, "liveOf", "(I)I"⟩
abbrev cX0_usedBy : ByteArray := prog_2_method_9_code
def yX0_usedBy : MethodName := ⟨RX0, "usedBy", "(I)I"⟩
abbrev cX0_cellsInAll : ByteArray := prog_2_method_10_code
def yX0_cellsInAll : MethodName := ⟨RX0, "cellsInAll", "()I"⟩
abbrev cX0_copyFrom : ByteArray := prog_2_method_11_code
def yX0_copyFrom : MethodName := ⟨RX0, "copyFrom", "(LRegionHandles$Blocks;)V"⟩
def RX1 : String := "RegionHandles$Ground"
def TX1 : u_T := fun k => match k with
  | _ => ("RegionHandles$Ground", "slotAt", "[I", true)
def tyX1 : Nat → FieldType := fun k => match k with
  | _ => .array .int
abbrev wsX10 : List Cond := u_ws RX1 TX1 1
theorem nmX1 : ∀ a, a < 1 → ∀ b, b < 1 → a ≠ b → (TX1 a).2.1 ≠ (TX1 b).2.1 := by decide +kernel
theorem tyX1_ok : ∀ k, k < 1 → parseFieldDescriptor (TX1 k).2.2.1 = some (tyX1 k) := by decide +kernel
abbrev cX1_init : ByteArray := prog_3_method_1_code
def yX1_init : MethodName := ⟨RX1, "<init>", "()V"⟩
abbrev cX1_take : ByteArray := prog_3_method_2_code
def yX1_take : MethodName := ⟨RX1, "take", "(III)V"⟩
abbrev cX1_release : ByteArray := prog_3_method_3_code
def yX1_release : MethodName := ⟨RX1, "release", "(II)V"⟩
abbrev cX1_isFree : ByteArray := prog_3_method_4_code
def yX1_isFree : MethodName := ⟨RX1, "isFree", "(II)Z"⟩
abbrev cX1_placeIn : ByteArray := prog_3_method_5_code
def yX1_placeIn : MethodName := ⟨RX1, "placeIn", "(LRegionHandles$Regions;II)I"⟩
abbrev cX1_placeFromBelow : ByteArray := prog_3_method_6_code
def yX1_placeFromBelow : MethodName := ⟨RX1, "placeFromBelow", "(III)I"⟩
abbrev cX1_placeFromAbove : ByteArray := prog_3_method_7_code
def yX1_placeFromAbove : MethodName := ⟨RX1, "placeFromAbove", "(III)I"⟩
abbrev cX1_freeCells : ByteArray := prog_3_method_8_code
def yX1_freeCells : MethodName := ⟨RX1, "freeCells", "(II)I"⟩
abbrev cX1_longestFreeRow : ByteArray := prog_3_method_9_code
def yX1_longestFreeRow : MethodName := ⟨RX1, "longestFreeRow", "(II)I"⟩
abbrev cX1_freeRows : ByteArray := prog_3_method_10_code
def yX1_freeRows : MethodName := ⟨RX1, "freeRows", "(II)I"⟩
abbrev cX1_copyFrom : ByteArray := prog_3_method_11_code
def yX1_copyFrom : MethodName := ⟨RX1, "copyFrom", "(LRegionHandles$Ground;)V"⟩
def RX2 : String := "RegionHandles$Holders"
def TX2 : u_T := fun k => match k with
  | 0 => ("RegionHandles$Holders", "sort", "[I", true)
  | 1 => ("RegionHandles$Holders", "handle", "[I", true)
  | 2 => ("RegionHandles$Holders", "size", "[I", true)
  | _ => ("RegionHandles$Holders", "items", "[I", true)
def tyX2 : Nat → FieldType := fun k => match k with
  | 0 => .array .int
  | 1 => .array .int
  | 2 => .array .int
  | _ => .array .int
abbrev wsX20 : List Cond := u_ws RX2 TX2 4
theorem nmX2 : ∀ a, a < 4 → ∀ b, b < 4 → a ≠ b → (TX2 a).2.1 ≠ (TX2 b).2.1 := by decide +kernel
theorem tyX2_ok : ∀ k, k < 4 → parseFieldDescriptor (TX2 k).2.2.1 = some (tyX2 k) := by decide +kernel
abbrev cX2_init : ByteArray := prog_4_method_1_code
def yX2_init : MethodName := ⟨RX2, "<init>", "()V"⟩
abbrev cX2_faultAsRow : ByteArray := prog_4_method_2_code
def yX2_faultAsRow : MethodName := ⟨RX2, "faultAsRow", "(I)I"⟩
abbrev cX2_takeRow : ByteArray := prog_4_method_3_code
def yX2_takeRow : MethodName := ⟨RX2, "takeRow", "(II)V"⟩
abbrev cX2_hasItem : ByteArray := prog_4_method_4_code
def yX2_hasItem : MethodName := ⟨RX2, "hasItem", "(II)Z"⟩
abbrev cX2_item : ByteArray := prog_4_method_5_code
def yX2_item : MethodName := ⟨RX2, "item", "(II)I"⟩
abbrev cX2_setItem : ByteArray := prog_4_method_6_code
def yX2_setItem : MethodName := ⟨RX2, "setItem", "(III)V"⟩
abbrev cX2_manyHolding : ByteArray := prog_4_method_7_code
def yX2_manyHolding : MethodName := ⟨RX2, "manyHolding", "()I"⟩
def RX3 : String := "RegionHandles$Memory"
def TX3 : u_T := fun k => match k with
  | 0 => ("RegionHandles$Memory", "epoch", "I", false)
  | 1 => ("RegionHandles$Memory", "cells", "[I", true)
  | 2 => ("RegionHandles$Memory", "regions", "LRegionHandles$Regions;", true)
  | 3 => ("RegionHandles$Memory", "ground", "LRegionHandles$Ground;", true)
  | 4 => ("RegionHandles$Memory", "blocks", "LRegionHandles$Blocks;", true)
  | 5 => ("RegionHandles$Memory", "tagOrder", "LRegionHandles$TagOrder;", true)
  | 6 => ("RegionHandles$Memory", "quotas", "[I", true)
  | _ => ("RegionHandles$Memory", "inSince", "[I", true)
def tyX3 : Nat → FieldType := fun k => match k with
  | 0 => .int
  | 1 => .array .int
  | 2 => .object "RegionHandles$Regions"
  | 3 => .object "RegionHandles$Ground"
  | 4 => .object "RegionHandles$Blocks"
  | 5 => .object "RegionHandles$TagOrder"
  | 6 => .array .int
  | _ => .array .int
abbrev wsX30 : List Cond := u_ws RX3 TX3 8
theorem nmX3 : ∀ a, a < 8 → ∀ b, b < 8 → a ≠ b → (TX3 a).2.1 ≠ (TX3 b).2.1 := by decide +kernel
theorem tyX3_ok : ∀ k, k < 8 → parseFieldDescriptor (TX3 k).2.2.1 = some (tyX3 k) := by decide +kernel
abbrev cX3_init : ByteArray := prog_5_method_1_code
def yX3_init : MethodName := ⟨RX3, "<init>", "()V"⟩
abbrev cX3_copyFrom : ByteArray := prog_5_method_2_code
def yX3_copyFrom : MethodName := ⟨RX3, "copyFrom", "(LRegionHandles$Memory;)V"⟩
abbrev cX3_quotaAllows : ByteArray := prog_5_method_3_code
def yX3_quotaAllows : MethodName := ⟨RX3, "quotaAllows", "(II)Z"⟩
abbrev cX3_placeFor : ByteArray := prog_5_method_4_code
def yX3_placeFor : MethodName := ⟨RX3, "placeFor", "(II)I"⟩
abbrev cX3_cellAt : ByteArray := prog_5_method_5_code
def yX3_cellAt : MethodName := ⟨RX3, "cellAt", "(II)I"⟩
abbrev cX3_makeBlock : ByteArray := prog_5_method_6_code
def yX3_makeBlock : MethodName := ⟨RX3, "makeBlock", "(IIIII)V"⟩
abbrev cX3_doom : ByteArray := prog_5_method_7_code
def yX3_doom : MethodName := ⟨RX3, "doom", "(I)V"⟩
abbrev cX3_growInPlace : ByteArray := prog_5_method_8_code
def yX3_growInPlace : MethodName := ⟨RX3, "growInPlace", "(II)Z"⟩
abbrev cX3_growElsewhere : ByteArray := prog_5_method_9_code
def yX3_growElsewhere : MethodName := ⟨RX3, "growElsewhere", "(II)Z"⟩
abbrev cX3_layAt : ByteArray := prog_5_method_10_code
def yX3_layAt : MethodName := ⟨RX3, "layAt", "(II)V"⟩
abbrev cX3_moveWithin : ByteArray := prog_5_method_11_code
def yX3_moveWithin : MethodName := ⟨RX3, "moveWithin", "(II)I"⟩
abbrev cX3_leastBudget : ByteArray := prog_5_method_12_code
def yX3_leastBudget : MethodName := ⟨RX3, "leastBudget", "(II)I"⟩
abbrev cX3_nextToMove : ByteArray := prog_5_method_13_code
def yX3_nextToMove : MethodName := ⟨RX3, "nextToMove", "(I)I"⟩
abbrev cX3_mayMove : ByteArray := prog_5_method_14_code
def yX3_mayMove : MethodName := ⟨RX3, "mayMove", "(I)Z"⟩
abbrev cX3_movedLow : ByteArray := prog_5_method_15_code
def yX3_movedLow : MethodName := ⟨RX3, "movedLow", "(I)I"⟩
abbrev cX3_tagBearer : ByteArray := prog_5_method_16_code
def yX3_tagBearer : MethodName := ⟨RX3, "tagBearer", "(I)I"⟩
abbrev cX3_giveTag : ByteArray := prog_5_method_17_code
def yX3_giveTag : MethodName := ⟨RX3, "giveTag", "(II)V"⟩
abbrev cX3_seenSince : ByteArray := prog_5_method_18_code
def yX3_seenSince : MethodName := ⟨RX3, "seenSince", "(II)Z"⟩
abbrev cX3_isFreeable : ByteArray := prog_5_method_19_code
def yX3_isFreeable : MethodName := ⟨RX3, "isFreeable", "(I)Z"⟩
abbrev cX3_freeable : ByteArray := prog_5_method_20_code
def yX3_freeable : MethodName := ⟨RX3, "freeable", "()I"⟩
abbrev cX3_dropFreeable : ByteArray := prog_5_method_21_code
def yX3_dropFreeable : MethodName := ⟨RX3, "dropFreeable", "()I"⟩
abbrev cX3_earliestReader : ByteArray := prog_5_method_22_code
def yX3_earliestReader : MethodName := ⟨RX3, "earliestReader", "()I"⟩
abbrev cX3_readersIn : ByteArray := prog_5_method_23_code
def yX3_readersIn : MethodName := ⟨RX3, "readersIn", "()I"⟩
def RX4 : String := "RegionHandles$Planned"
def TX4 : u_T := fun k => match k with
  | 0 => ("RegionHandles$Planned", "many", "I", false)
  | 1 => ("RegionHandles$Planned", "low", "[I", true)
  | _ => ("RegionHandles$Planned", "size", "[I", true)
def tyX4 : Nat → FieldType := fun k => match k with
  | 0 => .int
  | 1 => .array .int
  | _ => .array .int
abbrev wsX40 : List Cond := u_ws RX4 TX4 3
theorem nmX4 : ∀ a, a < 3 → ∀ b, b < 3 → a ≠ b → (TX4 a).2.1 ≠ (TX4 b).2.1 := by decide +kernel
theorem tyX4_ok : ∀ k, k < 3 → parseFieldDescriptor (TX4 k).2.2.1 = some (tyX4 k) := by decide +kernel
abbrev cX4_init : ByteArray := prog_6_method_1_code
def yX4_init : MethodName := ⟨RX4, "<init>", "()V"⟩
abbrev cX4_putOn : ByteArray := prog_6_method_2_code
def yX4_putOn : MethodName := ⟨RX4, "putOn", "(LRegionHandles$Ground;II)Z"⟩
abbrev cX4_dropFrom : ByteArray := prog_6_method_3_code
def yX4_dropFrom : MethodName := ⟨RX4, "dropFrom", "(LRegionHandles$Ground;I)Z"⟩
def RX5 : String := "RegionHandles$Regions"
def TX5 : u_T := fun k => match k with
  | 0 => ("RegionHandles$Regions", "many", "I", false)
  | 1 => ("RegionHandles$Regions", "low", "[I", true)
  | 2 => ("RegionHandles$Regions", "size", "[I", true)
  | _ => ("RegionHandles$Regions", "way", "[I", true)
def tyX5 : Nat → FieldType := fun k => match k with
  | 0 => .int
  | 1 => .array .int
  | 2 => .array .int
  | _ => .array .int
abbrev wsX50 : List Cond := u_ws RX5 TX5 4
theorem nmX5 : ∀ a, a < 4 → ∀ b, b < 4 → a ≠ b → (TX5 a).2.1 ≠ (TX5 b).2.1 := by decide +kernel
theorem tyX5_ok : ∀ k, k < 4 → parseFieldDescriptor (TX5 k).2.2.1 = some (tyX5 k) := by decide +kernel
abbrev cX5_init : ByteArray := prog_7_method_1_code
def yX5_init : MethodName := ⟨RX5, "<init>", "()V"⟩
abbrev cX5_has : ByteArray := prog_7_method_2_code
def yX5_has : MethodName := ⟨RX5, "has", "(I)Z"⟩
abbrev cX5_highOf : ByteArray := prog_7_method_3_code
def yX5_highOf : MethodName := ⟨RX5, "highOf", "(I)I"⟩
abbrev cX5_end : ByteArray := prog_7_method_4_code
def yX5_end : MethodName := ⟨RX5, "end", "()I"⟩
abbrev cX5_addNext : ByteArray := prog_7_method_5_code
def yX5_addNext : MethodName := ⟨RX5, "addNext", "(II)I"⟩
abbrev cX5_copyFrom : ByteArray := prog_7_method_6_code
def yX5_copyFrom : MethodName := ⟨RX5, "copyFrom", "(LRegionHandles$Regions;)V"⟩
def RX6 : String := "RegionHandles$TagOrder"
def TX6 : u_T := fun k => match k with
  | 0 => ("RegionHandles$TagOrder", "many", "I", false)
  | _ => ("RegionHandles$TagOrder", "slots", "[I", true)
def tyX6 : Nat → FieldType := fun k => match k with
  | 0 => .int
  | _ => .array .int
abbrev wsX60 : List Cond := u_ws RX6 TX6 2
theorem nmX6 : ∀ a, a < 2 → ∀ b, b < 2 → a ≠ b → (TX6 a).2.1 ≠ (TX6 b).2.1 := by decide +kernel
theorem tyX6_ok : ∀ k, k < 2 → parseFieldDescriptor (TX6 k).2.2.1 = some (tyX6 k) := by decide +kernel
abbrev cX6_init : ByteArray := prog_8_method_1_code
def yX6_init : MethodName := ⟨RX6, "<init>", "()V"⟩
abbrev cX6_slotAt : ByteArray := prog_8_method_2_code
def yX6_slotAt : MethodName := ⟨RX6, "slotAt", "(I)I"⟩
abbrev cX6_addLast : ByteArray := prog_8_method_3_code
def yX6_addLast : MethodName := ⟨RX6, "addLast", "(I)V"⟩
abbrev cX6_drop : ByteArray := prog_8_method_4_code
def yX6_drop : MethodName := ⟨RX6, "drop", "(I)V"⟩
abbrev cX6_copyFrom : ByteArray := prog_8_method_5_code
def yX6_copyFrom : MethodName := ⟨RX6, "copyFrom", "(LRegionHandles$TagOrder;)V"⟩
def RX7 : String := "RegionHandles$Tape"
def TX7 : u_T := fun k => match k with
  | 0 => ("RegionHandles$Tape", "many", "I", false)
  | 1 => ("RegionHandles$Tape", "bytes", "[I", true)
  | 2 => ("RegionHandles$Tape", "at", "I", false)
  | 3 => ("RegionHandles$Tape", "lines", "I", false)
  | 4 => ("RegionHandles$Tape", "letter", "[I", true)
  | _ => ("RegionHandles$Tape", "numbers", "[I", true)
def tyX7 : Nat → FieldType := fun k => match k with
  | 0 => .int
  | 1 => .array .int
  | 2 => .int
  | 3 => .int
  | 4 => .array .int
  | _ => .array .int
abbrev wsX70 : List Cond := u_ws RX7 TX7 6
theorem nmX7 : ∀ a, a < 6 → ∀ b, b < 6 → a ≠ b → (TX7 a).2.1 ≠ (TX7 b).2.1 := by decide +kernel
theorem tyX7_ok : ∀ k, k < 6 → parseFieldDescriptor (TX7 k).2.2.1 = some (tyX7 k) := by decide +kernel
abbrev cX7_init : ByteArray := prog_9_method_1_code
def yX7_init : MethodName := ⟨RX7, "<init>", "()V"⟩
abbrev cX7_append : ByteArray := prog_9_method_2_code
def yX7_append : MethodName := ⟨RX7, "append", "(I)Z"⟩
abbrev cX7_number : ByteArray := prog_9_method_3_code
def yX7_number : MethodName := ⟨RX7, "number", "(II)I"⟩
abbrev cX7_hasForm : ByteArray := prog_9_method_4_code
def yX7_hasForm : MethodName := ⟨RX7, "hasForm", "()Z"⟩
abbrev cX7_readLine : ByteArray := prog_9_method_5_code
def yX7_readLine : MethodName := ⟨RX7, "readLine", "()Z"⟩
abbrev cX7_readSign : ByteArray := prog_9_method_6_code
def yX7_readSign : MethodName := ⟨RX7, "readSign", "(I)Z"⟩
abbrev cX7_readNumber : ByteArray := prog_9_method_7_code
def yX7_readNumber : MethodName := ⟨RX7, "readNumber", "(I)Z"⟩
abbrev cX7_nextByte : ByteArray := prog_9_method_8_code
def yX7_nextByte : MethodName := ⟨RX7, "nextByte", "()I"⟩
abbrev cX7_numbersBehind : ByteArray := prog_9_method_9_code
def yX7_numbersBehind : MethodName := ⟨RX7, "numbersBehind", "(I)I"⟩
def RX8 : String := "RegionHandles$Walk"
def TX8 : u_T := fun k => match k with
  | 0 => ("RegionHandles$Walk", "steps", "[I", true)
  | 1 => ("RegionHandles$Walk", "order", "[I", true)
  | _ => ("RegionHandles$Walk", "come", "I", false)
def tyX8 : Nat → FieldType := fun k => match k with
  | 0 => .array .int
  | 1 => .array .int
  | _ => .int
abbrev wsX80 : List Cond := u_ws RX8 TX8 3
theorem nmX8 : ∀ a, a < 3 → ∀ b, b < 3 → a ≠ b → (TX8 a).2.1 ≠ (TX8 b).2.1 := by decide +kernel
theorem tyX8_ok : ∀ k, k < 3 → parseFieldDescriptor (TX8 k).2.2.1 = some (tyX8 k) := by decide +kernel
abbrev cX8_init : ByteArray := prog_10_method_1_code
def yX8_init : MethodName := ⟨RX8, "<init>", "()V"⟩
abbrev cX8_fromTagsAndPins : ByteArray := prog_10_method_2_code
def yX8_fromTagsAndPins : MethodName := ⟨RX8, "fromTagsAndPins", "(LRegionHandles$Memory;)V"⟩
abbrev cX8_from : ByteArray := prog_10_method_3_code
def yX8_from : MethodName := ⟨RX8, "from", "(LRegionHandles$Memory;I)V"⟩
abbrev cX8_begin : ByteArray := prog_10_method_4_code
def yX8_begin : MethodName := ⟨RX8, "begin", "()V"⟩
abbrev cX8_comeTo : ByteArray := prog_10_method_5_code
def yX8_comeTo : MethodName := ⟨RX8, "comeTo", "(II)V"⟩
abbrev cX8_goOn : ByteArray := prog_10_method_6_code
def yX8_goOn : MethodName := ⟨RX8, "goOn", "(LRegionHandles$Memory;)V"⟩
def RX9 : String := "RegionHandles"
def TX9 : u_T := fun k => match k with
  | 0 => ("RegionHandles", "now", "LRegionHandles$Memory;", true)
  | 1 => ("RegionHandles", "kept", "LRegionHandles$Memory;", true)
  | 2 => ("RegionHandles", "before", "LRegionHandles$Memory;", true)
  | 3 => ("RegionHandles", "thought", "LRegionHandles$Memory;", true)
  | 4 => ("RegionHandles", "walk", "LRegionHandles$Walk;", true)
  | 5 => ("RegionHandles", "planned", "LRegionHandles$Planned;", true)
  | 6 => ("RegionHandles", "tape", "LRegionHandles$Tape;", true)
  | 7 => ("RegionHandles", "holders", "LRegionHandles$Holders;", true)
  | _ => ("RegionHandles", "imageKept", "Z", false)
def tyX9 : Nat → FieldType := fun k => match k with
  | 0 => .object "RegionHandles$Memory"
  | 1 => .object "RegionHandles$Memory"
  | 2 => .object "RegionHandles$Memory"
  | 3 => .object "RegionHandles$Memory"
  | 4 => .object "RegionHandles$Walk"
  | 5 => .object "RegionHandles$Planned"
  | 6 => .object "RegionHandles$Tape"
  | 7 => .object "RegionHandles$Holders"
  | _ => .boolean
abbrev wsX90 : List Cond := u_ws RX9 TX9 9
theorem nmX9 : ∀ a, a < 9 → ∀ b, b < 9 → a ≠ b → (TX9 a).2.1 ≠ (TX9 b).2.1 := by decide +kernel
theorem tyX9_ok : ∀ k, k < 9 → parseFieldDescriptor (TX9 k).2.2.1 = some (tyX9 k) := by decide +kernel
abbrev cX9_init : ByteArray := prog_1_method_1_code
def yX9_init : MethodName := ⟨RX9, "<init>", "()V"⟩
abbrev cX9_region : ByteArray := prog_1_method_2_code
def yX9_region : MethodName := ⟨RX9, "region", "(II)I"⟩
abbrev cX9_block : ByteArray := prog_1_method_3_code
def yX9_block : MethodName := ⟨RX9, "block", "(III)I"⟩
abbrev cX9_free : ByteArray := prog_1_method_4_code
def yX9_free : MethodName := ⟨RX9, "free", "(I)I"⟩
abbrev cX9_pin : ByteArray := prog_1_method_5_code
def yX9_pin : MethodName := ⟨RX9, "pin", "(II)I"⟩
abbrev cX9_grow : ByteArray := prog_1_method_6_code
def yX9_grow : MethodName := ⟨RX9, "grow", "(II)I"⟩
abbrev cX9_moves : ByteArray := prog_1_method_7_code
def yX9_moves : MethodName := ⟨RX9, "moves", "(II)I"⟩
abbrev cX9_write : ByteArray := prog_1_method_8_code
def yX9_write : MethodName := ⟨RX9, "write", "(III)I"⟩
abbrev cX9_read : ByteArray := prog_1_method_9_code
def yX9_read : MethodName := ⟨RX9, "read", "(II)I"⟩
abbrev cX9_peek : ByteArray := prog_1_method_10_code
def yX9_peek : MethodName := ⟨RX9, "peek", "(III)I"⟩
abbrev cX9_of : ByteArray := prog_1_method_11_code
def yX9_of : MethodName := ⟨RX9, "of", "(II)I"⟩
abbrev cX9_slot : ByteArray := prog_1_method_12_code
def yX9_slot : MethodName := ⟨RX9, "slot", "(II)I"⟩
abbrev cX9_lies : ByteArray := prog_1_method_13_code
def yX9_lies : MethodName := ⟨RX9, "lies", "(I)I"⟩
abbrev cX9_tag : ByteArray := prog_1_method_14_code
def yX9_tag : MethodName := ⟨RX9, "tag", "(II)I"⟩
abbrev cX9_find : ByteArray := prog_1_method_15_code
def yX9_find : MethodName := ⟨RX9, "find", "(I)I"⟩
abbrev cX9_tagged : ByteArray := prog_1_method_16_code
def yX9_tagged : MethodName := ⟨RX9, "tagged", "(I)I"⟩
abbrev cX9_quota : ByteArray := prog_1_method_17_code
def yX9_quota : MethodName := ⟨RX9, "quota", "(II)I"⟩
abbrev cX9_owner : ByteArray := prog_1_method_18_code
def yX9_owner : MethodName := ⟨RX9, "owner", "(II)I"⟩
abbrev cX9_enter : ByteArray := prog_1_method_19_code
def yX9_enter : MethodName := ⟨RX9, "enter", "(I)I"⟩
abbrev cX9_leave : ByteArray := prog_1_method_20_code
def yX9_leave : MethodName := ⟨RX9, "leave", "(I)I"⟩
abbrev cX9_advance : ByteArray := prog_1_method_21_code
def yX9_advance : MethodName := ⟨RX9, "advance", "()I"⟩
abbrev cX9_would : ByteArray := prog_1_method_22_code
def yX9_would : MethodName := ⟨RX9, "would", "(III)I"⟩
abbrev cX9_least : ByteArray := prog_1_method_23_code
def yX9_least : MethodName := ⟨RX9, "least", "(II)I"⟩
abbrev cX9_leaked : ByteArray := prog_1_method_24_code
def yX9_leaked : MethodName := ⟨RX9, "leaked", "(I)I"⟩
abbrev cX9_path : ByteArray := prog_1_method_25_code
def yX9_path : MethodName := ⟨RX9, "path", "(II)I"⟩
abbrev cX9_epochs : ByteArray := prog_1_method_26_code
def yX9_epochs : MethodName := ⟨RX9, "epochs", "(I)I"⟩
abbrev cX9_plan : ByteArray := prog_1_method_27_code
def yX9_plan : MethodName := ⟨RX9, "plan", "(II)I"⟩
abbrev cX9_told : ByteArray := prog_1_method_28_code
def yX9_told : MethodName := ⟨RX9, "told", "(II)I"⟩
abbrev cX9_feed : ByteArray := prog_1_method_29_code
def yX9_feed : MethodName := ⟨RX9, "feed", "(I)I"⟩
abbrev cX9_script : ByteArray := prog_1_method_30_code
def yX9_script : MethodName := ⟨RX9, "script", "()I"⟩
abbrev cX9_image : ByteArray := prog_1_method_31_code
def yX9_image : MethodName := ⟨RX9, "image", "()I"⟩
abbrev cX9_back : ByteArray := prog_1_method_32_code
def yX9_back : MethodName := ⟨RX9, "back", "()I"⟩
abbrev cX9_hold : ByteArray := prog_1_method_33_code
def yX9_hold : MethodName := ⟨RX9, "hold", "(II)I"⟩
abbrev cX9_row : ByteArray := prog_1_method_34_code
def yX9_row : MethodName := ⟨RX9, "row", "(II)I"⟩
abbrev cX9_put : ByteArray := prog_1_method_35_code
def yX9_put : MethodName := ⟨RX9, "put", "(III)I"⟩
abbrev cX9_tells : ByteArray := prog_1_method_36_code
def yX9_tells : MethodName := ⟨RX9, "tells", "(II)I"⟩
abbrev cX9_count : ByteArray := prog_1_method_37_code
def yX9_count : MethodName := ⟨RX9, "count", "(I)I"⟩
abbrev cX9_isBlockLength : ByteArray := prog_1_method_38_code
def yX9_isBlockLength : MethodName := ⟨RX9, "isBlockLength", "(I)Z"⟩
abbrev cX9_isOwner : ByteArray := prog_1_method_39_code
def yX9_isOwner : MethodName := ⟨RX9, "isOwner", "(I)Z"⟩
abbrev cX9_isReader : ByteArray := prog_1_method_40_code
def yX9_isReader : MethodName := ⟨RX9, "isReader", "(I)Z"⟩
abbrev cX9_isHolder : ByteArray := prog_1_method_41_code
def yX9_isHolder : MethodName := ⟨RX9, "isHolder", "(I)Z"⟩
abbrev cX9_isTag : ByteArray := prog_1_method_42_code
def yX9_isTag : MethodName := ⟨RX9, "isTag", "(I)Z"⟩
abbrev cX9_notIfNone : ByteArray := prog_1_method_43_code
def yX9_notIfNone : MethodName := ⟨RX9, "notIfNone", "(I)I"⟩
abbrev cX9_copyAll : ByteArray := prog_1_method_44_code
def yX9_copyAll : MethodName := ⟨RX9, "copyAll", "([I[I)V"⟩
abbrev cX9_fill : ByteArray := prog_1_method_45_code
def yX9_fill : MethodName := ⟨RX9, "fill", "([IIII)V"⟩
abbrev cX9_isLeaked : ByteArray := prog_1_method_46_code
def yX9_isLeaked : MethodName := ⟨RX9, "isLeaked", "(I)Z"⟩
abbrev cX9_leakedCellsOf : ByteArray := prog_1_method_47_code
def yX9_leakedCellsOf : MethodName := ⟨RX9, "leakedCellsOf", "(I)I"⟩
abbrev cX9_takenFor : ByteArray := prog_1_method_48_code
def yX9_takenFor : MethodName := ⟨RX9, "takenFor", "(II)I"⟩
abbrev cX9_planElement : ByteArray := prog_1_method_49_code
def yX9_planElement : MethodName := ⟨RX9, "planElement", "(II)Z"⟩
abbrev cX9_doLine : ByteArray := prog_1_method_50_code
def yX9_doLine : MethodName := ⟨RX9, "doLine", "(I)I"⟩
abbrev cX9_tagByLine : ByteArray := prog_1_method_51_code
def yX9_tagByLine : MethodName := ⟨RX9, "tagByLine", "(III)I"⟩
def RX10 : String := "RegionHandlesModel"
def TX10 : u_T := fun k => match k with
  | 0 => ("RegionHandlesModel", "g", "[I", true)
  | 1 => ("RegionHandlesModel", "saved", "[I", true)
  | 2 => ("RegionHandlesModel", "whole", "[I", true)
  | 3 => ("RegionHandlesModel", "kept", "[I", true)
  | 4 => ("RegionHandlesModel", "isKept", "Z", false)
  | 5 => ("RegionHandlesModel", "lain", "[I", true)
  | 6 => ("RegionHandlesModel", "content", "[I", true)
  | 7 => ("RegionHandlesModel", "planned", "[I", true)
  | 8 => ("RegionHandlesModel", "ways", "[I", true)
  | 9 => ("RegionHandlesModel", "queue", "[I", true)
  | 10 => ("RegionHandlesModel", "tape", "[I", true)
  | 11 => ("RegionHandlesModel", "tapeMany", "I", false)
  | 12 => ("RegionHandlesModel", "held", "[I", true)
  | 13 => ("RegionHandlesModel", "heldHandle", "[I", true)
  | 14 => ("RegionHandlesModel", "rowSize", "[I", true)
  | 15 => ("RegionHandlesModel", "rows", "[[I", true)
  | 16 => ("RegionHandlesModel", "spot", "I", false)
  | 17 => ("RegionHandlesModel", "fault", "I", false)
  | _ => ("RegionHandlesModel", "numbers", "[I", true)
def tyX10 : Nat → FieldType := fun k => match k with
  | 0 => .array .int
  | 1 => .array .int
  | 2 => .array .int
  | 3 => .array .int
  | 4 => .boolean
  | 5 => .array .int
  | 6 => .array .int
  | 7 => .array .int
  | 8 => .array .int
  | 9 => .array .int
  | 10 => .array .int
  | 11 => .int
  | 12 => .array .int
  | 13 => .array .int
  | 14 => .array .int
  | 15 => .array (.array .int)
  | 16 => .int
  | 17 => .int
  | _ => .array .int
abbrev wsX100 : List Cond := u_ws RX10 TX10 19
theorem nmX10 : ∀ a, a < 19 → ∀ b, b < 19 → a ≠ b → (TX10 a).2.1 ≠ (TX10 b).2.1 := by decide +kernel
theorem tyX10_ok : ∀ k, k < 19 → parseFieldDescriptor (TX10 k).2.2.1 = some (tyX10 k) := by decide +kernel
abbrev cX10_init : ByteArray := prog_12_method_1_code
def yX10_init : MethodName := ⟨RX10, "<init>", "()V"⟩
abbrev cX10_in : ByteArray := prog_12_method_2_code
def yX10_in : MethodName := ⟨RX10, "in", "(III)Z"⟩
abbrev cX10_take : ByteArray := prog_12_method_3_code
def yX10_take : MethodName := ⟨RX10, "take", "([I[I)V"⟩
abbrev cX10_at : ByteArray := prog_12_method_4_code
def yX10_at : MethodName := ⟨RX10, "at", "(II)I"⟩
abbrev cX10_sets : ByteArray := prog_12_method_5_code
def yX10_sets : MethodName := ⟨RX10, "sets", "(III)V"⟩
abbrev cX10_isLive : ByteArray := prog_12_method_6_code
def yX10_isLive : MethodName := ⟨RX10, "isLive", "(I)Z"⟩
abbrev cX10_handleOf : ByteArray := prog_12_method_7_code
def yX10_handleOf : MethodName := ⟨RX10, "handleOf", "(I)I"⟩
abbrev cX10_good : ByteArray := prog_12_method_8_code
def yX10_good : MethodName := ⟨RX10, "good", "(I)I"⟩
abbrev cX10_isRegion : ByteArray := prog_12_method_9_code
def yX10_isRegion : MethodName := ⟨RX10, "isRegion", "(I)Z"⟩
abbrev cX10_laid : ByteArray := prog_12_method_10_code
def yX10_laid : MethodName := ⟨RX10, "laid", "()V"⟩
abbrev cX10_end : ByteArray := prog_12_method_11_code
def yX10_end : MethodName := ⟨RX10, "end", "(I)I"⟩
abbrev cX10_placed : ByteArray := prog_12_method_12_code
def yX10_placed : MethodName := ⟨RX10, "placed", "(II)I"⟩
abbrev cX10_used : ByteArray := prog_12_method_13_code
def yX10_used : MethodName := ⟨RX10, "used", "(I)I"⟩
abbrev cX10_freeSlot : ByteArray := prog_12_method_14_code
def yX10_freeSlot : MethodName := ⟨RX10, "freeSlot", "()I"⟩
abbrev cX10_region : ByteArray := prog_12_method_15_code
def yX10_region : MethodName := ⟨RX10, "region", "(II)I"⟩
abbrev cX10_block : ByteArray := prog_12_method_16_code
def yX10_block : MethodName := ⟨RX10, "block", "(III)I"⟩
abbrev cX10_free : ByteArray := prog_12_method_17_code
def yX10_free : MethodName := ⟨RX10, "free", "(I)I"⟩
abbrev cX10_pin : ByteArray := prog_12_method_18_code
def yX10_pin : MethodName := ⟨RX10, "pin", "(II)I"⟩
abbrev cX10_goes : ByteArray := prog_12_method_19_code
def yX10_goes : MethodName := ⟨RX10, "goes", "(II)V"⟩
abbrev cX10_isFreeBehind : ByteArray := prog_12_method_20_code
def yX10_isFreeBehind : MethodName := ⟨RX10, "isFreeBehind", "(II)Z"⟩
abbrev cX10_grow : ByteArray := prog_12_method_21_code
def yX10_grow : MethodName := ⟨RX10, "grow", "(II)I"⟩
abbrev cX10_nextBlock : ByteArray := prog_12_method_22_code
def yX10_nextBlock : MethodName := ⟨RX10, "nextBlock", "(IIZ)I"⟩
abbrev cX10_moved : ByteArray := prog_12_method_23_code
def yX10_moved : MethodName := ⟨RX10, "moved", "(II)I"⟩
abbrev cX10_moves : ByteArray := prog_12_method_24_code
def yX10_moves : MethodName := ⟨RX10, "moves", "(II)I"⟩
abbrev cX10_write : ByteArray := prog_12_method_25_code
def yX10_write : MethodName := ⟨RX10, "write", "(III)I"⟩
abbrev cX10_cellOf : ByteArray := prog_12_method_26_code
def yX10_cellOf : MethodName := ⟨RX10, "cellOf", "(II)I"⟩
abbrev cX10_read : ByteArray := prog_12_method_27_code
def yX10_read : MethodName := ⟨RX10, "read", "(II)I"⟩
abbrev cX10_peek : ByteArray := prog_12_method_28_code
def yX10_peek : MethodName := ⟨RX10, "peek", "(III)I"⟩
abbrev cX10_of : ByteArray := prog_12_method_29_code
def yX10_of : MethodName := ⟨RX10, "of", "(II)I"⟩
abbrev cX10_slot : ByteArray := prog_12_method_30_code
def yX10_slot : MethodName := ⟨RX10, "slot", "(II)I"⟩
abbrev cX10_lies : ByteArray := prog_12_method_31_code
def yX10_lies : MethodName := ⟨RX10, "lies", "(I)I"⟩
abbrev cX10_tagsMany : ByteArray := prog_12_method_32_code
def yX10_tagsMany : MethodName := ⟨RX10, "tagsMany", "()I"⟩
abbrev cX10_taggedBy : ByteArray := prog_12_method_33_code
def yX10_taggedBy : MethodName := ⟨RX10, "taggedBy", "(I)I"⟩
abbrev cX10_tag : ByteArray := prog_12_method_34_code
def yX10_tag : MethodName := ⟨RX10, "tag", "(II)I"⟩
abbrev cX10_find : ByteArray := prog_12_method_35_code
def yX10_find : MethodName := ⟨RX10, "find", "(I)I"⟩
abbrev cX10_tagged : ByteArray := prog_12_method_36_code
def yX10_tagged : MethodName := ⟨RX10, "tagged", "(I)I"⟩
abbrev cX10_quota : ByteArray := prog_12_method_37_code
def yX10_quota : MethodName := ⟨RX10, "quota", "(II)I"⟩
abbrev cX10_liveMany : ByteArray := prog_12_method_38_code
def yX10_liveMany : MethodName := ⟨RX10, "liveMany", "(I)I"⟩
abbrev cX10_owner : ByteArray := prog_12_method_39_code
def yX10_owner : MethodName := ⟨RX10, "owner", "(II)I"⟩
abbrev cX10_enter : ByteArray := prog_12_method_40_code
def yX10_enter : MethodName := ⟨RX10, "enter", "(I)I"⟩
abbrev cX10_leave : ByteArray := prog_12_method_41_code
def yX10_leave : MethodName := ⟨RX10, "leave", "(I)I"⟩
abbrev cX10_isSeen : ByteArray := prog_12_method_42_code
def yX10_isSeen : MethodName := ⟨RX10, "isSeen", "(I)Z"⟩
abbrev cX10_freeable : ByteArray := prog_12_method_43_code
def yX10_freeable : MethodName := ⟨RX10, "freeable", "()I"⟩
abbrev cX10_advance : ByteArray := prog_12_method_44_code
def yX10_advance : MethodName := ⟨RX10, "advance", "()I"⟩
abbrev cX10_freeIn : ByteArray := prog_12_method_45_code
def yX10_freeIn : MethodName := ⟨RX10, "freeIn", "(II)I"⟩
abbrev cX10_would : ByteArray := prog_12_method_46_code
def yX10_would : MethodName := ⟨RX10, "would", "(III)I"⟩
abbrev cX10_least : ByteArray := prog_12_method_47_code
def yX10_least : MethodName := ⟨RX10, "least", "(II)I"⟩
abbrev cX10_holds : ByteArray := prog_12_method_48_code
def yX10_holds : MethodName := ⟨RX10, "holds", "(II)Z"⟩
abbrev cX10_leakedOnes : ByteArray := prog_12_method_49_code
def yX10_leakedOnes : MethodName := ⟨RX10, "leakedOnes", "()I"⟩
abbrev cX10_leaked : ByteArray := prog_12_method_50_code
def yX10_leaked : MethodName := ⟨RX10, "leaked", "(I)I"⟩
abbrev cX10_path : ByteArray := prog_12_method_51_code
def yX10_path : MethodName := ⟨RX10, "path", "(II)I"⟩
abbrev cX10_epochs : ByteArray := prog_12_method_52_code
def yX10_epochs : MethodName := ⟨RX10, "epochs", "(I)I"⟩
abbrev cX10_isHolder : ByteArray := prog_12_method_53_code
def yX10_isHolder : MethodName := ⟨RX10, "isHolder", "(I)Z"⟩
abbrev cX10_fills : ByteArray := prog_12_method_54_code
def yX10_fills : MethodName := ⟨RX10, "fills", "(III)V"⟩
abbrev cX10_plan : ByteArray := prog_12_method_55_code
def yX10_plan : MethodName := ⟨RX10, "plan", "(II)I"⟩
abbrev cX10_told : ByteArray := prog_12_method_56_code
def yX10_told : MethodName := ⟨RX10, "told", "(II)I"⟩
abbrev cX10_feed : ByteArray := prog_12_method_57_code
def yX10_feed : MethodName := ⟨RX10, "feed", "(I)I"⟩
abbrev cX10_sees : ByteArray := prog_12_method_58_code
def yX10_sees : MethodName := ⟨RX10, "sees", "(II)Z"⟩
abbrev cX10_must : ByteArray := prog_12_method_59_code
def yX10_must : MethodName := ⟨RX10, "must", "(II)I"⟩
abbrev cX10_number : ByteArray := prog_12_method_60_code
def yX10_number : MethodName := ⟨RX10, "number", "()I"⟩
abbrev cX10_manyOf : ByteArray := prog_12_method_61_code
def yX10_manyOf : MethodName := ⟨RX10, "manyOf", "(I)I"⟩
abbrev cX10_line : ByteArray := prog_12_method_62_code
def yX10_line : MethodName := ⟨RX10, "line", "()I"⟩
abbrev cX10_isForm : ByteArray := prog_12_method_63_code
def yX10_isForm : MethodName := ⟨RX10, "isForm", "()Z"⟩
abbrev cX10_goodOf : ByteArray := prog_12_method_64_code
def yX10_goodOf : MethodName := ⟨RX10, "goodOf", "(I)I"⟩
abbrev cX10_does : ByteArray := prog_12_method_65_code
def yX10_does : MethodName := ⟨RX10, "does", "(I)I"⟩
abbrev cX10_script : ByteArray := prog_12_method_66_code
def yX10_script : MethodName := ⟨RX10, "script", "()I"⟩
abbrev cX10_image : ByteArray := prog_12_method_67_code
def yX10_image : MethodName := ⟨RX10, "image", "()I"⟩
abbrev cX10_back : ByteArray := prog_12_method_68_code
def yX10_back : MethodName := ⟨RX10, "back", "()I"⟩
abbrev cX10_hold : ByteArray := prog_12_method_69_code
def yX10_hold : MethodName := ⟨RX10, "hold", "(II)I"⟩
abbrev cX10_row : ByteArray := prog_12_method_70_code
def yX10_row : MethodName := ⟨RX10, "row", "(II)I"⟩
abbrev cX10_put : ByteArray := prog_12_method_71_code
def yX10_put : MethodName := ⟨RX10, "put", "(III)I"⟩
abbrev cX10_tells : ByteArray := prog_12_method_72_code
def yX10_tells : MethodName := ⟨RX10, "tells", "(II)I"⟩
abbrev cX10_count : ByteArray := prog_12_method_73_code
def yX10_count : MethodName := ⟨RX10, "count", "(I)I"⟩
def RJ9 : String := "java/lang/Math"
def TJ9 : u_T := fun k => match k with
  | _ => ("", "", "", false)
def tyJ9 : Nat → FieldType := fun k => match k with
  | _ => .int
abbrev wsJ90 : List Cond := u_ws RJ9 TJ9 0
theorem nmJ9 : ∀ a, a < 0 → ∀ b, b < 0 → a ≠ b → (TJ9 a).2.1 ≠ (TJ9 b).2.1 := by decide +kernel
theorem tyJ9_ok : ∀ k, k < 0 → parseFieldDescriptor (TJ9 k).2.2.1 = some (tyJ9 k) := by decide +kernel
abbrev cJ9_max_7cf53 : ByteArray := prog_13_method_65_code
def yJ9_max_7cf53 : MethodName := ⟨RJ9, "max", "(II)I"⟩
abbrev cJ9_min_7cf53 : ByteArray := prog_13_method_69_code
def yJ9_min_7cf53 : MethodName := ⟨RJ9, "min", "(II)I"⟩
def RJ10 : String := "java/lang/System"
def TJ10 : u_T := fun k => match k with
  | _ => ("", "", "", false)
def tyJ10 : Nat → FieldType := fun k => match k with
  | _ => .int
abbrev wsJ100 : List Cond := u_ws RJ10 TJ10 0
theorem nmJ10 : ∀ a, a < 0 → ∀ b, b < 0 → a ≠ b → (TJ10 a).2.1 ≠ (TJ10 b).2.1 := by decide +kernel
theorem tyJ10_ok : ∀ k, k < 0 → parseFieldDescriptor (TJ10 k).2.2.1 = some (tyJ10 k) := by decide +kernel
def RL : String := "RegionHandlesLaw"
abbrev cL_law : ByteArray := code
def yL_law : MethodName := ⟨RL, "law", "([I)Z"⟩
abbrev vwCl : List vw_C := [(RX0, TX0, 9), (RX1, TX1, 1), (RX2, TX2, 4), (RX3, TX3, 8), (RX4, TX4, 3), (RX5, TX5, 4), (RX6, TX6, 2), (RX7, TX7, 6), (RX8, TX8, 3), (RX9, TX9, 9), (RX10, TX10, 19)]
