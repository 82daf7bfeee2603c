section
-- ===== PART A: goes FIRST, ahead of the names: the tables' words, and 'selects' of the private methods out of them =====
/-- a private method of a class that the tables say can be made, by its rows of tables_1 -/
def lw_okq (q : MethodName × Nat) : Prop := (q.1.cls ≠ "java/lang/invoke/MethodHandle" ∧ q.1.cls ≠ "java/lang/invoke/VarHandle") ∧ Cond.instantiable q.1.cls q.2 ∈ tables_1 ∧ Cond.privateMethod q.1 ∈ tables_1 ∧ Cond.instanceMethod q.1 ∈ tables_1
theorem lw_p0 : lw_okq (⟨"RegionHandles$Ground", "placeFromBelow", "(III)I"⟩, 1) := ⟨⟨by decide +kernel, by decide +kernel⟩, List.mem_of_getElem? (i := 56) (by decide +kernel), List.mem_of_getElem? (i := 348) (by decide +kernel), List.mem_of_getElem? (i := 349) (by decide +kernel)⟩
theorem lw_p1 : lw_okq (⟨"RegionHandles$Ground", "placeFromAbove", "(III)I"⟩, 1) := ⟨⟨by decide +kernel, by decide +kernel⟩, List.mem_of_getElem? (i := 56) (by decide +kernel), List.mem_of_getElem? (i := 352) (by decide +kernel), List.mem_of_getElem? (i := 353) (by decide +kernel)⟩
theorem lw_p2 : lw_okq (⟨"RegionHandles$Memory", "nextToMove", "(I)I"⟩, 8) := ⟨⟨by decide +kernel, by decide +kernel⟩, List.mem_of_getElem? (i := 23) (by decide +kernel), List.mem_of_getElem? (i := 426) (by decide +kernel), List.mem_of_getElem? (i := 427) (by decide +kernel)⟩
theorem lw_p3 : lw_okq (⟨"RegionHandles$Memory", "mayMove", "(I)Z"⟩, 8) := ⟨⟨by decide +kernel, by decide +kernel⟩, List.mem_of_getElem? (i := 23) (by decide +kernel), List.mem_of_getElem? (i := 430) (by decide +kernel), List.mem_of_getElem? (i := 431) (by decide +kernel)⟩
theorem lw_p4 : lw_okq (⟨"RegionHandles$Memory", "movedLow", "(I)I"⟩, 8) := ⟨⟨by decide +kernel, by decide +kernel⟩, List.mem_of_getElem? (i := 23) (by decide +kernel), List.mem_of_getElem? (i := 434) (by decide +kernel), List.mem_of_getElem? (i := 435) (by decide +kernel)⟩
theorem lw_p5 : lw_okq (⟨"RegionHandles", "leakedCellsOf", "(I)I"⟩, 9) := ⟨⟨by decide +kernel, by decide +kernel⟩, List.mem_of_getElem? (i := 15) (by decide +kernel), List.mem_of_getElem? (i := 525) (by decide +kernel), List.mem_of_getElem? (i := 526) (by decide +kernel)⟩
theorem lw_p6 : lw_okq (⟨"RegionHandles$Walk", "begin", "()V"⟩, 3) := ⟨⟨by decide +kernel, by decide +kernel⟩, List.mem_of_getElem? (i := 183) (by decide +kernel), List.mem_of_getElem? (i := 533) (by decide +kernel), List.mem_of_getElem? (i := 534) (by decide +kernel)⟩
theorem lw_p7 : lw_okq (⟨"RegionHandles$Walk", "comeTo", "(II)V"⟩, 3) := ⟨⟨by decide +kernel, by decide +kernel⟩, List.mem_of_getElem? (i := 183) (by decide +kernel), List.mem_of_getElem? (i := 538) (by decide +kernel), List.mem_of_getElem? (i := 539) (by decide +kernel)⟩
theorem lw_p8 : lw_okq (⟨"RegionHandles$Walk", "goOn", "(LRegionHandles$Memory;)V"⟩, 3) := ⟨⟨by decide +kernel, by decide +kernel⟩, List.mem_of_getElem? (i := 183) (by decide +kernel), List.mem_of_getElem? (i := 542) (by decide +kernel), List.mem_of_getElem? (i := 543) (by decide +kernel)⟩
theorem lw_p9 : lw_okq (⟨"RegionHandles", "isLeaked", "(I)Z"⟩, 9) := ⟨⟨by decide +kernel, by decide +kernel⟩, List.mem_of_getElem? (i := 15) (by decide +kernel), List.mem_of_getElem? (i := 547) (by decide +kernel), List.mem_of_getElem? (i := 548) (by decide +kernel)⟩
theorem lw_p10 : lw_okq (⟨"RegionHandles$Memory", "isFreeable", "(I)Z"⟩, 8) := ⟨⟨by decide +kernel, by decide +kernel⟩, List.mem_of_getElem? (i := 23) (by decide +kernel), List.mem_of_getElem? (i := 571) (by decide +kernel), List.mem_of_getElem? (i := 572) (by decide +kernel)⟩
theorem lw_p11 : lw_okq (⟨"RegionHandles", "planElement", "(II)Z"⟩, 9) := ⟨⟨by decide +kernel, by decide +kernel⟩, List.mem_of_getElem? (i := 15) (by decide +kernel), List.mem_of_getElem? (i := 678) (by decide +kernel), List.mem_of_getElem? (i := 679) (by decide +kernel)⟩
theorem lw_p12 : lw_okq (⟨"RegionHandles$Tape", "readLine", "()Z"⟩, 6) := ⟨⟨by decide +kernel, by decide +kernel⟩, List.mem_of_getElem? (i := 217) (by decide +kernel), List.mem_of_getElem? (i := 713) (by decide +kernel), List.mem_of_getElem? (i := 714) (by decide +kernel)⟩
theorem lw_p13 : lw_okq (⟨"RegionHandles$Tape", "nextByte", "()I"⟩, 6) := ⟨⟨by decide +kernel, by decide +kernel⟩, List.mem_of_getElem? (i := 217) (by decide +kernel), List.mem_of_getElem? (i := 717) (by decide +kernel), List.mem_of_getElem? (i := 718) (by decide +kernel)⟩
theorem lw_p14 : lw_okq (⟨"RegionHandles$Tape", "readSign", "(I)Z"⟩, 6) := ⟨⟨by decide +kernel, by decide +kernel⟩, List.mem_of_getElem? (i := 217) (by decide +kernel), List.mem_of_getElem? (i := 724) (by decide +kernel), List.mem_of_getElem? (i := 725) (by decide +kernel)⟩
theorem lw_p15 : lw_okq (⟨"RegionHandles$Tape", "readNumber", "(I)Z"⟩, 6) := ⟨⟨by decide +kernel, by decide +kernel⟩, List.mem_of_getElem? (i := 217) (by decide +kernel), List.mem_of_getElem? (i := 728) (by decide +kernel), List.mem_of_getElem? (i := 729) (by decide +kernel)⟩
def lw_privs_1 : List (MethodName × Nat) := [(⟨"RegionHandles$Ground", "placeFromBelow", "(III)I"⟩, 1), (⟨"RegionHandles$Ground", "placeFromAbove", "(III)I"⟩, 1), (⟨"RegionHandles$Memory", "nextToMove", "(I)I"⟩, 8), (⟨"RegionHandles$Memory", "mayMove", "(I)Z"⟩, 8), (⟨"RegionHandles$Memory", "movedLow", "(I)I"⟩, 8), (⟨"RegionHandles", "leakedCellsOf", "(I)I"⟩, 9), (⟨"RegionHandles$Walk", "begin", "()V"⟩, 3), (⟨"RegionHandles$Walk", "comeTo", "(II)V"⟩, 3), (⟨"RegionHandles$Walk", "goOn", "(LRegionHandles$Memory;)V"⟩, 3), (⟨"RegionHandles", "isLeaked", "(I)Z"⟩, 9), (⟨"RegionHandles$Memory", "isFreeable", "(I)Z"⟩, 8), (⟨"RegionHandles", "planElement", "(II)Z"⟩, 9), (⟨"RegionHandles$Tape", "readLine", "()Z"⟩, 6), (⟨"RegionHandles$Tape", "nextByte", "()I"⟩, 6), (⟨"RegionHandles$Tape", "readSign", "(I)Z"⟩, 6), (⟨"RegionHandles$Tape", "readNumber", "(I)Z"⟩, 6)]
theorem lw_r1 : ∀ q ∈ lw_privs_1, lw_okq q := List.forall_mem_cons.mpr ⟨lw_p0, List.forall_mem_cons.mpr ⟨lw_p1, List.forall_mem_cons.mpr ⟨lw_p2, List.forall_mem_cons.mpr ⟨lw_p3, List.forall_mem_cons.mpr ⟨lw_p4, List.forall_mem_cons.mpr ⟨lw_p5, List.forall_mem_cons.mpr ⟨lw_p6, List.forall_mem_cons.mpr ⟨lw_p7, List.forall_mem_cons.mpr ⟨lw_p8, List.forall_mem_cons.mpr ⟨lw_p9, List.forall_mem_cons.mpr ⟨lw_p10, List.forall_mem_cons.mpr ⟨lw_p11, List.forall_mem_cons.mpr ⟨lw_p12, List.forall_mem_cons.mpr ⟨lw_p13, List.forall_mem_cons.mpr ⟨lw_p14, List.forall_mem_cons.mpr ⟨lw_p15, fun _ h => absurd h List.not_mem_nil⟩⟩⟩⟩⟩⟩⟩⟩⟩⟩⟩⟩⟩⟩⟩⟩
theorem lw_p16 : lw_okq (⟨"RegionHandles", "doLine", "(I)I"⟩, 9) := ⟨⟨by decide +kernel, by decide +kernel⟩, List.mem_of_getElem? (i := 15) (by decide +kernel), List.mem_of_getElem? (i := 732) (by decide +kernel), List.mem_of_getElem? (i := 733) (by decide +kernel)⟩
theorem lw_p17 : lw_okq (⟨"RegionHandles", "tagByLine", "(III)I"⟩, 9) := ⟨⟨by decide +kernel, by decide +kernel⟩, List.mem_of_getElem? (i := 15) (by decide +kernel), List.mem_of_getElem? (i := 744) (by decide +kernel), List.mem_of_getElem? (i := 745) (by decide +kernel)⟩
theorem lw_p18 : lw_okq (⟨"RegionHandles", "takenFor", "(II)I"⟩, 9) := ⟨⟨by decide +kernel, by decide +kernel⟩, List.mem_of_getElem? (i := 15) (by decide +kernel), List.mem_of_getElem? (i := 794) (by decide +kernel), List.mem_of_getElem? (i := 795) (by decide +kernel)⟩
theorem lw_p19 : lw_okq (⟨"RegionHandlesModel", "end", "(I)I"⟩, 19) := ⟨⟨by decide +kernel, by decide +kernel⟩, List.mem_of_getElem? (i := 810) (by decide +kernel), List.mem_of_getElem? (i := 883) (by decide +kernel), List.mem_of_getElem? (i := 884) (by decide +kernel)⟩
theorem lw_p20 : lw_okq (⟨"RegionHandlesModel", "isRegion", "(I)Z"⟩, 19) := ⟨⟨by decide +kernel, by decide +kernel⟩, List.mem_of_getElem? (i := 810) (by decide +kernel), List.mem_of_getElem? (i := 891) (by decide +kernel), List.mem_of_getElem? (i := 892) (by decide +kernel)⟩
theorem lw_p21 : lw_okq (⟨"RegionHandlesModel", "used", "(I)I"⟩, 19) := ⟨⟨by decide +kernel, by decide +kernel⟩, List.mem_of_getElem? (i := 810) (by decide +kernel), List.mem_of_getElem? (i := 895) (by decide +kernel), List.mem_of_getElem? (i := 896) (by decide +kernel)⟩
theorem lw_p22 : lw_okq (⟨"RegionHandlesModel", "at", "(II)I"⟩, 19) := ⟨⟨by decide +kernel, by decide +kernel⟩, List.mem_of_getElem? (i := 810) (by decide +kernel), List.mem_of_getElem? (i := 899) (by decide +kernel), List.mem_of_getElem? (i := 900) (by decide +kernel)⟩
theorem lw_p23 : lw_okq (⟨"RegionHandlesModel", "laid", "()V"⟩, 19) := ⟨⟨by decide +kernel, by decide +kernel⟩, List.mem_of_getElem? (i := 810) (by decide +kernel), List.mem_of_getElem? (i := 903) (by decide +kernel), List.mem_of_getElem? (i := 904) (by decide +kernel)⟩
theorem lw_p24 : lw_okq (⟨"RegionHandlesModel", "placed", "(II)I"⟩, 19) := ⟨⟨by decide +kernel, by decide +kernel⟩, List.mem_of_getElem? (i := 810) (by decide +kernel), List.mem_of_getElem? (i := 907) (by decide +kernel), List.mem_of_getElem? (i := 908) (by decide +kernel)⟩
theorem lw_p25 : lw_okq (⟨"RegionHandlesModel", "freeSlot", "()I"⟩, 19) := ⟨⟨by decide +kernel, by decide +kernel⟩, List.mem_of_getElem? (i := 810) (by decide +kernel), List.mem_of_getElem? (i := 911) (by decide +kernel), List.mem_of_getElem? (i := 912) (by decide +kernel)⟩
theorem lw_p26 : lw_okq (⟨"RegionHandlesModel", "sets", "(III)V"⟩, 19) := ⟨⟨by decide +kernel, by decide +kernel⟩, List.mem_of_getElem? (i := 810) (by decide +kernel), List.mem_of_getElem? (i := 915) (by decide +kernel), List.mem_of_getElem? (i := 916) (by decide +kernel)⟩
theorem lw_p27 : lw_okq (⟨"RegionHandlesModel", "handleOf", "(I)I"⟩, 19) := ⟨⟨by decide +kernel, by decide +kernel⟩, List.mem_of_getElem? (i := 810) (by decide +kernel), List.mem_of_getElem? (i := 919) (by decide +kernel), List.mem_of_getElem? (i := 920) (by decide +kernel)⟩
theorem lw_p28 : lw_okq (⟨"RegionHandlesModel", "good", "(I)I"⟩, 19) := ⟨⟨by decide +kernel, by decide +kernel⟩, List.mem_of_getElem? (i := 810) (by decide +kernel), List.mem_of_getElem? (i := 927) (by decide +kernel), List.mem_of_getElem? (i := 928) (by decide +kernel)⟩
theorem lw_p29 : lw_okq (⟨"RegionHandlesModel", "isLive", "(I)Z"⟩, 19) := ⟨⟨by decide +kernel, by decide +kernel⟩, List.mem_of_getElem? (i := 810) (by decide +kernel), List.mem_of_getElem? (i := 931) (by decide +kernel), List.mem_of_getElem? (i := 932) (by decide +kernel)⟩
theorem lw_p30 : lw_okq (⟨"RegionHandlesModel", "isFreeBehind", "(II)Z"⟩, 19) := ⟨⟨by decide +kernel, by decide +kernel⟩, List.mem_of_getElem? (i := 810) (by decide +kernel), List.mem_of_getElem? (i := 943) (by decide +kernel), List.mem_of_getElem? (i := 944) (by decide +kernel)⟩
theorem lw_p31 : lw_okq (⟨"RegionHandlesModel", "goes", "(II)V"⟩, 19) := ⟨⟨by decide +kernel, by decide +kernel⟩, List.mem_of_getElem? (i := 810) (by decide +kernel), List.mem_of_getElem? (i := 947) (by decide +kernel), List.mem_of_getElem? (i := 948) (by decide +kernel)⟩
def lw_privs_2 : List (MethodName × Nat) := [(⟨"RegionHandles", "doLine", "(I)I"⟩, 9), (⟨"RegionHandles", "tagByLine", "(III)I"⟩, 9), (⟨"RegionHandles", "takenFor", "(II)I"⟩, 9), (⟨"RegionHandlesModel", "end", "(I)I"⟩, 19), (⟨"RegionHandlesModel", "isRegion", "(I)Z"⟩, 19), (⟨"RegionHandlesModel", "used", "(I)I"⟩, 19), (⟨"RegionHandlesModel", "at", "(II)I"⟩, 19), (⟨"RegionHandlesModel", "laid", "()V"⟩, 19), (⟨"RegionHandlesModel", "placed", "(II)I"⟩, 19), (⟨"RegionHandlesModel", "freeSlot", "()I"⟩, 19), (⟨"RegionHandlesModel", "sets", "(III)V"⟩, 19), (⟨"RegionHandlesModel", "handleOf", "(I)I"⟩, 19), (⟨"RegionHandlesModel", "good", "(I)I"⟩, 19), (⟨"RegionHandlesModel", "isLive", "(I)Z"⟩, 19), (⟨"RegionHandlesModel", "isFreeBehind", "(II)Z"⟩, 19), (⟨"RegionHandlesModel", "goes", "(II)V"⟩, 19)]
theorem lw_r2 : ∀ q ∈ lw_privs_2, lw_okq q := List.forall_mem_cons.mpr ⟨lw_p16, List.forall_mem_cons.mpr ⟨lw_p17, List.forall_mem_cons.mpr ⟨lw_p18, List.forall_mem_cons.mpr ⟨lw_p19, List.forall_mem_cons.mpr ⟨lw_p20, List.forall_mem_cons.mpr ⟨lw_p21, List.forall_mem_cons.mpr ⟨lw_p22, List.forall_mem_cons.mpr ⟨lw_p23, List.forall_mem_cons.mpr ⟨lw_p24, List.forall_mem_cons.mpr ⟨lw_p25, List.forall_mem_cons.mpr ⟨lw_p26, List.forall_mem_cons.mpr ⟨lw_p27, List.forall_mem_cons.mpr ⟨lw_p28, List.forall_mem_cons.mpr ⟨lw_p29, List.forall_mem_cons.mpr ⟨lw_p30, List.forall_mem_cons.mpr ⟨lw_p31, fun _ h => absurd h List.not_mem_nil⟩⟩⟩⟩⟩⟩⟩⟩⟩⟩⟩⟩⟩⟩⟩⟩
theorem lw_p32 : lw_okq (⟨"RegionHandlesModel", "moved", "(II)I"⟩, 19) := ⟨⟨by decide +kernel, by decide +kernel⟩, List.mem_of_getElem? (i := 810) (by decide +kernel), List.mem_of_getElem? (i := 955) (by decide +kernel), List.mem_of_getElem? (i := 956) (by decide +kernel)⟩
theorem lw_p33 : lw_okq (⟨"RegionHandlesModel", "nextBlock", "(IIZ)I"⟩, 19) := ⟨⟨by decide +kernel, by decide +kernel⟩, List.mem_of_getElem? (i := 810) (by decide +kernel), List.mem_of_getElem? (i := 959) (by decide +kernel), List.mem_of_getElem? (i := 960) (by decide +kernel)⟩
theorem lw_p34 : lw_okq (⟨"RegionHandlesModel", "cellOf", "(II)I"⟩, 19) := ⟨⟨by decide +kernel, by decide +kernel⟩, List.mem_of_getElem? (i := 810) (by decide +kernel), List.mem_of_getElem? (i := 972) (by decide +kernel), List.mem_of_getElem? (i := 973) (by decide +kernel)⟩
theorem lw_p35 : lw_okq (⟨"RegionHandlesModel", "taggedBy", "(I)I"⟩, 19) := ⟨⟨by decide +kernel, by decide +kernel⟩, List.mem_of_getElem? (i := 810) (by decide +kernel), List.mem_of_getElem? (i := 996) (by decide +kernel), List.mem_of_getElem? (i := 997) (by decide +kernel)⟩
theorem lw_p36 : lw_okq (⟨"RegionHandlesModel", "tagsMany", "()I"⟩, 19) := ⟨⟨by decide +kernel, by decide +kernel⟩, List.mem_of_getElem? (i := 810) (by decide +kernel), List.mem_of_getElem? (i := 1000) (by decide +kernel), List.mem_of_getElem? (i := 1001) (by decide +kernel)⟩
theorem lw_p37 : lw_okq (⟨"RegionHandlesModel", "leakedOnes", "()I"⟩, 19) := ⟨⟨by decide +kernel, by decide +kernel⟩, List.mem_of_getElem? (i := 810) (by decide +kernel), List.mem_of_getElem? (i := 1020) (by decide +kernel), List.mem_of_getElem? (i := 1021) (by decide +kernel)⟩
theorem lw_p38 : lw_okq (⟨"RegionHandlesModel", "holds", "(II)Z"⟩, 19) := ⟨⟨by decide +kernel, by decide +kernel⟩, List.mem_of_getElem? (i := 810) (by decide +kernel), List.mem_of_getElem? (i := 1024) (by decide +kernel), List.mem_of_getElem? (i := 1025) (by decide +kernel)⟩
theorem lw_p39 : lw_okq (⟨"RegionHandlesModel", "liveMany", "(I)I"⟩, 19) := ⟨⟨by decide +kernel, by decide +kernel⟩, List.mem_of_getElem? (i := 810) (by decide +kernel), List.mem_of_getElem? (i := 1028) (by decide +kernel), List.mem_of_getElem? (i := 1029) (by decide +kernel)⟩
theorem lw_p40 : lw_okq (⟨"RegionHandlesModel", "freeable", "()I"⟩, 19) := ⟨⟨by decide +kernel, by decide +kernel⟩, List.mem_of_getElem? (i := 810) (by decide +kernel), List.mem_of_getElem? (i := 1044) (by decide +kernel), List.mem_of_getElem? (i := 1045) (by decide +kernel)⟩
theorem lw_p41 : lw_okq (⟨"RegionHandlesModel", "isSeen", "(I)Z"⟩, 19) := ⟨⟨by decide +kernel, by decide +kernel⟩, List.mem_of_getElem? (i := 810) (by decide +kernel), List.mem_of_getElem? (i := 1048) (by decide +kernel), List.mem_of_getElem? (i := 1049) (by decide +kernel)⟩
theorem lw_p42 : lw_okq (⟨"RegionHandlesModel", "freeIn", "(II)I"⟩, 19) := ⟨⟨by decide +kernel, by decide +kernel⟩, List.mem_of_getElem? (i := 810) (by decide +kernel), List.mem_of_getElem? (i := 1056) (by decide +kernel), List.mem_of_getElem? (i := 1057) (by decide +kernel)⟩
theorem lw_p43 : lw_okq (⟨"RegionHandlesModel", "isHolder", "(I)Z"⟩, 19) := ⟨⟨by decide +kernel, by decide +kernel⟩, List.mem_of_getElem? (i := 810) (by decide +kernel), List.mem_of_getElem? (i := 1083) (by decide +kernel), List.mem_of_getElem? (i := 1084) (by decide +kernel)⟩
theorem lw_p44 : lw_okq (⟨"RegionHandlesModel", "fills", "(III)V"⟩, 19) := ⟨⟨by decide +kernel, by decide +kernel⟩, List.mem_of_getElem? (i := 810) (by decide +kernel), List.mem_of_getElem? (i := 1087) (by decide +kernel), List.mem_of_getElem? (i := 1088) (by decide +kernel)⟩
theorem lw_p45 : lw_okq (⟨"RegionHandlesModel", "isForm", "()Z"⟩, 19) := ⟨⟨by decide +kernel, by decide +kernel⟩, List.mem_of_getElem? (i := 810) (by decide +kernel), List.mem_of_getElem? (i := 1103) (by decide +kernel), List.mem_of_getElem? (i := 1104) (by decide +kernel)⟩
theorem lw_p46 : lw_okq (⟨"RegionHandlesModel", "line", "()I"⟩, 19) := ⟨⟨by decide +kernel, by decide +kernel⟩, List.mem_of_getElem? (i := 810) (by decide +kernel), List.mem_of_getElem? (i := 1107) (by decide +kernel), List.mem_of_getElem? (i := 1108) (by decide +kernel)⟩
theorem lw_p47 : lw_okq (⟨"RegionHandlesModel", "number", "()I"⟩, 19) := ⟨⟨by decide +kernel, by decide +kernel⟩, List.mem_of_getElem? (i := 810) (by decide +kernel), List.mem_of_getElem? (i := 1114) (by decide +kernel), List.mem_of_getElem? (i := 1115) (by decide +kernel)⟩
def lw_privs_3 : List (MethodName × Nat) := [(⟨"RegionHandlesModel", "moved", "(II)I"⟩, 19), (⟨"RegionHandlesModel", "nextBlock", "(IIZ)I"⟩, 19), (⟨"RegionHandlesModel", "cellOf", "(II)I"⟩, 19), (⟨"RegionHandlesModel", "taggedBy", "(I)I"⟩, 19), (⟨"RegionHandlesModel", "tagsMany", "()I"⟩, 19), (⟨"RegionHandlesModel", "leakedOnes", "()I"⟩, 19), (⟨"RegionHandlesModel", "holds", "(II)Z"⟩, 19), (⟨"RegionHandlesModel", "liveMany", "(I)I"⟩, 19), (⟨"RegionHandlesModel", "freeable", "()I"⟩, 19), (⟨"RegionHandlesModel", "isSeen", "(I)Z"⟩, 19), (⟨"RegionHandlesModel", "freeIn", "(II)I"⟩, 19), (⟨"RegionHandlesModel", "isHolder", "(I)Z"⟩, 19), (⟨"RegionHandlesModel", "fills", "(III)V"⟩, 19), (⟨"RegionHandlesModel", "isForm", "()Z"⟩, 19), (⟨"RegionHandlesModel", "line", "()I"⟩, 19), (⟨"RegionHandlesModel", "number", "()I"⟩, 19)]
theorem lw_r3 : ∀ q ∈ lw_privs_3, lw_okq q := List.forall_mem_cons.mpr ⟨lw_p32, List.forall_mem_cons.mpr ⟨lw_p33, List.forall_mem_cons.mpr ⟨lw_p34, List.forall_mem_cons.mpr ⟨lw_p35, List.forall_mem_cons.mpr ⟨lw_p36, List.forall_mem_cons.mpr ⟨lw_p37, List.forall_mem_cons.mpr ⟨lw_p38, List.forall_mem_cons.mpr ⟨lw_p39, List.forall_mem_cons.mpr ⟨lw_p40, List.forall_mem_cons.mpr ⟨lw_p41, List.forall_mem_cons.mpr ⟨lw_p42, List.forall_mem_cons.mpr ⟨lw_p43, List.forall_mem_cons.mpr ⟨lw_p44, List.forall_mem_cons.mpr ⟨lw_p45, List.forall_mem_cons.mpr ⟨lw_p46, List.forall_mem_cons.mpr ⟨lw_p47, fun _ h => absurd h List.not_mem_nil⟩⟩⟩⟩⟩⟩⟩⟩⟩⟩⟩⟩⟩⟩⟩⟩
theorem lw_p48 : lw_okq (⟨"RegionHandlesModel", "must", "(II)I"⟩, 19) := ⟨⟨by decide +kernel, by decide +kernel⟩, List.mem_of_getElem? (i := 810) (by decide +kernel), List.mem_of_getElem? (i := 1118) (by decide +kernel), List.mem_of_getElem? (i := 1119) (by decide +kernel)⟩
theorem lw_p49 : lw_okq (⟨"RegionHandlesModel", "sees", "(II)Z"⟩, 19) := ⟨⟨by decide +kernel, by decide +kernel⟩, List.mem_of_getElem? (i := 810) (by decide +kernel), List.mem_of_getElem? (i := 1122) (by decide +kernel), List.mem_of_getElem? (i := 1123) (by decide +kernel)⟩
theorem lw_p50 : lw_okq (⟨"RegionHandlesModel", "does", "(I)I"⟩, 19) := ⟨⟨by decide +kernel, by decide +kernel⟩, List.mem_of_getElem? (i := 810) (by decide +kernel), List.mem_of_getElem? (i := 1126) (by decide +kernel), List.mem_of_getElem? (i := 1127) (by decide +kernel)⟩
theorem lw_p51 : lw_okq (⟨"RegionHandlesModel", "goodOf", "(I)I"⟩, 19) := ⟨⟨by decide +kernel, by decide +kernel⟩, List.mem_of_getElem? (i := 810) (by decide +kernel), List.mem_of_getElem? (i := 1132) (by decide +kernel), List.mem_of_getElem? (i := 1133) (by decide +kernel)⟩
def lw_privs_4 : List (MethodName × Nat) := [(⟨"RegionHandlesModel", "must", "(II)I"⟩, 19), (⟨"RegionHandlesModel", "sees", "(II)Z"⟩, 19), (⟨"RegionHandlesModel", "does", "(I)I"⟩, 19), (⟨"RegionHandlesModel", "goodOf", "(I)I"⟩, 19)]
theorem lw_r4 : ∀ q ∈ lw_privs_4, lw_okq q := List.forall_mem_cons.mpr ⟨lw_p48, List.forall_mem_cons.mpr ⟨lw_p49, List.forall_mem_cons.mpr ⟨lw_p50, List.forall_mem_cons.mpr ⟨lw_p51, fun _ h => absurd h List.not_mem_nil⟩⟩⟩⟩
def lw_privs : List (MethodName × Nat) := lw_privs_1 ++ (lw_privs_2 ++ (lw_privs_3 ++ (lw_privs_4)))
def lw_tbl : List Cond := k2_sels lw_privs ++ tables_1
theorem lw_privs_ok : ∀ q ∈ lw_privs, lw_okq q := by
  show ∀ q ∈ lw_privs_1 ++ (lw_privs_2 ++ (lw_privs_3 ++ (lw_privs_4))), lw_okq q
  exact List.forall_mem_append.mpr ⟨lw_r1, List.forall_mem_append.mpr ⟨lw_r2, List.forall_mem_append.mpr ⟨lw_r3, lw_r4⟩⟩⟩
-- ===== end of PART A; then your names; then what follows =====
/-! ===== BEGIN words of one list among another's, by their places ===== -/
theorem goodIn_r {big : List Cond} (ws : List Cond) (ps : List Nat) (hp : ws = ps.filterMap (fun i => big[i]?)) (h : ws.all goodWord = true) : GoodIn big ws := by
  intro w hw
  have h1 := List.all_eq_true.mp h w hw
  rw [hp] at hw
  obtain ⟨i, -, hi⟩ := List.mem_filterMap.mp hw
  have hm : w ∈ big := by first | exact List.mem_of_getElem? hi | exact List.getElem?_mem hi
  exact ⟨hm, good_of_word h1⟩
theorem goodIn_app {big a b : List Cond} (ha : GoodIn big a) (hb : GoodIn big b) : GoodIn big (a ++ b) := fun w h => (List.mem_append.mp h).elim (ha w) (hb w)
theorem goodIn_ca {big a b : List Cond} {c : Cond} (ha : GoodIn big (c :: a)) (hb : GoodIn big b) : GoodIn big (c :: (a ++ b)) := fun w h => (List.mem_cons.mp h).elim (fun e => ha w (List.mem_cons.mpr (Or.inl e))) (fun h => (List.mem_append.mp h).elim (fun h => ha w (List.mem_cons.mpr (Or.inr h))) (hb w))
theorem goodIn_sub {big ws : List Cond} (hm : ∀ w ∈ ws, w ∈ big) (h : ws.all goodWord = true) : GoodIn big ws := fun w hw => ⟨hm w hw, good_of_word (List.all_eq_true.mp h w hw)⟩
/-! ===== END ===== -/
/-! ===== BEGIN printed: names, fields, word lists, decode rows ===== -/
def RX0 : String := "RegionHandles$Blocks"
def TX0 : u_T := fun k => match k with
  | 0 => ("RegionHandles$Blocks", "generation", "[I", true)
  | 1 => ("RegionHandles$Blocks", "life", "[I", true)
  | 2 => ("RegionHandles$Blocks", "low", "[I", true)
  | 3 => ("RegionHandles$Blocks", "size", "[I", true)
  | 4 => ("RegionHandles$Blocks", "region", "[I", true)
  | 5 => ("RegionHandles$Blocks", "owner", "[I", true)
  | 6 => ("RegionHandles$Blocks", "pins", "[I", true)
  | 7 => ("RegionHandles$Blocks", "tag", "[I", true)
  | _ => ("RegionHandles$Blocks", "doomedBy", "[I", true)
def tyX0 : Nat → FieldType := fun k => match k with
  | 0 => .array .int
  | 1 => .array .int
  | 2 => .array .int
  | 3 => .array .int
  | 4 => .array .int
  | 5 => .array .int
  | 6 => .array .int
  | 7 => .array .int
  | _ => .array .int
abbrev wsX00 : List Cond := u_ws RX0 TX0 9
theorem nmX0 : ∀ a, a < 9 → ∀ b, b < 9 → a ≠ b → (TX0 a).2.1 ≠ (TX0 b).2.1 := by decide +kernel
theorem tyX0_ok : ∀ k, k < 9 → parseFieldDescriptor (TX0 k).2.2.1 = some (tyX0 k) := by decide +kernel
abbrev cX0_init : ByteArray := prog_2_method_1_code
def yX0_init : MethodName := ⟨RX0, "<init>", "()V"⟩
abbrev cX0_leastUnusedSlot : ByteArray := prog_2_method_2_code
def yX0_leastUnusedSlot : MethodName := ⟨RX0, "leastUnusedSlot", "()I"⟩
abbrev cX0_handleOf : ByteArray := prog_2_method_3_code
def yX0_handleOf : MethodName := ⟨RX0, "handleOf", "(I)I"⟩
abbrev cX0_liveHandleOf : ByteArray := prog_2_method_4_code
def yX0_liveHandleOf : MethodName := ⟨RX0, "liveHandleOf", "(I)I"⟩
abbrev cX0_slotOf : ByteArray := prog_2_method_5_code
def yX0_slotOf : MethodName := ⟨RX0, "slotOf", "(I)I"⟩
abbrev cX0_liveSlotOf : ByteArray := prog_2_method_6_code
def yX0_liveSlotOf : MethodName := ⟨RX0, "liveSlotOf", "(I)I"⟩
abbrev cX0_manyOf : ByteArray := prog_2_method_7_code
def yX0_manyOf : MethodName := ⟨RX0, "manyOf", "(I)I"⟩
abbrev cX0_liveOf : ByteArray := prog_2_method_8_code
def yX0_liveOf : MethodName := ⟨RX0, "liveOf", "(I)I"⟩
abbrev cX0_usedBy : ByteArray := prog_2_method_9_code
def yX0_usedBy : MethodName := ⟨RX0, "usedBy", "(I)I"⟩
abbrev cX0_cellsInAll : ByteArray := prog_2_method_10_code
def yX0_cellsInAll : MethodName := ⟨RX0, "cellsInAll", "()I"⟩
abbrev cX0_copyFrom : ByteArray := prog_2_method_11_code
def yX0_copyFrom : MethodName := ⟨RX0, "copyFrom", "(LRegionHandles$Blocks;)V"⟩
def RX1 : String := "RegionHandles$Ground"
def TX1 : u_T := fun k => match k with
  | _ => ("RegionHandles$Ground", "slotAt", "[I", true)
def tyX1 : Nat → FieldType := fun k => match k with
  | _ => .array .int
abbrev wsX10 : List Cond := u_ws RX1 TX1 1
theorem nmX1 : ∀ a, a < 1 → ∀ b, b < 1 → a ≠ b → (TX1 a).2.1 ≠ (TX1 b).2.1 := by decide +kernel
theorem tyX1_ok : ∀ k, k < 1 → parseFieldDescriptor (TX1 k).2.2.1 = some (tyX1 k) := by decide +kernel
abbrev cX1_init : ByteArray := prog_3_method_1_code
def yX1_init : MethodName := ⟨RX1, "<init>", "()V"⟩
abbrev cX1_take : ByteArray := prog_3_method_2_code
def yX1_take : MethodName := ⟨RX1, "take", "(III)V"⟩
abbrev cX1_release : ByteArray := prog_3_method_3_code
def yX1_release : MethodName := ⟨RX1, "release", "(II)V"⟩
abbrev cX1_isFree : ByteArray := prog_3_method_4_code
def yX1_isFree : MethodName := ⟨RX1, "isFree", "(II)Z"⟩
abbrev cX1_placeIn : ByteArray := prog_3_method_5_code
def yX1_placeIn : MethodName := ⟨RX1, "placeIn", "(LRegionHandles$Regions;II)I"⟩
abbrev cX1_placeFromBelow : ByteArray := prog_3_method_6_code
def yX1_placeFromBelow : MethodName := ⟨RX1, "placeFromBelow", "(III)I"⟩
abbrev cX1_placeFromAbove : ByteArray := prog_3_method_7_code
def yX1_placeFromAbove : MethodName := ⟨RX1, "placeFromAbove", "(III)I"⟩
abbrev cX1_freeCells : ByteArray := prog_3_method_8_code
def yX1_freeCells : MethodName := ⟨RX1, "freeCells", "(II)I"⟩
abbrev cX1_longestFreeRow : ByteArray := prog_3_method_9_code
def yX1_longestFreeRow : MethodName := ⟨RX1, "longestFreeRow", "(II)I"⟩
abbrev cX1_freeRows : ByteArray := prog_3_method_10_code
def yX1_freeRows : MethodName := ⟨RX1, "freeRows", "(II)I"⟩
abbrev cX1_copyFrom : ByteArray := prog_3_method_11_code
def yX1_copyFrom : MethodName := ⟨RX1, "copyFrom", "(LRegionHandles$Ground;)V"⟩
def RX2 : String := "RegionHandles$Holders"
def TX2 : u_T := fun k => match k with
  | 0 => ("RegionHandles$Holders", "sort", "[I", true)
  | 1 => ("RegionHandles$Holders", "handle", "[I", true)
  | 2 => ("RegionHandles$Holders", "size", "[I", true)
  | _ => ("RegionHandles$Holders", "items", "[I", true)
def tyX2 : Nat → FieldType := fun k => match k with
  | 0 => .array .int
  | 1 => .array .int
  | 2 => .array .int
  | _ => .array .int
abbrev wsX20 : List Cond := u_ws RX2 TX2 4
theorem nmX2 : ∀ a, a < 4 → ∀ b, b < 4 → a ≠ b → (TX2 a).2.1 ≠ (TX2 b).2.1 := by decide +kernel
theorem tyX2_ok : ∀ k, k < 4 → parseFieldDescriptor (TX2 k).2.2.1 = some (tyX2 k) := by decide +kernel
abbrev cX2_init : ByteArray := prog_4_method_1_code
def yX2_init : MethodName := ⟨RX2, "<init>", "()V"⟩
abbrev cX2_faultAsRow : ByteArray := prog_4_method_2_code
def yX2_faultAsRow : MethodName := ⟨RX2, "faultAsRow", "(I)I"⟩
abbrev cX2_takeRow : ByteArray := prog_4_method_3_code
def yX2_takeRow : MethodName := ⟨RX2, "takeRow", "(II)V"⟩
abbrev cX2_hasItem : ByteArray := prog_4_method_4_code
def yX2_hasItem : MethodName := ⟨RX2, "hasItem", "(II)Z"⟩
abbrev cX2_item : ByteArray := prog_4_method_5_code
def yX2_item : MethodName := ⟨RX2, "item", "(II)I"⟩
abbrev cX2_setItem : ByteArray := prog_4_method_6_code
def yX2_setItem : MethodName := ⟨RX2, "setItem", "(III)V"⟩
abbrev cX2_manyHolding : ByteArray := prog_4_method_7_code
def yX2_manyHolding : MethodName := ⟨RX2, "manyHolding", "()I"⟩
def RX3 : String := "RegionHandles$Memory"
def TX3 : u_T := fun k => match k with
  | 0 => ("RegionHandles$Memory", "epoch", "I", false)
  | 1 => ("RegionHandles$Memory", "cells", "[I", true)
  | 2 => ("RegionHandles$Memory", "regions", "LRegionHandles$Regions;", true)
  | 3 => ("RegionHandles$Memory", "ground", "LRegionHandles$Ground;", true)
  | 4 => ("RegionHandles$Memory", "blocks", "LRegionHandles$Blocks;", true)
  | 5 => ("RegionHandles$Memory", "tagOrder", "LRegionHandles$TagOrder;", true)
  | 6 => ("RegionHandles$Memory", "quotas", "[I", true)
  | _ => ("RegionHandles$Memory", "inSince", "[I", true)
def tyX3 : Nat → FieldType := fun k => match k with
  | 0 => .int
  | 1 => .array .int
  | 2 => .object "RegionHandles$Regions"
  | 3 => .object "RegionHandles$Ground"
  | 4 => .object "RegionHandles$Blocks"
  | 5 => .object "RegionHandles$TagOrder"
  | 6 => .array .int
  | _ => .array .int
abbrev wsX30 : List Cond := u_ws RX3 TX3 8
theorem nmX3 : ∀ a, a < 8 → ∀ b, b < 8 → a ≠ b → (TX3 a).2.1 ≠ (TX3 b).2.1 := by decide +kernel
theorem tyX3_ok : ∀ k, k < 8 → parseFieldDescriptor (TX3 k).2.2.1 = some (tyX3 k) := by decide +kernel
abbrev cX3_init : ByteArray := prog_5_method_1_code
def yX3_init : MethodName := ⟨RX3, "<init>", "()V"⟩
abbrev cX3_copyFrom : ByteArray := prog_5_method_2_code
def yX3_copyFrom : MethodName := ⟨RX3, "copyFrom", "(LRegionHandles$Memory;)V"⟩
abbrev cX3_quotaAllows : ByteArray := prog_5_method_3_code
def yX3_quotaAllows : MethodName := ⟨RX3, "quotaAllows", "(II)Z"⟩
abbrev cX3_placeFor : ByteArray := prog_5_method_4_code
def yX3_placeFor : MethodName := ⟨RX3, "placeFor", "(II)I"⟩
abbrev cX3_cellAt : ByteArray := prog_5_method_5_code
def yX3_cellAt : MethodName := ⟨RX3, "cellAt", "(II)I"⟩
abbrev cX3_makeBlock : ByteArray := prog_5_method_6_code
def yX3_makeBlock : MethodName := ⟨RX3, "makeBlock", "(IIIII)V"⟩
abbrev cX3_doom : ByteArray := prog_5_method_7_code
def yX3_doom : MethodName := ⟨RX3, "doom", "(I)V"⟩
abbrev cX3_growInPlace : ByteArray := prog_5_method_8_code
def yX3_growInPlace : MethodName := ⟨RX3, "growInPlace", "(II)Z"⟩
abbrev cX3_growElsewhere : ByteArray := prog_5_method_9_code
def yX3_growElsewhere : MethodName := ⟨RX3, "growElsewhere", "(II)Z"⟩
abbrev cX3_layAt : ByteArray := prog_5_method_10_code
def yX3_layAt : MethodName := ⟨RX3, "layAt", "(II)V"⟩
abbrev cX3_moveWithin : ByteArray := prog_5_method_11_code
def yX3_moveWithin : MethodName := ⟨RX3, "moveWithin", "(II)I"⟩
abbrev cX3_leastBudget : ByteArray := prog_5_method_12_code
def yX3_leastBudget : MethodName := ⟨RX3, "leastBudget", "(II)I"⟩
abbrev cX3_nextToMove : ByteArray := prog_5_method_13_code
def yX3_nextToMove : MethodName := ⟨RX3, "nextToMove", "(I)I"⟩
abbrev cX3_mayMove : ByteArray := prog_5_method_14_code
def yX3_mayMove : MethodName := ⟨RX3, "mayMove", "(I)Z"⟩
abbrev cX3_movedLow : ByteArray := prog_5_method_15_code
def yX3_movedLow : MethodName := ⟨RX3, "movedLow", "(I)I"⟩
abbrev cX3_tagBearer : ByteArray := prog_5_method_16_code
def yX3_tagBearer : MethodName := ⟨RX3, "tagBearer", "(I)I"⟩
abbrev cX3_giveTag : ByteArray := prog_5_method_17_code
def yX3_giveTag : MethodName := ⟨RX3, "giveTag", "(II)V"⟩
abbrev cX3_seenSince : ByteArray := prog_5_method_18_code
def yX3_seenSince : MethodName := ⟨RX3, "seenSince", "(II)Z"⟩
abbrev cX3_isFreeable : ByteArray := prog_5_method_19_code
def yX3_isFreeable : MethodName := ⟨RX3, "isFreeable", "(I)Z"⟩
abbrev cX3_freeable : ByteArray := prog_5_method_20_code
def yX3_freeable : MethodName := ⟨RX3, "freeable", "()I"⟩
abbrev cX3_dropFreeable : ByteArray := prog_5_method_21_code
def yX3_dropFreeable : MethodName := ⟨RX3, "dropFreeable", "()I"⟩
abbrev cX3_earliestReader : ByteArray := prog_5_method_22_code
def yX3_earliestReader : MethodName := ⟨RX3, "earliestReader", "()I"⟩
abbrev cX3_readersIn : ByteArray := prog_5_method_23_code
def yX3_readersIn : MethodName := ⟨RX3, "readersIn", "()I"⟩
def RX4 : String := "RegionHandles$Planned"
def TX4 : u_T := fun k => match k with
  | 0 => ("RegionHandles$Planned", "many", "I", false)
  | 1 => ("RegionHandles$Planned", "low", "[I", true)
  | _ => ("RegionHandles$Planned", "size", "[I", true)
def tyX4 : Nat → FieldType := fun k => match k with
  | 0 => .int
  | 1 => .array .int
  | _ => .array .int
abbrev wsX40 : List Cond := u_ws RX4 TX4 3
theorem nmX4 : ∀ a, a < 3 → ∀ b, b < 3 → a ≠ b → (TX4 a).2.1 ≠ (TX4 b).2.1 := by decide +kernel
theorem tyX4_ok : ∀ k, k < 3 → parseFieldDescriptor (TX4 k).2.2.1 = some (tyX4 k) := by decide +kernel
abbrev cX4_init : ByteArray := prog_6_method_1_code
def yX4_init : MethodName := ⟨RX4, "<init>", "()V"⟩
abbrev cX4_putOn : ByteArray := prog_6_method_2_code
def yX4_putOn : MethodName := ⟨RX4, "putOn", "(LRegionHandles$Ground;II)Z"⟩
abbrev cX4_dropFrom : ByteArray := prog_6_method_3_code
def yX4_dropFrom : MethodName := ⟨RX4, "dropFrom", "(LRegionHandles$Ground;I)Z"⟩
def RX5 : String := "RegionHandles$Regions"
def TX5 : u_T := fun k => match k with
  | 0 => ("RegionHandles$Regions", "many", "I", false)
  | 1 => ("RegionHandles$Regions", "low", "[I", true)
  | 2 => ("RegionHandles$Regions", "size", "[I", true)
  | _ => ("RegionHandles$Regions", "way", "[I", true)
def tyX5 : Nat → FieldType := fun k => match k with
  | 0 => .int
  | 1 => .array .int
  | 2 => .array .int
  | _ => .array .int
abbrev wsX50 : List Cond := u_ws RX5 TX5 4
theorem nmX5 : ∀ a, a < 4 → ∀ b, b < 4 → a ≠ b → (TX5 a).2.1 ≠ (TX5 b).2.1 := by decide +kernel
theorem tyX5_ok : ∀ k, k < 4 → parseFieldDescriptor (TX5 k).2.2.1 = some (tyX5 k) := by decide +kernel
abbrev cX5_init : ByteArray := prog_7_method_1_code
def yX5_init : MethodName := ⟨RX5, "<init>", "()V"⟩
abbrev cX5_has : ByteArray := prog_7_method_2_code
def yX5_has : MethodName := ⟨RX5, "has", "(I)Z"⟩
abbrev cX5_highOf : ByteArray := prog_7_method_3_code
def yX5_highOf : MethodName := ⟨RX5, "highOf", "(I)I"⟩
abbrev cX5_end : ByteArray := prog_7_method_4_code
def yX5_end : MethodName := ⟨RX5, "end", "()I"⟩
abbrev cX5_addNext : ByteArray := prog_7_method_5_code
def yX5_addNext : MethodName := ⟨RX5, "addNext", "(II)I"⟩
abbrev cX5_copyFrom : ByteArray := prog_7_method_6_code
def yX5_copyFrom : MethodName := ⟨RX5, "copyFrom", "(LRegionHandles$Regions;)V"⟩
def RX6 : String := "RegionHandles$TagOrder"
def TX6 : u_T := fun k => match k with
  | 0 => ("RegionHandles$TagOrder", "many", "I", false)
  | _ => ("RegionHandles$TagOrder", "slots", "[I", true)
def tyX6 : Nat → FieldType := fun k => match k with
  | 0 => .int
  | _ => .array .int
abbrev wsX60 : List Cond := u_ws RX6 TX6 2
theorem nmX6 : ∀ a, a < 2 → ∀ b, b < 2 → a ≠ b → (TX6 a).2.1 ≠ (TX6 b).2.1 := by decide +kernel
theorem tyX6_ok : ∀ k, k < 2 → parseFieldDescriptor (TX6 k).2.2.1 = some (tyX6 k) := by decide +kernel
abbrev cX6_init : ByteArray := prog_8_method_1_code
def yX6_init : MethodName := ⟨RX6, "<init>", "()V"⟩
abbrev cX6_slotAt : ByteArray := prog_8_method_2_code
def yX6_slotAt : MethodName := ⟨RX6, "slotAt", "(I)I"⟩
abbrev cX6_addLast : ByteArray := prog_8_method_3_code
def yX6_addLast : MethodName := ⟨RX6, "addLast", "(I)V"⟩
abbrev cX6_drop : ByteArray := prog_8_method_4_code
def yX6_drop : MethodName := ⟨RX6, "drop", "(I)V"⟩
abbrev cX6_copyFrom : ByteArray := prog_8_method_5_code
def yX6_copyFrom : MethodName := ⟨RX6, "copyFrom", "(LRegionHandles$TagOrder;)V"⟩
def RX7 : String := "RegionHandles$Tape"
def TX7 : u_T := fun k => match k with
  | 0 => ("RegionHandles$Tape", "many", "I", false)
  | 1 => ("RegionHandles$Tape", "bytes", "[I", true)
  | 2 => ("RegionHandles$Tape", "at", "I", false)
  | 3 => ("RegionHandles$Tape", "lines", "I", false)
  | 4 => ("RegionHandles$Tape", "letter", "[I", true)
  | _ => ("RegionHandles$Tape", "numbers", "[I", true)
def tyX7 : Nat → FieldType := fun k => match k with
  | 0 => .int
  | 1 => .array .int
  | 2 => .int
  | 3 => .int
  | 4 => .array .int
  | _ => .array .int
abbrev wsX70 : List Cond := u_ws RX7 TX7 6
theorem nmX7 : ∀ a, a < 6 → ∀ b, b < 6 → a ≠ b → (TX7 a).2.1 ≠ (TX7 b).2.1 := by decide +kernel
theorem tyX7_ok : ∀ k, k < 6 → parseFieldDescriptor (TX7 k).2.2.1 = some (tyX7 k) := by decide +kernel
abbrev cX7_init : ByteArray := prog_9_method_1_code
def yX7_init : MethodName := ⟨RX7, "<init>", "()V"⟩
abbrev cX7_append : ByteArray := prog_9_method_2_code
def yX7_append : MethodName := ⟨RX7, "append", "(I)Z"⟩
abbrev cX7_number : ByteArray := prog_9_method_3_code
def yX7_number : MethodName := ⟨RX7, "number", "(II)I"⟩
abbrev cX7_hasForm : ByteArray := prog_9_method_4_code
def yX7_hasForm : MethodName := ⟨RX7, "hasForm", "()Z"⟩
abbrev cX7_readLine : ByteArray := prog_9_method_5_code
def yX7_readLine : MethodName := ⟨RX7, "readLine", "()Z"⟩
abbrev cX7_readSign : ByteArray := prog_9_method_6_code
def yX7_readSign : MethodName := ⟨RX7, "readSign", "(I)Z"⟩
abbrev cX7_readNumber : ByteArray := prog_9_method_7_code
def yX7_readNumber : MethodName := ⟨RX7, "readNumber", "(I)Z"⟩
abbrev cX7_nextByte : ByteArray := prog_9_method_8_code
def yX7_nextByte : MethodName := ⟨RX7, "nextByte", "()I"⟩
abbrev cX7_numbersBehind : ByteArray := prog_9_method_9_code
def yX7_numbersBehind : MethodName := ⟨RX7, "numbersBehind", "(I)I"⟩
def RX8 : String := "RegionHandles$Walk"
def TX8 : u_T := fun k => match k with
  | 0 => ("RegionHandles$Walk", "steps", "[I", true)
  | 1 => ("RegionHandles$Walk", "order", "[I", true)
  | _ => ("RegionHandles$Walk", "come", "I", false)
def tyX8 : Nat → FieldType := fun k => match k with
  | 0 => .array .int
  | 1 => .array .int
  | _ => .int
abbrev wsX80 : List Cond := u_ws RX8 TX8 3
theorem nmX8 : ∀ a, a < 3 → ∀ b, b < 3 → a ≠ b → (TX8 a).2.1 ≠ (TX8 b).2.1 := by decide +kernel
theorem tyX8_ok : ∀ k, k < 3 → parseFieldDescriptor (TX8 k).2.2.1 = some (tyX8 k) := by decide +kernel
abbrev cX8_init : ByteArray := prog_10_method_1_code
def yX8_init : MethodName := ⟨RX8, "<init>", "()V"⟩
abbrev cX8_fromTagsAndPins : ByteArray := prog_10_method_2_code
def yX8_fromTagsAndPins : MethodName := ⟨RX8, "fromTagsAndPins", "(LRegionHandles$Memory;)V"⟩
abbrev cX8_from : ByteArray := prog_10_method_3_code
def yX8_from : MethodName := ⟨RX8, "from", "(LRegionHandles$Memory;I)V"⟩
abbrev cX8_begin : ByteArray := prog_10_method_4_code
def yX8_begin : MethodName := ⟨RX8, "begin", "()V"⟩
abbrev cX8_comeTo : ByteArray := prog_10_method_5_code
def yX8_comeTo : MethodName := ⟨RX8, "comeTo", "(II)V"⟩
abbrev cX8_goOn : ByteArray := prog_10_method_6_code
def yX8_goOn : MethodName := ⟨RX8, "goOn", "(LRegionHandles$Memory;)V"⟩
def RX9 : String := "RegionHandles"
def TX9 : u_T := fun k => match k with
  | 0 => ("RegionHandles", "now", "LRegionHandles$Memory;", true)
  | 1 => ("RegionHandles", "kept", "LRegionHandles$Memory;", true)
  | 2 => ("RegionHandles", "before", "LRegionHandles$Memory;", true)
  | 3 => ("RegionHandles", "thought", "LRegionHandles$Memory;", true)
  | 4 => ("RegionHandles", "walk", "LRegionHandles$Walk;", true)
  | 5 => ("RegionHandles", "planned", "LRegionHandles$Planned;", true)
  | 6 => ("RegionHandles", "tape", "LRegionHandles$Tape;", true)
  | 7 => ("RegionHandles", "holders", "LRegionHandles$Holders;", true)
  | _ => ("RegionHandles", "imageKept", "Z", false)
def tyX9 : Nat → FieldType := fun k => match k with
  | 0 => .object "RegionHandles$Memory"
  | 1 => .object "RegionHandles$Memory"
  | 2 => .object "RegionHandles$Memory"
  | 3 => .object "RegionHandles$Memory"
  | 4 => .object "RegionHandles$Walk"
  | 5 => .object "RegionHandles$Planned"
  | 6 => .object "RegionHandles$Tape"
  | 7 => .object "RegionHandles$Holders"
  | _ => .boolean
abbrev wsX90 : List Cond := u_ws RX9 TX9 9
theorem nmX9 : ∀ a, a < 9 → ∀ b, b < 9 → a ≠ b → (TX9 a).2.1 ≠ (TX9 b).2.1 := by decide +kernel
theorem tyX9_ok : ∀ k, k < 9 → parseFieldDescriptor (TX9 k).2.2.1 = some (tyX9 k) := by decide +kernel
abbrev cX9_init : ByteArray := prog_1_method_1_code
def yX9_init : MethodName := ⟨RX9, "<init>", "()V"⟩
abbrev cX9_region : ByteArray := prog_1_method_2_code
def yX9_region : MethodName := ⟨RX9, "region", "(II)I"⟩
abbrev cX9_block : ByteArray := prog_1_method_3_code
def yX9_block : MethodName := ⟨RX9, "block", "(III)I"⟩
abbrev cX9_free : ByteArray := prog_1_method_4_code
def yX9_free : MethodName := ⟨RX9, "free", "(I)I"⟩
abbrev cX9_pin : ByteArray := prog_1_method_5_code
def yX9_pin : MethodName := ⟨RX9, "pin", "(II)I"⟩
abbrev cX9_grow : ByteArray := prog_1_method_6_code
def yX9_grow : MethodName := ⟨RX9, "grow", "(II)I"⟩
abbrev cX9_moves : ByteArray := prog_1_method_7_code
def yX9_moves : MethodName := ⟨RX9, "moves", "(II)I"⟩
abbrev cX9_write : ByteArray := prog_1_method_8_code
def yX9_write : MethodName := ⟨RX9, "write", "(III)I"⟩
abbrev cX9_read : ByteArray := prog_1_method_9_code
def yX9_read : MethodName := ⟨RX9, "read", "(II)I"⟩
abbrev cX9_peek : ByteArray := prog_1_method_10_code
def yX9_peek : MethodName := ⟨RX9, "peek", "(III)I"⟩
abbrev cX9_of : ByteArray := prog_1_method_11_code
def yX9_of : MethodName := ⟨RX9, "of", "(II)I"⟩
abbrev cX9_slot : ByteArray := prog_1_method_12_code
def yX9_slot : MethodName := ⟨RX9, "slot", "(II)I"⟩
abbrev cX9_lies : ByteArray := prog_1_method_13_code
def yX9_lies : MethodName := ⟨RX9, "lies", "(I)I"⟩
abbrev cX9_tag : ByteArray := prog_1_method_14_code
def yX9_tag : MethodName := ⟨RX9, "tag", "(II)I"⟩
abbrev cX9_find : ByteArray := prog_1_method_15_code
def yX9_find : MethodName := ⟨RX9, "find", "(I)I"⟩
abbrev cX9_tagged : ByteArray := prog_1_method_16_code
def yX9_tagged : MethodName := ⟨RX9, "tagged", "(I)I"⟩
abbrev cX9_quota : ByteArray := prog_1_method_17_code
def yX9_quota : MethodName := ⟨RX9, "quota", "(II)I"⟩
abbrev cX9_owner : ByteArray := prog_1_method_18_code
def yX9_owner : MethodName := ⟨RX9, "owner", "(II)I"⟩
abbrev cX9_enter : ByteArray := prog_1_method_19_code
def yX9_enter : MethodName := ⟨RX9, "enter", "(I)I"⟩
abbrev cX9_leave : ByteArray := prog_1_method_20_code
def yX9_leave : MethodName := ⟨RX9, "leave", "(I)I"⟩
abbrev cX9_advance : ByteArray := prog_1_method_21_code
def yX9_advance : MethodName := ⟨RX9, "advance", "()I"⟩
abbrev cX9_would : ByteArray := prog_1_method_22_code
def yX9_would : MethodName := ⟨RX9, "would", "(III)I"⟩
abbrev cX9_least : ByteArray := prog_1_method_23_code
def yX9_least : MethodName := ⟨RX9, "least", "(II)I"⟩
abbrev cX9_leaked : ByteArray := prog_1_method_24_code
def yX9_leaked : MethodName := ⟨RX9, "leaked", "(I)I"⟩
abbrev cX9_path : ByteArray := prog_1_method_25_code
def yX9_path : MethodName := ⟨RX9, "path", "(II)I"⟩
abbrev cX9_epochs : ByteArray := prog_1_method_26_code
def yX9_epochs : MethodName := ⟨RX9, "epochs", "(I)I"⟩
abbrev cX9_plan : ByteArray := prog_1_method_27_code
def yX9_plan : MethodName := ⟨RX9, "plan", "(II)I"⟩
abbrev cX9_told : ByteArray := prog_1_method_28_code
def yX9_told : MethodName := ⟨RX9, "told", "(II)I"⟩
abbrev cX9_feed : ByteArray := prog_1_method_29_code
def yX9_feed : MethodName := ⟨RX9, "feed", "(I)I"⟩
abbrev cX9_script : ByteArray := prog_1_method_30_code
def yX9_script : MethodName := ⟨RX9, "script", "()I"⟩
abbrev cX9_image : ByteArray := prog_1_method_31_code
def yX9_image : MethodName := ⟨RX9, "image", "()I"⟩
abbrev cX9_back : ByteArray := prog_1_method_32_code
def yX9_back : MethodName := ⟨RX9, "back", "()I"⟩
abbrev cX9_hold : ByteArray := prog_1_method_33_code
def yX9_hold : MethodName := ⟨RX9, "hold", "(II)I"⟩
abbrev cX9_row : ByteArray := prog_1_method_34_code
def yX9_row : MethodName := ⟨RX9, "row", "(II)I"⟩
abbrev cX9_put : ByteArray := prog_1_method_35_code
def yX9_put : MethodName := ⟨RX9, "put", "(III)I"⟩
abbrev cX9_tells : ByteArray := prog_1_method_36_code
def yX9_tells : MethodName := ⟨RX9, "tells", "(II)I"⟩
abbrev cX9_count : ByteArray := prog_1_method_37_code
def yX9_count : MethodName := ⟨RX9, "count", "(I)I"⟩
abbrev cX9_isBlockLength : ByteArray := prog_1_method_38_code
def yX9_isBlockLength : MethodName := ⟨RX9, "isBlockLength", "(I)Z"⟩
abbrev cX9_isOwner : ByteArray := prog_1_method_39_code
def yX9_isOwner : MethodName := ⟨RX9, "isOwner", "(I)Z"⟩
abbrev cX9_isReader : ByteArray := prog_1_method_40_code
def yX9_isReader : MethodName := ⟨RX9, "isReader", "(I)Z"⟩
abbrev cX9_isHolder : ByteArray := prog_1_method_41_code
def yX9_isHolder : MethodName := ⟨RX9, "isHolder", "(I)Z"⟩
abbrev cX9_isTag : ByteArray := prog_1_method_42_code
def yX9_isTag : MethodName := ⟨RX9, "isTag", "(I)Z"⟩
abbrev cX9_notIfNone : ByteArray := prog_1_method_43_code
def yX9_notIfNone : MethodName := ⟨RX9, "notIfNone", "(I)I"⟩
abbrev cX9_copyAll : ByteArray := prog_1_method_44_code
def yX9_copyAll : MethodName := ⟨RX9, "copyAll", "([I[I)V"⟩
abbrev cX9_fill : ByteArray := prog_1_method_45_code
def yX9_fill : MethodName := ⟨RX9, "fill", "([IIII)V"⟩
abbrev cX9_isLeaked : ByteArray := prog_1_method_46_code
def yX9_isLeaked : MethodName := ⟨RX9, "isLeaked", "(I)Z"⟩
abbrev cX9_leakedCellsOf : ByteArray := prog_1_method_47_code
def yX9_leakedCellsOf : MethodName := ⟨RX9, "leakedCellsOf", "(I)I"⟩
abbrev cX9_takenFor : ByteArray := prog_1_method_48_code
def yX9_takenFor : MethodName := ⟨RX9, "takenFor", "(II)I"⟩
abbrev cX9_planElement : ByteArray := prog_1_method_49_code
def yX9_planElement : MethodName := ⟨RX9, "planElement", "(II)Z"⟩
abbrev cX9_doLine : ByteArray := prog_1_method_50_code
def yX9_doLine : MethodName := ⟨RX9, "doLine", "(I)I"⟩
abbrev cX9_tagByLine : ByteArray := prog_1_method_51_code
def yX9_tagByLine : MethodName := ⟨RX9, "tagByLine", "(III)I"⟩
def RX10 : String := "RegionHandlesModel"
def TX10 : u_T := fun k => match k with
  | 0 => ("RegionHandlesModel", "g", "[I", true)
  | 1 => ("RegionHandlesModel", "saved", "[I", true)
  | 2 => ("RegionHandlesModel", "whole", "[I", true)
  | 3 => ("RegionHandlesModel", "kept", "[I", true)
  | 4 => ("RegionHandlesModel", "isKept", "Z", false)
  | 5 => ("RegionHandlesModel", "lain", "[I", true)
  | 6 => ("RegionHandlesModel", "content", "[I", true)
  | 7 => ("RegionHandlesModel", "planned", "[I", true)
  | 8 => ("RegionHandlesModel", "ways", "[I", true)
  | 9 => ("RegionHandlesModel", "queue", "[I", true)
  | 10 => ("RegionHandlesModel", "tape", "[I", true)
  | 11 => ("RegionHandlesModel", "tapeMany", "I", false)
  | 12 => ("RegionHandlesModel", "held", "[I", true)
  | 13 => ("RegionHandlesModel", "heldHandle", "[I", true)
  | 14 => ("RegionHandlesModel", "rowSize", "[I", true)
  | 15 => ("RegionHandlesModel", "rows", "[[I", true)
  | 16 => ("RegionHandlesModel", "spot", "I", false)
  | 17 => ("RegionHandlesModel", "fault", "I", false)
  | _ => ("RegionHandlesModel", "numbers", "[I", true)
def tyX10 : Nat → FieldType := fun k => match k with
  | 0 => .array .int
  | 1 => .array .int
  | 2 => .array .int
  | 3 => .array .int
  | 4 => .boolean
  | 5 => .array .int
  | 6 => .array .int
  | 7 => .array .int
  | 8 => .array .int
  | 9 => .array .int
  | 10 => .array .int
  | 11 => .int
  | 12 => .array .int
  | 13 => .array .int
  | 14 => .array .int
  | 15 => .array (.array .int)
  | 16 => .int
  | 17 => .int
  | _ => .array .int
abbrev wsX100 : List Cond := u_ws RX10 TX10 19
theorem nmX10 : ∀ a, a < 19 → ∀ b, b < 19 → a ≠ b → (TX10 a).2.1 ≠ (TX10 b).2.1 := by decide +kernel
theorem tyX10_ok : ∀ k, k < 19 → parseFieldDescriptor (TX10 k).2.2.1 = some (tyX10 k) := by decide +kernel
abbrev cX10_init : ByteArray := prog_12_method_1_code
def yX10_init : MethodName := ⟨RX10, "<init>", "()V"⟩
abbrev cX10_in : ByteArray := prog_12_method_2_code
def yX10_in : MethodName := ⟨RX10, "in", "(III)Z"⟩
abbrev cX10_take : ByteArray := prog_12_method_3_code
def yX10_take : MethodName := ⟨RX10, "take", "([I[I)V"⟩
abbrev cX10_at : ByteArray := prog_12_method_4_code
def yX10_at : MethodName := ⟨RX10, "at", "(II)I"⟩
abbrev cX10_sets : ByteArray := prog_12_method_5_code
def yX10_sets : MethodName := ⟨RX10, "sets", "(III)V"⟩
abbrev cX10_isLive : ByteArray := prog_12_method_6_code
def yX10_isLive : MethodName := ⟨RX10, "isLive", "(I)Z"⟩
abbrev cX10_handleOf : ByteArray := prog_12_method_7_code
def yX10_handleOf : MethodName := ⟨RX10, "handleOf", "(I)I"⟩
abbrev cX10_good : ByteArray := prog_12_method_8_code
def yX10_good : MethodName := ⟨RX10, "good", "(I)I"⟩
abbrev cX10_isRegion : ByteArray := prog_12_method_9_code
def yX10_isRegion : MethodName := ⟨RX10, "isRegion", "(I)Z"⟩
abbrev cX10_laid : ByteArray := prog_12_method_10_code
def yX10_laid : MethodName := ⟨RX10, "laid", "()V"⟩
abbrev cX10_end : ByteArray := prog_12_method_11_code
def yX10_end : MethodName := ⟨RX10, "end", "(I)I"⟩
abbrev cX10_placed : ByteArray := prog_12_method_12_code
def yX10_placed : MethodName := ⟨RX10, "placed", "(II)I"⟩
abbrev cX10_used : ByteArray := prog_12_method_13_code
def yX10_used : MethodName := ⟨RX10, "used", "(I)I"⟩
abbrev cX10_freeSlot : ByteArray := prog_12_method_14_code
def yX10_freeSlot : MethodName := ⟨RX10, "freeSlot", "()I"⟩
abbrev cX10_region : ByteArray := prog_12_method_15_code
def yX10_region : MethodName := ⟨RX10, "region", "(II)I"⟩
abbrev cX10_block : ByteArray := prog_12_method_16_code
def yX10_block : MethodName := ⟨RX10, "block", "(III)I"⟩
abbrev cX10_free : ByteArray := prog_12_method_17_code
def yX10_free : MethodName := ⟨RX10, "free", "(I)I"⟩
abbrev cX10_pin : ByteArray := prog_12_method_18_code
def yX10_pin : MethodName := ⟨RX10, "pin", "(II)I"⟩
abbrev cX10_goes : ByteArray := prog_12_method_19_code
def yX10_goes : MethodName := ⟨RX10, "goes", "(II)V"⟩
abbrev cX10_isFreeBehind : ByteArray := prog_12_method_20_code
def yX10_isFreeBehind : MethodName := ⟨RX10, "isFreeBehind", "(II)Z"⟩
abbrev cX10_grow : ByteArray := prog_12_method_21_code
def yX10_grow : MethodName := ⟨RX10, "grow", "(II)I"⟩
abbrev cX10_nextBlock : ByteArray := prog_12_method_22_code
def yX10_nextBlock : MethodName := ⟨RX10, "nextBlock", "(IIZ)I"⟩
abbrev cX10_moved : ByteArray := prog_12_method_23_code
def yX10_moved : MethodName := ⟨RX10, "moved", "(II)I"⟩
abbrev cX10_moves : ByteArray := prog_12_method_24_code
def yX10_moves : MethodName := ⟨RX10, "moves", "(II)I"⟩
abbrev cX10_write : ByteArray := prog_12_method_25_code
def yX10_write : MethodName := ⟨RX10, "write", "(III)I"⟩
abbrev cX10_cellOf : ByteArray := prog_12_method_26_code
def yX10_cellOf : MethodName := ⟨RX10, "cellOf", "(II)I"⟩
abbrev cX10_read : ByteArray := prog_12_method_27_code
def yX10_read : MethodName := ⟨RX10, "read", "(II)I"⟩
abbrev cX10_peek : ByteArray := prog_12_method_28_code
def yX10_peek : MethodName := ⟨RX10, "peek", "(III)I"⟩
abbrev cX10_of : ByteArray := prog_12_method_29_code
def yX10_of : MethodName := ⟨RX10, "of", "(II)I"⟩
abbrev cX10_slot : ByteArray := prog_12_method_30_code
def yX10_slot : MethodName := ⟨RX10, "slot", "(II)I"⟩
abbrev cX10_lies : ByteArray := prog_12_method_31_code
def yX10_lies : MethodName := ⟨RX10, "lies", "(I)I"⟩
abbrev cX10_tagsMany : ByteArray := prog_12_method_32_code
def yX10_tagsMany : MethodName := ⟨RX10, "tagsMany", "()I"⟩
abbrev cX10_taggedBy : ByteArray := prog_12_method_33_code
def yX10_taggedBy : MethodName := ⟨RX10, "taggedBy", "(I)I"⟩
abbrev cX10_tag : ByteArray := prog_12_method_34_code
def yX10_tag : MethodName := ⟨RX10, "tag", "(II)I"⟩
abbrev cX10_find : ByteArray := prog_12_method_35_code
def yX10_find : MethodName := ⟨RX10, "find", "(I)I"⟩
abbrev cX10_tagged : ByteArray := prog_12_method_36_code
def yX10_tagged : MethodName := ⟨RX10, "tagged", "(I)I"⟩
abbrev cX10_quota : ByteArray := prog_12_method_37_code
def yX10_quota : MethodName := ⟨RX10, "quota", "(II)I"⟩
abbrev cX10_liveMany : ByteArray := prog_12_method_38_code
def yX10_liveMany : MethodName := ⟨RX10, "liveMany", "(I)I"⟩
abbrev cX10_owner : ByteArray := prog_12_method_39_code
def yX10_owner : MethodName := ⟨RX10, "owner", "(II)I"⟩
abbrev cX10_enter : ByteArray := prog_12_method_40_code
def yX10_enter : MethodName := ⟨RX10, "enter", "(I)I"⟩
abbrev cX10_leave : ByteArray := prog_12_method_41_code
def yX10_leave : MethodName := ⟨RX10, "leave", "(I)I"⟩
abbrev cX10_isSeen : ByteArray := prog_12_method_42_code
def yX10_isSeen : MethodName := ⟨RX10, "isSeen", "(I)Z"⟩
abbrev cX10_freeable : ByteArray := prog_12_method_43_code
def yX10_freeable : MethodName := ⟨RX10, "freeable", "()I"⟩
abbrev cX10_advance : ByteArray := prog_12_method_44_code
def yX10_advance : MethodName := ⟨RX10, "advance", "()I"⟩
abbrev cX10_freeIn : ByteArray := prog_12_method_45_code
def yX10_freeIn : MethodName := ⟨RX10, "freeIn", "(II)I"⟩
abbrev cX10_would : ByteArray := prog_12_method_46_code
def yX10_would : MethodName := ⟨RX10, "would", "(III)I"⟩
abbrev cX10_least : ByteArray := prog_12_method_47_code
def yX10_least : MethodName := ⟨RX10, "least", "(II)I"⟩
abbrev cX10_holds : ByteArray := prog_12_method_48_code
def yX10_holds : MethodName := ⟨RX10, "holds", "(II)Z"⟩
abbrev cX10_leakedOnes : ByteArray := prog_12_method_49_code
def yX10_leakedOnes : MethodName := ⟨RX10, "leakedOnes", "()I"⟩
abbrev cX10_leaked : ByteArray := prog_12_method_50_code
def yX10_leaked : MethodName := ⟨RX10, "leaked", "(I)I"⟩
abbrev cX10_path : ByteArray := prog_12_method_51_code
def yX10_path : MethodName := ⟨RX10, "path", "(II)I"⟩
abbrev cX10_epochs : ByteArray := prog_12_method_52_code
def yX10_epochs : MethodName := ⟨RX10, "epochs", "(I)I"⟩
abbrev cX10_isHolder : ByteArray := prog_12_method_53_code
def yX10_isHolder : MethodName := ⟨RX10, "isHolder", "(I)Z"⟩
abbrev cX10_fills : ByteArray := prog_12_method_54_code
def yX10_fills : MethodName := ⟨RX10, "fills", "(III)V"⟩
abbrev cX10_plan : ByteArray := prog_12_method_55_code
def yX10_plan : MethodName := ⟨RX10, "plan", "(II)I"⟩
abbrev cX10_told : ByteArray := prog_12_method_56_code
def yX10_told : MethodName := ⟨RX10, "told", "(II)I"⟩
abbrev cX10_feed : ByteArray := prog_12_method_57_code
def yX10_feed : MethodName := ⟨RX10, "feed", "(I)I"⟩
abbrev cX10_sees : ByteArray := prog_12_method_58_code
def yX10_sees : MethodName := ⟨RX10, "sees", "(II)Z"⟩
abbrev cX10_must : ByteArray := prog_12_method_59_code
def yX10_must : MethodName := ⟨RX10, "must", "(II)I"⟩
abbrev cX10_number : ByteArray := prog_12_method_60_code
def yX10_number : MethodName := ⟨RX10, "number", "()I"⟩
abbrev cX10_manyOf : ByteArray := prog_12_method_61_code
def yX10_manyOf : MethodName := ⟨RX10, "manyOf", "(I)I"⟩
abbrev cX10_line : ByteArray := prog_12_method_62_code
def yX10_line : MethodName := ⟨RX10, "line", "()I"⟩
abbrev cX10_isForm : ByteArray := prog_12_method_63_code
def yX10_isForm : MethodName := ⟨RX10, "isForm", "()Z"⟩
abbrev cX10_goodOf : ByteArray := prog_12_method_64_code
def yX10_goodOf : MethodName := ⟨RX10, "goodOf", "(I)I"⟩
abbrev cX10_does : ByteArray := prog_12_method_65_code
def yX10_does : MethodName := ⟨RX10, "does", "(I)I"⟩
abbrev cX10_script : ByteArray := prog_12_method_66_code
def yX10_script : MethodName := ⟨RX10, "script", "()I"⟩
abbrev cX10_image : ByteArray := prog_12_method_67_code
def yX10_image : MethodName := ⟨RX10, "image", "()I"⟩
abbrev cX10_back : ByteArray := prog_12_method_68_code
def yX10_back : MethodName := ⟨RX10, "back", "()I"⟩
abbrev cX10_hold : ByteArray := prog_12_method_69_code
def yX10_hold : MethodName := ⟨RX10, "hold", "(II)I"⟩
abbrev cX10_row : ByteArray := prog_12_method_70_code
def yX10_row : MethodName := ⟨RX10, "row", "(II)I"⟩
abbrev cX10_put : ByteArray := prog_12_method_71_code
def yX10_put : MethodName := ⟨RX10, "put", "(III)I"⟩
abbrev cX10_tells : ByteArray := prog_12_method_72_code
def yX10_tells : MethodName := ⟨RX10, "tells", "(II)I"⟩
abbrev cX10_count : ByteArray := prog_12_method_73_code
def yX10_count : MethodName := ⟨RX10, "count", "(I)I"⟩
def RJ9 : String := "java/lang/Math"
def TJ9 : u_T := fun k => match k with
  | _ => ("", "", "", false)
def tyJ9 : Nat → FieldType := fun k => match k with
  | _ => .int
abbrev wsJ90 : List Cond := u_ws RJ9 TJ9 0
theorem nmJ9 : ∀ a, a < 0 → ∀ b, b < 0 → a ≠ b → (TJ9 a).2.1 ≠ (TJ9 b).2.1 := by decide +kernel
theorem tyJ9_ok : ∀ k, k < 0 → parseFieldDescriptor (TJ9 k).2.2.1 = some (tyJ9 k) := by decide +kernel
abbrev cJ9_max_7cf53 : ByteArray := prog_13_method_65_code
def yJ9_max_7cf53 : MethodName := ⟨RJ9, "max", "(II)I"⟩
abbrev cJ9_min_7cf53 : ByteArray := prog_13_method_69_code
def yJ9_min_7cf53 : MethodName := ⟨RJ9, "min", "(II)I"⟩
def RJ10 : String := "java/lang/System"
def TJ10 : u_T := fun k => match k with
  | _ => ("", "", "", false)
def tyJ10 : Nat → FieldType := fun k => match k with
  | _ => .int
abbrev wsJ100 : List Cond := u_ws RJ10 TJ10 0
theorem nmJ10 : ∀ a, a < 0 → ∀ b, b < 0 → a ≠ b → (TJ10 a).2.1 ≠ (TJ10 b).2.1 := by decide +kernel
theorem tyJ10_ok : ∀ k, k < 0 → parseFieldDescriptor (TJ10 k).2.2.1 = some (tyJ10 k) := by decide +kernel
def RL : String := "RegionHandlesLaw"
abbrev cL_law : ByteArray := code
def yL_law : MethodName := ⟨RL, "law", "([I)Z"⟩
abbrev vwCl : List vw_C := [(RX0, TX0, 9), (RX1, TX1, 1), (RX2, TX2, 4), (RX3, TX3, 8), (RX4, TX4, 3), (RX5, TX5, 4), (RX6, TX6, 2), (RX7, TX7, 6), (RX8, TX8, 3), (RX9, TX9, 9), (RX10, TX10, 19)]
end
section
theorem dX0_init_0 : decode cX0_init 0 = .ok (.aload_n 0, 1) := by decide +kernel
theorem dX0_init_1 : decode cX0_init 1 = .ok (.invokespecial 3, 3) := by decide +kernel
theorem dX0_init_4 : decode cX0_init 4 = .ok (.aload_n 0, 1) := by decide +kernel
theorem dX0_init_5 : decode cX0_init 5 = .ok (.bipush 30, 2) := by decide +kernel
theorem dX0_init_7 : decode cX0_init 7 = .ok (.newarray .int, 2) := by decide +kernel
theorem dX0_init_9 : decode cX0_init 9 = .ok (.putfield 9, 3) := by decide +kernel
theorem dX0_init_12 : decode cX0_init 12 = .ok (.aload_n 0, 1) := by decide +kernel
theorem dX0_init_13 : decode cX0_init 13 = .ok (.bipush 30, 2) := by decide +kernel
theorem dX0_init_15 : decode cX0_init 15 = .ok (.newarray .int, 2) := by decide +kernel
theorem dX0_init_17 : decode cX0_init 17 = .ok (.putfield 15, 3) := by decide +kernel
theorem dX0_init_20 : decode cX0_init 20 = .ok (.aload_n 0, 1) := by decide +kernel
theorem dX0_init_21 : decode cX0_init 21 = .ok (.bipush 30, 2) := by decide +kernel
theorem dX0_init_23 : decode cX0_init 23 = .ok (.newarray .int, 2) := by decide +kernel
theorem dX0_init_25 : decode cX0_init 25 = .ok (.putfield 18, 3) := by decide +kernel
theorem dX0_init_28 : decode cX0_init 28 = .ok (.aload_n 0, 1) := by decide +kernel
theorem dX0_init_29 : decode cX0_init 29 = .ok (.bipush 30, 2) := by decide +kernel
theorem dX0_init_31 : decode cX0_init 31 = .ok (.newarray .int, 2) := by decide +kernel
theorem dX0_init_33 : decode cX0_init 33 = .ok (.putfield 21, 3) := by decide +kernel
theorem dX0_init_36 : decode cX0_init 36 = .ok (.aload_n 0, 1) := by decide +kernel
theorem dX0_init_37 : decode cX0_init 37 = .ok (.bipush 30, 2) := by decide +kernel
theorem dX0_init_39 : decode cX0_init 39 = .ok (.newarray .int, 2) := by decide +kernel
theorem dX0_init_41 : decode cX0_init 41 = .ok (.putfield 24, 3) := by decide +kernel
theorem dX0_init_44 : decode cX0_init 44 = .ok (.aload_n 0, 1) := by decide +kernel
theorem dX0_init_45 : decode cX0_init 45 = .ok (.bipush 30, 2) := by decide +kernel
theorem dX0_init_47 : decode cX0_init 47 = .ok (.newarray .int, 2) := by decide +kernel
theorem dX0_init_49 : decode cX0_init 49 = .ok (.putfield 27, 3) := by decide +kernel
theorem dX0_init_52 : decode cX0_init 52 = .ok (.aload_n 0, 1) := by decide +kernel
theorem dX0_init_53 : decode cX0_init 53 = .ok (.bipush 30, 2) := by decide +kernel
theorem dX0_init_55 : decode cX0_init 55 = .ok (.newarray .int, 2) := by decide +kernel
theorem dX0_init_57 : decode cX0_init 57 = .ok (.putfield 30, 3) := by decide +kernel
theorem dX0_init_60 : decode cX0_init 60 = .ok (.aload_n 0, 1) := by decide +kernel
theorem dX0_init_61 : decode cX0_init 61 = .ok (.bipush 30, 2) := by decide +kernel
theorem dX0_init_63 : decode cX0_init 63 = .ok (.newarray .int, 2) := by decide +kernel
theorem dX0_init_65 : decode cX0_init 65 = .ok (.putfield 33, 3) := by decide +kernel
theorem dX0_init_68 : decode cX0_init 68 = .ok (.aload_n 0, 1) := by decide +kernel
theorem dX0_init_69 : decode cX0_init 69 = .ok (.bipush 30, 2) := by decide +kernel
theorem dX0_init_71 : decode cX0_init 71 = .ok (.newarray .int, 2) := by decide +kernel
theorem dX0_init_73 : decode cX0_init 73 = .ok (.putfield 36, 3) := by decide +kernel
theorem dX0_init_76 : decode cX0_init 76 = .ok (.return_, 1) := by decide +kernel
theorem dX0_leastUnusedSlot_0 : decode cX0_leastUnusedSlot 0 = .ok (.iconst 0, 1) := by decide +kernel
theorem dX0_leastUnusedSlot_1 : decode cX0_leastUnusedSlot 1 = .ok (.istore_n 1, 1) := by decide +kernel
theorem dX0_leastUnusedSlot_2 : decode cX0_leastUnusedSlot 2 = .ok (.iload_n 1, 1) := by decide +kernel
theorem dX0_leastUnusedSlot_3 : decode cX0_leastUnusedSlot 3 = .ok (.bipush 30, 2) := by decide +kernel
theorem dX0_leastUnusedSlot_5 : decode cX0_leastUnusedSlot 5 = .ok (.if_icmp .ge 20, 3) := by decide +kernel
theorem dX0_leastUnusedSlot_8 : decode cX0_leastUnusedSlot 8 = .ok (.aload_n 0, 1) := by decide +kernel
theorem dX0_leastUnusedSlot_9 : decode cX0_leastUnusedSlot 9 = .ok (.getfield 15, 3) := by decide +kernel
theorem dX0_leastUnusedSlot_12 : decode cX0_leastUnusedSlot 12 = .ok (.iload_n 1, 1) := by decide +kernel
theorem dX0_leastUnusedSlot_13 : decode cX0_leastUnusedSlot 13 = .ok (.iaload, 1) := by decide +kernel
theorem dX0_leastUnusedSlot_14 : decode cX0_leastUnusedSlot 14 = .ok (.ifCond .ne 5, 3) := by decide +kernel
theorem dX0_leastUnusedSlot_17 : decode cX0_leastUnusedSlot 17 = .ok (.iload_n 1, 1) := by decide +kernel
theorem dX0_leastUnusedSlot_18 : decode cX0_leastUnusedSlot 18 = .ok (.ireturn, 1) := by decide +kernel
theorem dX0_leastUnusedSlot_19 : decode cX0_leastUnusedSlot 19 = .ok (.iinc 1 1, 3) := by decide +kernel
theorem dX0_leastUnusedSlot_22 : decode cX0_leastUnusedSlot 22 = .ok (.goto (-20), 3) := by decide +kernel
theorem dX0_leastUnusedSlot_25 : decode cX0_leastUnusedSlot 25 = .ok (.iconst (-1), 1) := by decide +kernel
theorem dX0_leastUnusedSlot_26 : decode cX0_leastUnusedSlot 26 = .ok (.ireturn, 1) := by decide +kernel
theorem dX0_handleOf_0 : decode cX0_handleOf 0 = .ok (.bipush 100, 2) := by decide +kernel
theorem dX0_handleOf_2 : decode cX0_handleOf 2 = .ok (.aload_n 0, 1) := by decide +kernel
theorem dX0_handleOf_3 : decode cX0_handleOf 3 = .ok (.getfield 9, 3) := by decide +kernel
theorem dX0_handleOf_6 : decode cX0_handleOf 6 = .ok (.iload_n 1, 1) := by decide +kernel
theorem dX0_handleOf_7 : decode cX0_handleOf 7 = .ok (.iaload, 1) := by decide +kernel
theorem dX0_handleOf_8 : decode cX0_handleOf 8 = .ok (.imul, 1) := by decide +kernel
theorem dX0_handleOf_9 : decode cX0_handleOf 9 = .ok (.iload_n 1, 1) := by decide +kernel
theorem dX0_handleOf_10 : decode cX0_handleOf 10 = .ok (.iadd, 1) := by decide +kernel
theorem dX0_handleOf_11 : decode cX0_handleOf 11 = .ok (.ireturn, 1) := by decide +kernel
theorem dX0_liveHandleOf_0 : decode cX0_liveHandleOf 0 = .ok (.iload_n 1, 1) := by decide +kernel
theorem dX0_liveHandleOf_1 : decode cX0_liveHandleOf 1 = .ok (.ifCond .lt 19, 3) := by decide +kernel
theorem dX0_liveHandleOf_4 : decode cX0_liveHandleOf 4 = .ok (.iload_n 1, 1) := by decide +kernel
theorem dX0_liveHandleOf_5 : decode cX0_liveHandleOf 5 = .ok (.bipush 30, 2) := by decide +kernel
theorem dX0_liveHandleOf_7 : decode cX0_liveHandleOf 7 = .ok (.if_icmp .ge 13, 3) := by decide +kernel
theorem dX0_liveHandleOf_10 : decode cX0_liveHandleOf 10 = .ok (.aload_n 0, 1) := by decide +kernel
theorem dX0_liveHandleOf_11 : decode cX0_liveHandleOf 11 = .ok (.getfield 15, 3) := by decide +kernel
theorem dX0_liveHandleOf_14 : decode cX0_liveHandleOf 14 = .ok (.iload_n 1, 1) := by decide +kernel
theorem dX0_liveHandleOf_15 : decode cX0_liveHandleOf 15 = .ok (.iaload, 1) := by decide +kernel
theorem dX0_liveHandleOf_16 : decode cX0_liveHandleOf 16 = .ok (.iconst 1, 1) := by decide +kernel
theorem dX0_liveHandleOf_17 : decode cX0_liveHandleOf 17 = .ok (.if_icmp .eq 5, 3) := by decide +kernel
theorem dX0_liveHandleOf_20 : decode cX0_liveHandleOf 20 = .ok (.iconst (-1), 1) := by decide +kernel
theorem dX0_liveHandleOf_21 : decode cX0_liveHandleOf 21 = .ok (.ireturn, 1) := by decide +kernel
theorem dX0_liveHandleOf_22 : decode cX0_liveHandleOf 22 = .ok (.aload_n 0, 1) := by decide +kernel
theorem dX0_liveHandleOf_23 : decode cX0_liveHandleOf 23 = .ok (.iload_n 1, 1) := by decide +kernel
theorem dX0_liveHandleOf_24 : decode cX0_liveHandleOf 24 = .ok (.invokevirtual 39, 3) := by decide +kernel
theorem dX0_liveHandleOf_27 : decode cX0_liveHandleOf 27 = .ok (.ireturn, 1) := by decide +kernel
theorem dX0_slotOf_0 : decode cX0_slotOf 0 = .ok (.iload_n 1, 1) := by decide +kernel
theorem dX0_slotOf_1 : decode cX0_slotOf 1 = .ok (.ifCond .ge 5, 3) := by decide +kernel
theorem dX0_slotOf_4 : decode cX0_slotOf 4 = .ok (.iconst (-1), 1) := by decide +kernel
theorem dX0_slotOf_5 : decode cX0_slotOf 5 = .ok (.ireturn, 1) := by decide +kernel
theorem dX0_slotOf_6 : decode cX0_slotOf 6 = .ok (.iload_n 1, 1) := by decide +kernel
theorem dX0_slotOf_7 : decode cX0_slotOf 7 = .ok (.bipush 100, 2) := by decide +kernel
theorem dX0_slotOf_9 : decode cX0_slotOf 9 = .ok (.irem, 1) := by decide +kernel
theorem dX0_slotOf_10 : decode cX0_slotOf 10 = .ok (.istore_n 2, 1) := by decide +kernel
theorem dX0_slotOf_11 : decode cX0_slotOf 11 = .ok (.iload_n 2, 1) := by decide +kernel
theorem dX0_slotOf_12 : decode cX0_slotOf 12 = .ok (.bipush 30, 2) := by decide +kernel
theorem dX0_slotOf_14 : decode cX0_slotOf 14 = .ok (.if_icmp .ge 12, 3) := by decide +kernel
theorem dX0_slotOf_17 : decode cX0_slotOf 17 = .ok (.aload_n 0, 1) := by decide +kernel
theorem dX0_slotOf_18 : decode cX0_slotOf 18 = .ok (.getfield 15, 3) := by decide +kernel
theorem dX0_slotOf_21 : decode cX0_slotOf 21 = .ok (.iload_n 2, 1) := by decide +kernel
theorem dX0_slotOf_22 : decode cX0_slotOf 22 = .ok (.iaload, 1) := by decide +kernel
theorem dX0_slotOf_23 : decode cX0_slotOf 23 = .ok (.ifCond .ne 5, 3) := by decide +kernel
theorem dX0_slotOf_26 : decode cX0_slotOf 26 = .ok (.iconst (-1), 1) := by decide +kernel
theorem dX0_slotOf_27 : decode cX0_slotOf 27 = .ok (.ireturn, 1) := by decide +kernel
theorem dX0_slotOf_28 : decode cX0_slotOf 28 = .ok (.aload_n 0, 1) := by decide +kernel
theorem dX0_slotOf_29 : decode cX0_slotOf 29 = .ok (.getfield 9, 3) := by decide +kernel
theorem dX0_slotOf_32 : decode cX0_slotOf 32 = .ok (.iload_n 2, 1) := by decide +kernel
theorem dX0_slotOf_33 : decode cX0_slotOf 33 = .ok (.iaload, 1) := by decide +kernel
theorem dX0_slotOf_34 : decode cX0_slotOf 34 = .ok (.iload_n 1, 1) := by decide +kernel
theorem dX0_slotOf_35 : decode cX0_slotOf 35 = .ok (.bipush 100, 2) := by decide +kernel
theorem dX0_slotOf_37 : decode cX0_slotOf 37 = .ok (.idiv, 1) := by decide +kernel
theorem dX0_slotOf_38 : decode cX0_slotOf 38 = .ok (.if_icmp .ne 7, 3) := by decide +kernel
theorem dX0_slotOf_41 : decode cX0_slotOf 41 = .ok (.iload_n 2, 1) := by decide +kernel
theorem dX0_slotOf_42 : decode cX0_slotOf 42 = .ok (.goto 4, 3) := by decide +kernel
theorem dX0_slotOf_45 : decode cX0_slotOf 45 = .ok (.iconst (-1), 1) := by decide +kernel
theorem dX0_slotOf_46 : decode cX0_slotOf 46 = .ok (.ireturn, 1) := by decide +kernel
theorem dX0_liveSlotOf_0 : decode cX0_liveSlotOf 0 = .ok (.aload_n 0, 1) := by decide +kernel
theorem dX0_liveSlotOf_1 : decode cX0_liveSlotOf 1 = .ok (.iload_n 1, 1) := by decide +kernel
theorem dX0_liveSlotOf_2 : decode cX0_liveSlotOf 2 = .ok (.invokevirtual 43, 3) := by decide +kernel
theorem dX0_liveSlotOf_5 : decode cX0_liveSlotOf 5 = .ok (.istore_n 2, 1) := by decide +kernel
theorem dX0_liveSlotOf_6 : decode cX0_liveSlotOf 6 = .ok (.iload_n 2, 1) := by decide +kernel
theorem dX0_liveSlotOf_7 : decode cX0_liveSlotOf 7 = .ok (.iconst (-1), 1) := by decide +kernel
theorem dX0_liveSlotOf_8 : decode cX0_liveSlotOf 8 = .ok (.if_icmp .ne 5, 3) := by decide +kernel
theorem dX0_liveSlotOf_11 : decode cX0_liveSlotOf 11 = .ok (.iconst (-1), 1) := by decide +kernel
theorem dX0_liveSlotOf_12 : decode cX0_liveSlotOf 12 = .ok (.ireturn, 1) := by decide +kernel
theorem dX0_liveSlotOf_13 : decode cX0_liveSlotOf 13 = .ok (.aload_n 0, 1) := by decide +kernel
theorem dX0_liveSlotOf_14 : decode cX0_liveSlotOf 14 = .ok (.getfield 15, 3) := by decide +kernel
theorem dX0_liveSlotOf_17 : decode cX0_liveSlotOf 17 = .ok (.iload_n 2, 1) := by decide +kernel
theorem dX0_liveSlotOf_18 : decode cX0_liveSlotOf 18 = .ok (.iaload, 1) := by decide +kernel
theorem dX0_liveSlotOf_19 : decode cX0_liveSlotOf 19 = .ok (.iconst 1, 1) := by decide +kernel
theorem dX0_liveSlotOf_20 : decode cX0_liveSlotOf 20 = .ok (.if_icmp .ne 7, 3) := by decide +kernel
theorem dX0_liveSlotOf_23 : decode cX0_liveSlotOf 23 = .ok (.iload_n 2, 1) := by decide +kernel
theorem dX0_liveSlotOf_24 : decode cX0_liveSlotOf 24 = .ok (.goto 4, 3) := by decide +kernel
theorem dX0_liveSlotOf_27 : decode cX0_liveSlotOf 27 = .ok (.iconst (-1), 1) := by decide +kernel
theorem dX0_liveSlotOf_28 : decode cX0_liveSlotOf 28 = .ok (.ireturn, 1) := by decide +kernel
theorem dX0_manyOf_0 : decode cX0_manyOf 0 = .ok (.iconst 0, 1) := by decide +kernel
theorem dX0_manyOf_1 : decode cX0_manyOf 1 = .ok (.istore_n 2, 1) := by decide +kernel
theorem dX0_manyOf_2 : decode cX0_manyOf 2 = .ok (.iconst 0, 1) := by decide +kernel
theorem dX0_manyOf_3 : decode cX0_manyOf 3 = .ok (.istore_n 3, 1) := by decide +kernel
theorem dX0_manyOf_4 : decode cX0_manyOf 4 = .ok (.iload_n 3, 1) := by decide +kernel
theorem dX0_manyOf_5 : decode cX0_manyOf 5 = .ok (.bipush 30, 2) := by decide +kernel
theorem dX0_manyOf_7 : decode cX0_manyOf 7 = .ok (.if_icmp .ge 22, 3) := by decide +kernel
theorem dX0_manyOf_10 : decode cX0_manyOf 10 = .ok (.aload_n 0, 1) := by decide +kernel
theorem dX0_manyOf_11 : decode cX0_manyOf 11 = .ok (.getfield 15, 3) := by decide +kernel
theorem dX0_manyOf_14 : decode cX0_manyOf 14 = .ok (.iload_n 3, 1) := by decide +kernel
theorem dX0_manyOf_15 : decode cX0_manyOf 15 = .ok (.iaload, 1) := by decide +kernel
theorem dX0_manyOf_16 : decode cX0_manyOf 16 = .ok (.iload_n 1, 1) := by decide +kernel
theorem dX0_manyOf_17 : decode cX0_manyOf 17 = .ok (.if_icmp .ne 6, 3) := by decide +kernel
theorem dX0_manyOf_20 : decode cX0_manyOf 20 = .ok (.iinc 2 1, 3) := by decide +kernel
theorem dX0_manyOf_23 : decode cX0_manyOf 23 = .ok (.iinc 3 1, 3) := by decide +kernel
theorem dX0_manyOf_26 : decode cX0_manyOf 26 = .ok (.goto (-22), 3) := by decide +kernel
theorem dX0_manyOf_29 : decode cX0_manyOf 29 = .ok (.iload_n 2, 1) := by decide +kernel
theorem dX0_manyOf_30 : decode cX0_manyOf 30 = .ok (.ireturn, 1) := by decide +kernel
theorem dX0_liveOf_0 : decode cX0_liveOf 0 = .ok (.iconst 0, 1) := by decide +kernel
theorem dX0_liveOf_1 : decode cX0_liveOf 1 = .ok (.istore_n 2, 1) := by decide +kernel
theorem dX0_liveOf_2 : decode cX0_liveOf 2 = .ok (.iconst 0, 1) := by decide +kernel
theorem dX0_liveOf_3 : decode cX0_liveOf 3 = .ok (.istore_n 3, 1) := by decide +kernel
theorem dX0_liveOf_4 : decode cX0_liveOf 4 = .ok (.iload_n 3, 1) := by decide +kernel
theorem dX0_liveOf_5 : decode cX0_liveOf 5 = .ok (.bipush 30, 2) := by decide +kernel
theorem dX0_liveOf_7 : decode cX0_liveOf 7 = .ok (.if_icmp .ge 32, 3) := by decide +kernel
theorem dX0_liveOf_10 : decode cX0_liveOf 10 = .ok (.aload_n 0, 1) := by decide +kernel
theorem dX0_liveOf_11 : decode cX0_liveOf 11 = .ok (.getfield 15, 3) := by decide +kernel
theorem dX0_liveOf_14 : decode cX0_liveOf 14 = .ok (.iload_n 3, 1) := by decide +kernel
theorem dX0_liveOf_15 : decode cX0_liveOf 15 = .ok (.iaload, 1) := by decide +kernel
theorem dX0_liveOf_16 : decode cX0_liveOf 16 = .ok (.iconst 1, 1) := by decide +kernel
theorem dX0_liveOf_17 : decode cX0_liveOf 17 = .ok (.if_icmp .ne 16, 3) := by decide +kernel
theorem dX0_liveOf_20 : decode cX0_liveOf 20 = .ok (.aload_n 0, 1) := by decide +kernel
theorem dX0_liveOf_21 : decode cX0_liveOf 21 = .ok (.getfield 27, 3) := by decide +kernel
theorem dX0_liveOf_24 : decode cX0_liveOf 24 = .ok (.iload_n 3, 1) := by decide +kernel
theorem dX0_liveOf_25 : decode cX0_liveOf 25 = .ok (.iaload, 1) := by decide +kernel
theorem dX0_liveOf_26 : decode cX0_liveOf 26 = .ok (.iload_n 1, 1) := by decide +kernel
theorem dX0_liveOf_27 : decode cX0_liveOf 27 = .ok (.if_icmp .ne 6, 3) := by decide +kernel
theorem dX0_liveOf_30 : decode cX0_liveOf 30 = .ok (.iinc 2 1, 3) := by decide +kernel
theorem dX0_liveOf_33 : decode cX0_liveOf 33 = .ok (.iinc 3 1, 3) := by decide +kernel
theorem dX0_liveOf_36 : decode cX0_liveOf 36 = .ok (.goto (-32), 3) := by decide +kernel
theorem dX0_liveOf_39 : decode cX0_liveOf 39 = .ok (.iload_n 2, 1) := by decide +kernel
theorem dX0_liveOf_40 : decode cX0_liveOf 40 = .ok (.ireturn, 1) := by decide +kernel
theorem dX0_usedBy_0 : decode cX0_usedBy 0 = .ok (.iconst 0, 1) := by decide +kernel
theorem dX0_usedBy_1 : decode cX0_usedBy 1 = .ok (.istore_n 2, 1) := by decide +kernel
theorem dX0_usedBy_2 : decode cX0_usedBy 2 = .ok (.iconst 0, 1) := by decide +kernel
theorem dX0_usedBy_3 : decode cX0_usedBy 3 = .ok (.istore_n 3, 1) := by decide +kernel
theorem dX0_usedBy_4 : decode cX0_usedBy 4 = .ok (.iload_n 3, 1) := by decide +kernel
theorem dX0_usedBy_5 : decode cX0_usedBy 5 = .ok (.bipush 30, 2) := by decide +kernel
theorem dX0_usedBy_7 : decode cX0_usedBy 7 = .ok (.if_icmp .ge 37, 3) := by decide +kernel
theorem dX0_usedBy_10 : decode cX0_usedBy 10 = .ok (.aload_n 0, 1) := by decide +kernel
theorem dX0_usedBy_11 : decode cX0_usedBy 11 = .ok (.getfield 15, 3) := by decide +kernel
theorem dX0_usedBy_14 : decode cX0_usedBy 14 = .ok (.iload_n 3, 1) := by decide +kernel
theorem dX0_usedBy_15 : decode cX0_usedBy 15 = .ok (.iaload, 1) := by decide +kernel
theorem dX0_usedBy_16 : decode cX0_usedBy 16 = .ok (.ifCond .eq 22, 3) := by decide +kernel
theorem dX0_usedBy_19 : decode cX0_usedBy 19 = .ok (.aload_n 0, 1) := by decide +kernel
theorem dX0_usedBy_20 : decode cX0_usedBy 20 = .ok (.getfield 27, 3) := by decide +kernel
theorem dX0_usedBy_23 : decode cX0_usedBy 23 = .ok (.iload_n 3, 1) := by decide +kernel
theorem dX0_usedBy_24 : decode cX0_usedBy 24 = .ok (.iaload, 1) := by decide +kernel
theorem dX0_usedBy_25 : decode cX0_usedBy 25 = .ok (.iload_n 1, 1) := by decide +kernel
theorem dX0_usedBy_26 : decode cX0_usedBy 26 = .ok (.if_icmp .ne 12, 3) := by decide +kernel
theorem dX0_usedBy_29 : decode cX0_usedBy 29 = .ok (.iload_n 2, 1) := by decide +kernel
theorem dX0_usedBy_30 : decode cX0_usedBy 30 = .ok (.aload_n 0, 1) := by decide +kernel
theorem dX0_usedBy_31 : decode cX0_usedBy 31 = .ok (.getfield 21, 3) := by decide +kernel
theorem dX0_usedBy_34 : decode cX0_usedBy 34 = .ok (.iload_n 3, 1) := by decide +kernel
theorem dX0_usedBy_35 : decode cX0_usedBy 35 = .ok (.iaload, 1) := by decide +kernel
theorem dX0_usedBy_36 : decode cX0_usedBy 36 = .ok (.iadd, 1) := by decide +kernel
theorem dX0_usedBy_37 : decode cX0_usedBy 37 = .ok (.istore_n 2, 1) := by decide +kernel
theorem dX0_usedBy_38 : decode cX0_usedBy 38 = .ok (.iinc 3 1, 3) := by decide +kernel
theorem dX0_usedBy_41 : decode cX0_usedBy 41 = .ok (.goto (-37), 3) := by decide +kernel
theorem dX0_usedBy_44 : decode cX0_usedBy 44 = .ok (.iload_n 2, 1) := by decide +kernel
theorem dX0_usedBy_45 : decode cX0_usedBy 45 = .ok (.ireturn, 1) := by decide +kernel
theorem dX0_cellsInAll_0 : decode cX0_cellsInAll 0 = .ok (.iconst 0, 1) := by decide +kernel
theorem dX0_cellsInAll_1 : decode cX0_cellsInAll 1 = .ok (.istore_n 1, 1) := by decide +kernel
theorem dX0_cellsInAll_2 : decode cX0_cellsInAll 2 = .ok (.iconst 0, 1) := by decide +kernel
theorem dX0_cellsInAll_3 : decode cX0_cellsInAll 3 = .ok (.istore_n 2, 1) := by decide +kernel
theorem dX0_cellsInAll_4 : decode cX0_cellsInAll 4 = .ok (.iload_n 2, 1) := by decide +kernel
theorem dX0_cellsInAll_5 : decode cX0_cellsInAll 5 = .ok (.bipush 30, 2) := by decide +kernel
theorem dX0_cellsInAll_7 : decode cX0_cellsInAll 7 = .ok (.if_icmp .ge 27, 3) := by decide +kernel
theorem dX0_cellsInAll_10 : decode cX0_cellsInAll 10 = .ok (.aload_n 0, 1) := by decide +kernel
theorem dX0_cellsInAll_11 : decode cX0_cellsInAll 11 = .ok (.getfield 15, 3) := by decide +kernel
theorem dX0_cellsInAll_14 : decode cX0_cellsInAll 14 = .ok (.iload_n 2, 1) := by decide +kernel
theorem dX0_cellsInAll_15 : decode cX0_cellsInAll 15 = .ok (.iaload, 1) := by decide +kernel
theorem dX0_cellsInAll_16 : decode cX0_cellsInAll 16 = .ok (.ifCond .eq 12, 3) := by decide +kernel
theorem dX0_cellsInAll_19 : decode cX0_cellsInAll 19 = .ok (.iload_n 1, 1) := by decide +kernel
theorem dX0_cellsInAll_20 : decode cX0_cellsInAll 20 = .ok (.aload_n 0, 1) := by decide +kernel
theorem dX0_cellsInAll_21 : decode cX0_cellsInAll 21 = .ok (.getfield 21, 3) := by decide +kernel
theorem dX0_cellsInAll_24 : decode cX0_cellsInAll 24 = .ok (.iload_n 2, 1) := by decide +kernel
theorem dX0_cellsInAll_25 : decode cX0_cellsInAll 25 = .ok (.iaload, 1) := by decide +kernel
theorem dX0_cellsInAll_26 : decode cX0_cellsInAll 26 = .ok (.iadd, 1) := by decide +kernel
theorem dX0_cellsInAll_27 : decode cX0_cellsInAll 27 = .ok (.istore_n 1, 1) := by decide +kernel
theorem dX0_cellsInAll_28 : decode cX0_cellsInAll 28 = .ok (.iinc 2 1, 3) := by decide +kernel
theorem dX0_cellsInAll_31 : decode cX0_cellsInAll 31 = .ok (.goto (-27), 3) := by decide +kernel
theorem dX0_cellsInAll_34 : decode cX0_cellsInAll 34 = .ok (.iload_n 1, 1) := by decide +kernel
theorem dX0_cellsInAll_35 : decode cX0_cellsInAll 35 = .ok (.ireturn, 1) := by decide +kernel
theorem dX0_copyFrom_0 : decode cX0_copyFrom 0 = .ok (.aload_n 1, 1) := by decide +kernel
theorem dX0_copyFrom_1 : decode cX0_copyFrom 1 = .ok (.getfield 9, 3) := by decide +kernel
theorem dX0_copyFrom_4 : decode cX0_copyFrom 4 = .ok (.aload_n 0, 1) := by decide +kernel
theorem dX0_copyFrom_5 : decode cX0_copyFrom 5 = .ok (.getfield 9, 3) := by decide +kernel
theorem dX0_copyFrom_8 : decode cX0_copyFrom 8 = .ok (.invokestatic 46, 3) := by decide +kernel
theorem dX0_copyFrom_11 : decode cX0_copyFrom 11 = .ok (.aload_n 1, 1) := by decide +kernel
theorem dX0_copyFrom_12 : decode cX0_copyFrom 12 = .ok (.getfield 15, 3) := by decide +kernel
theorem dX0_copyFrom_15 : decode cX0_copyFrom 15 = .ok (.aload_n 0, 1) := by decide +kernel
theorem dX0_copyFrom_16 : decode cX0_copyFrom 16 = .ok (.getfield 15, 3) := by decide +kernel
theorem dX0_copyFrom_19 : decode cX0_copyFrom 19 = .ok (.invokestatic 46, 3) := by decide +kernel
theorem dX0_copyFrom_22 : decode cX0_copyFrom 22 = .ok (.aload_n 1, 1) := by decide +kernel
theorem dX0_copyFrom_23 : decode cX0_copyFrom 23 = .ok (.getfield 18, 3) := by decide +kernel
theorem dX0_copyFrom_26 : decode cX0_copyFrom 26 = .ok (.aload_n 0, 1) := by decide +kernel
theorem dX0_copyFrom_27 : decode cX0_copyFrom 27 = .ok (.getfield 18, 3) := by decide +kernel
theorem dX0_copyFrom_30 : decode cX0_copyFrom 30 = .ok (.invokestatic 46, 3) := by decide +kernel
theorem dX0_copyFrom_33 : decode cX0_copyFrom 33 = .ok (.aload_n 1, 1) := by decide +kernel
theorem dX0_copyFrom_34 : decode cX0_copyFrom 34 = .ok (.getfield 21, 3) := by decide +kernel
theorem dX0_copyFrom_37 : decode cX0_copyFrom 37 = .ok (.aload_n 0, 1) := by decide +kernel
theorem dX0_copyFrom_38 : decode cX0_copyFrom 38 = .ok (.getfield 21, 3) := by decide +kernel
theorem dX0_copyFrom_41 : decode cX0_copyFrom 41 = .ok (.invokestatic 46, 3) := by decide +kernel
theorem dX0_copyFrom_44 : decode cX0_copyFrom 44 = .ok (.aload_n 1, 1) := by decide +kernel
theorem dX0_copyFrom_45 : decode cX0_copyFrom 45 = .ok (.getfield 24, 3) := by decide +kernel
theorem dX0_copyFrom_48 : decode cX0_copyFrom 48 = .ok (.aload_n 0, 1) := by decide +kernel
theorem dX0_copyFrom_49 : decode cX0_copyFrom 49 = .ok (.getfield 24, 3) := by decide +kernel
theorem dX0_copyFrom_52 : decode cX0_copyFrom 52 = .ok (.invokestatic 46, 3) := by decide +kernel
theorem dX0_copyFrom_55 : decode cX0_copyFrom 55 = .ok (.aload_n 1, 1) := by decide +kernel
theorem dX0_copyFrom_56 : decode cX0_copyFrom 56 = .ok (.getfield 27, 3) := by decide +kernel
theorem dX0_copyFrom_59 : decode cX0_copyFrom 59 = .ok (.aload_n 0, 1) := by decide +kernel
theorem dX0_copyFrom_60 : decode cX0_copyFrom 60 = .ok (.getfield 27, 3) := by decide +kernel
theorem dX0_copyFrom_63 : decode cX0_copyFrom 63 = .ok (.invokestatic 46, 3) := by decide +kernel
theorem dX0_copyFrom_66 : decode cX0_copyFrom 66 = .ok (.aload_n 1, 1) := by decide +kernel
theorem dX0_copyFrom_67 : decode cX0_copyFrom 67 = .ok (.getfield 30, 3) := by decide +kernel
theorem dX0_copyFrom_70 : decode cX0_copyFrom 70 = .ok (.aload_n 0, 1) := by decide +kernel
theorem dX0_copyFrom_71 : decode cX0_copyFrom 71 = .ok (.getfield 30, 3) := by decide +kernel
theorem dX0_copyFrom_74 : decode cX0_copyFrom 74 = .ok (.invokestatic 46, 3) := by decide +kernel
theorem dX0_copyFrom_77 : decode cX0_copyFrom 77 = .ok (.aload_n 1, 1) := by decide +kernel
theorem dX0_copyFrom_78 : decode cX0_copyFrom 78 = .ok (.getfield 33, 3) := by decide +kernel
theorem dX0_copyFrom_81 : decode cX0_copyFrom 81 = .ok (.aload_n 0, 1) := by decide +kernel
theorem dX0_copyFrom_82 : decode cX0_copyFrom 82 = .ok (.getfield 33, 3) := by decide +kernel
theorem dX0_copyFrom_85 : decode cX0_copyFrom 85 = .ok (.invokestatic 46, 3) := by decide +kernel
theorem dX0_copyFrom_88 : decode cX0_copyFrom 88 = .ok (.aload_n 1, 1) := by decide +kernel
theorem dX0_copyFrom_89 : decode cX0_copyFrom 89 = .ok (.getfield 36, 3) := by decide +kernel
theorem dX0_copyFrom_92 : decode cX0_copyFrom 92 = .ok (.aload_n 0, 1) := by decide +kernel
theorem dX0_copyFrom_93 : decode cX0_copyFrom 93 = .ok (.getfield 36, 3) := by decide +kernel
theorem dX0_copyFrom_96 : decode cX0_copyFrom 96 = .ok (.invokestatic 46, 3) := by decide +kernel
theorem dX0_copyFrom_99 : decode cX0_copyFrom 99 = .ok (.return_, 1) := by decide +kernel
theorem dX1_init_0 : decode cX1_init 0 = .ok (.aload_n 0, 1) := by decide +kernel
theorem dX1_init_1 : decode cX1_init 1 = .ok (.invokespecial 3, 3) := by decide +kernel
theorem dX1_init_4 : decode cX1_init 4 = .ok (.aload_n 0, 1) := by decide +kernel
theorem dX1_init_5 : decode cX1_init 5 = .ok (.sipush 240, 3) := by decide +kernel
theorem dX1_init_8 : decode cX1_init 8 = .ok (.newarray .int, 2) := by decide +kernel
theorem dX1_init_10 : decode cX1_init 10 = .ok (.putfield 9, 3) := by decide +kernel
theorem dX1_init_13 : decode cX1_init 13 = .ok (.aload_n 0, 1) := by decide +kernel
theorem dX1_init_14 : decode cX1_init 14 = .ok (.iconst 0, 1) := by decide +kernel
theorem dX1_init_15 : decode cX1_init 15 = .ok (.sipush 240, 3) := by decide +kernel
theorem dX1_init_18 : decode cX1_init 18 = .ok (.invokevirtual 15, 3) := by decide +kernel
theorem dX1_init_21 : decode cX1_init 21 = .ok (.return_, 1) := by decide +kernel
theorem dX1_take_0 : decode cX1_take 0 = .ok (.aload_n 0, 1) := by decide +kernel
theorem dX1_take_1 : decode cX1_take 1 = .ok (.getfield 9, 3) := by decide +kernel
theorem dX1_take_4 : decode cX1_take 4 = .ok (.iload_n 1, 1) := by decide +kernel
theorem dX1_take_5 : decode cX1_take 5 = .ok (.iload_n 2, 1) := by decide +kernel
theorem dX1_take_6 : decode cX1_take 6 = .ok (.iload_n 3, 1) := by decide +kernel
theorem dX1_take_7 : decode cX1_take 7 = .ok (.invokestatic 19, 3) := by decide +kernel
theorem dX1_take_10 : decode cX1_take 10 = .ok (.return_, 1) := by decide +kernel
theorem dX1_release_0 : decode cX1_release 0 = .ok (.aload_n 0, 1) := by decide +kernel
theorem dX1_release_1 : decode cX1_release 1 = .ok (.getfield 9, 3) := by decide +kernel
theorem dX1_release_4 : decode cX1_release 4 = .ok (.iload_n 1, 1) := by decide +kernel
theorem dX1_release_5 : decode cX1_release 5 = .ok (.iload_n 2, 1) := by decide +kernel
theorem dX1_release_6 : decode cX1_release 6 = .ok (.iconst (-1), 1) := by decide +kernel
theorem dX1_release_7 : decode cX1_release 7 = .ok (.invokestatic 19, 3) := by decide +kernel
theorem dX1_release_10 : decode cX1_release 10 = .ok (.return_, 1) := by decide +kernel
theorem dX1_isFree_0 : decode cX1_isFree 0 = .ok (.iload_n 1, 1) := by decide +kernel
theorem dX1_isFree_1 : decode cX1_isFree 1 = .ok (.istore_n 3, 1) := by decide +kernel
theorem dX1_isFree_2 : decode cX1_isFree 2 = .ok (.iload_n 3, 1) := by decide +kernel
theorem dX1_isFree_3 : decode cX1_isFree 3 = .ok (.iload_n 1, 1) := by decide +kernel
theorem dX1_isFree_4 : decode cX1_isFree 4 = .ok (.iload_n 2, 1) := by decide +kernel
theorem dX1_isFree_5 : decode cX1_isFree 5 = .ok (.iadd, 1) := by decide +kernel
theorem dX1_isFree_6 : decode cX1_isFree 6 = .ok (.if_icmp .ge 21, 3) := by decide +kernel
theorem dX1_isFree_9 : decode cX1_isFree 9 = .ok (.aload_n 0, 1) := by decide +kernel
theorem dX1_isFree_10 : decode cX1_isFree 10 = .ok (.getfield 9, 3) := by decide +kernel
theorem dX1_isFree_13 : decode cX1_isFree 13 = .ok (.iload_n 3, 1) := by decide +kernel
theorem dX1_isFree_14 : decode cX1_isFree 14 = .ok (.iaload, 1) := by decide +kernel
theorem dX1_isFree_15 : decode cX1_isFree 15 = .ok (.iconst (-1), 1) := by decide +kernel
theorem dX1_isFree_16 : decode cX1_isFree 16 = .ok (.if_icmp .eq 5, 3) := by decide +kernel
theorem dX1_isFree_19 : decode cX1_isFree 19 = .ok (.iconst 0, 1) := by decide +kernel
theorem dX1_isFree_20 : decode cX1_isFree 20 = .ok (.ireturn, 1) := by decide +kernel
theorem dX1_isFree_21 : decode cX1_isFree 21 = .ok (.iinc 3 1, 3) := by decide +kernel
theorem dX1_isFree_24 : decode cX1_isFree 24 = .ok (.goto (-22), 3) := by decide +kernel
theorem dX1_isFree_27 : decode cX1_isFree 27 = .ok (.iconst 1, 1) := by decide +kernel
theorem dX1_isFree_28 : decode cX1_isFree 28 = .ok (.ireturn, 1) := by decide +kernel
theorem dX1_placeIn_0 : decode cX1_placeIn 0 = .ok (.aload_n 1, 1) := by decide +kernel
theorem dX1_placeIn_1 : decode cX1_placeIn 1 = .ok (.getfield 23, 3) := by decide +kernel
theorem dX1_placeIn_4 : decode cX1_placeIn 4 = .ok (.iload_n 2, 1) := by decide +kernel
theorem dX1_placeIn_5 : decode cX1_placeIn 5 = .ok (.iaload, 1) := by decide +kernel
theorem dX1_placeIn_6 : decode cX1_placeIn 6 = .ok (.istore 4, 2) := by decide +kernel
theorem dX1_placeIn_8 : decode cX1_placeIn 8 = .ok (.aload_n 1, 1) := by decide +kernel
theorem dX1_placeIn_9 : decode cX1_placeIn 9 = .ok (.iload_n 2, 1) := by decide +kernel
theorem dX1_placeIn_10 : decode cX1_placeIn 10 = .ok (.invokevirtual 28, 3) := by decide +kernel
theorem dX1_placeIn_13 : decode cX1_placeIn 13 = .ok (.istore 5, 2) := by decide +kernel
theorem dX1_placeIn_15 : decode cX1_placeIn 15 = .ok (.aload_n 1, 1) := by decide +kernel
theorem dX1_placeIn_16 : decode cX1_placeIn 16 = .ok (.getfield 32, 3) := by decide +kernel
theorem dX1_placeIn_19 : decode cX1_placeIn 19 = .ok (.iload_n 2, 1) := by decide +kernel
theorem dX1_placeIn_20 : decode cX1_placeIn 20 = .ok (.iaload, 1) := by decide +kernel
theorem dX1_placeIn_21 : decode cX1_placeIn 21 = .ok (.ifCond .ne 13, 3) := by decide +kernel
theorem dX1_placeIn_24 : decode cX1_placeIn 24 = .ok (.aload_n 0, 1) := by decide +kernel
theorem dX1_placeIn_25 : decode cX1_placeIn 25 = .ok (.iload 4, 2) := by decide +kernel
theorem dX1_placeIn_27 : decode cX1_placeIn 27 = .ok (.iload 5, 2) := by decide +kernel
theorem dX1_placeIn_29 : decode cX1_placeIn 29 = .ok (.iload_n 3, 1) := by decide +kernel
theorem dX1_placeIn_30 : decode cX1_placeIn 30 = .ok (.invokevirtual 35, 3) := by decide +kernel
theorem dX1_placeIn_33 : decode cX1_placeIn 33 = .ok (.ireturn, 1) := by decide +kernel
theorem dX1_placeIn_34 : decode cX1_placeIn 34 = .ok (.aload_n 0, 1) := by decide +kernel
theorem dX1_placeIn_35 : decode cX1_placeIn 35 = .ok (.iload 4, 2) := by decide +kernel
theorem dX1_placeIn_37 : decode cX1_placeIn 37 = .ok (.iload 5, 2) := by decide +kernel
theorem dX1_placeIn_39 : decode cX1_placeIn 39 = .ok (.iload_n 3, 1) := by decide +kernel
theorem dX1_placeIn_40 : decode cX1_placeIn 40 = .ok (.invokevirtual 39, 3) := by decide +kernel
theorem dX1_placeIn_43 : decode cX1_placeIn 43 = .ok (.ireturn, 1) := by decide +kernel
theorem dX1_placeFromBelow_0 : decode cX1_placeFromBelow 0 = .ok (.iconst 0, 1) := by decide +kernel
theorem dX1_placeFromBelow_1 : decode cX1_placeFromBelow 1 = .ok (.istore 4, 2) := by decide +kernel
theorem dX1_placeFromBelow_3 : decode cX1_placeFromBelow 3 = .ok (.iload_n 1, 1) := by decide +kernel
theorem dX1_placeFromBelow_4 : decode cX1_placeFromBelow 4 = .ok (.istore 5, 2) := by decide +kernel
theorem dX1_placeFromBelow_6 : decode cX1_placeFromBelow 6 = .ok (.iload 5, 2) := by decide +kernel
theorem dX1_placeFromBelow_8 : decode cX1_placeFromBelow 8 = .ok (.iload_n 2, 1) := by decide +kernel
theorem dX1_placeFromBelow_9 : decode cX1_placeFromBelow 9 = .ok (.if_icmp .ge 43, 3) := by decide +kernel
theorem dX1_placeFromBelow_12 : decode cX1_placeFromBelow 12 = .ok (.aload_n 0, 1) := by decide +kernel
theorem dX1_placeFromBelow_13 : decode cX1_placeFromBelow 13 = .ok (.getfield 9, 3) := by decide +kernel
theorem dX1_placeFromBelow_16 : decode cX1_placeFromBelow 16 = .ok (.iload 5, 2) := by decide +kernel
theorem dX1_placeFromBelow_18 : decode cX1_placeFromBelow 18 = .ok (.iaload, 1) := by decide +kernel
theorem dX1_placeFromBelow_19 : decode cX1_placeFromBelow 19 = .ok (.iconst (-1), 1) := by decide +kernel
theorem dX1_placeFromBelow_20 : decode cX1_placeFromBelow 20 = .ok (.if_icmp .ne 10, 3) := by decide +kernel
theorem dX1_placeFromBelow_23 : decode cX1_placeFromBelow 23 = .ok (.iload 4, 2) := by decide +kernel
theorem dX1_placeFromBelow_25 : decode cX1_placeFromBelow 25 = .ok (.iconst 1, 1) := by decide +kernel
theorem dX1_placeFromBelow_26 : decode cX1_placeFromBelow 26 = .ok (.iadd, 1) := by decide +kernel
theorem dX1_placeFromBelow_27 : decode cX1_placeFromBelow 27 = .ok (.goto 4, 3) := by decide +kernel
theorem dX1_placeFromBelow_30 : decode cX1_placeFromBelow 30 = .ok (.iconst 0, 1) := by decide +kernel
theorem dX1_placeFromBelow_31 : decode cX1_placeFromBelow 31 = .ok (.istore 4, 2) := by decide +kernel
theorem dX1_placeFromBelow_33 : decode cX1_placeFromBelow 33 = .ok (.iload 4, 2) := by decide +kernel
theorem dX1_placeFromBelow_35 : decode cX1_placeFromBelow 35 = .ok (.iload_n 3, 1) := by decide +kernel
theorem dX1_placeFromBelow_36 : decode cX1_placeFromBelow 36 = .ok (.if_icmp .ne 10, 3) := by decide +kernel
theorem dX1_placeFromBelow_39 : decode cX1_placeFromBelow 39 = .ok (.iload 5, 2) := by decide +kernel
theorem dX1_placeFromBelow_41 : decode cX1_placeFromBelow 41 = .ok (.iload_n 3, 1) := by decide +kernel
theorem dX1_placeFromBelow_42 : decode cX1_placeFromBelow 42 = .ok (.isub, 1) := by decide +kernel
theorem dX1_placeFromBelow_43 : decode cX1_placeFromBelow 43 = .ok (.iconst 1, 1) := by decide +kernel
theorem dX1_placeFromBelow_44 : decode cX1_placeFromBelow 44 = .ok (.iadd, 1) := by decide +kernel
theorem dX1_placeFromBelow_45 : decode cX1_placeFromBelow 45 = .ok (.ireturn, 1) := by decide +kernel
theorem dX1_placeFromBelow_46 : decode cX1_placeFromBelow 46 = .ok (.iinc 5 1, 3) := by decide +kernel
theorem dX1_placeFromBelow_49 : decode cX1_placeFromBelow 49 = .ok (.goto (-43), 3) := by decide +kernel
theorem dX1_placeFromBelow_52 : decode cX1_placeFromBelow 52 = .ok (.iconst (-1), 1) := by decide +kernel
theorem dX1_placeFromBelow_53 : decode cX1_placeFromBelow 53 = .ok (.ireturn, 1) := by decide +kernel
theorem dX1_placeFromAbove_0 : decode cX1_placeFromAbove 0 = .ok (.iconst 0, 1) := by decide +kernel
theorem dX1_placeFromAbove_1 : decode cX1_placeFromAbove 1 = .ok (.istore 4, 2) := by decide +kernel
theorem dX1_placeFromAbove_3 : decode cX1_placeFromAbove 3 = .ok (.iload_n 2, 1) := by decide +kernel
theorem dX1_placeFromAbove_4 : decode cX1_placeFromAbove 4 = .ok (.iconst 1, 1) := by decide +kernel
theorem dX1_placeFromAbove_5 : decode cX1_placeFromAbove 5 = .ok (.isub, 1) := by decide +kernel
theorem dX1_placeFromAbove_6 : decode cX1_placeFromAbove 6 = .ok (.istore 5, 2) := by decide +kernel
theorem dX1_placeFromAbove_8 : decode cX1_placeFromAbove 8 = .ok (.iload 5, 2) := by decide +kernel
theorem dX1_placeFromAbove_10 : decode cX1_placeFromAbove 10 = .ok (.iload_n 1, 1) := by decide +kernel
theorem dX1_placeFromAbove_11 : decode cX1_placeFromAbove 11 = .ok (.if_icmp .lt 39, 3) := by decide +kernel
theorem dX1_placeFromAbove_14 : decode cX1_placeFromAbove 14 = .ok (.aload_n 0, 1) := by decide +kernel
theorem dX1_placeFromAbove_15 : decode cX1_placeFromAbove 15 = .ok (.getfield 9, 3) := by decide +kernel
theorem dX1_placeFromAbove_18 : decode cX1_placeFromAbove 18 = .ok (.iload 5, 2) := by decide +kernel
theorem dX1_placeFromAbove_20 : decode cX1_placeFromAbove 20 = .ok (.iaload, 1) := by decide +kernel
theorem dX1_placeFromAbove_21 : decode cX1_placeFromAbove 21 = .ok (.iconst (-1), 1) := by decide +kernel
theorem dX1_placeFromAbove_22 : decode cX1_placeFromAbove 22 = .ok (.if_icmp .ne 10, 3) := by decide +kernel
theorem dX1_placeFromAbove_25 : decode cX1_placeFromAbove 25 = .ok (.iload 4, 2) := by decide +kernel
theorem dX1_placeFromAbove_27 : decode cX1_placeFromAbove 27 = .ok (.iconst 1, 1) := by decide +kernel
theorem dX1_placeFromAbove_28 : decode cX1_placeFromAbove 28 = .ok (.iadd, 1) := by decide +kernel
theorem dX1_placeFromAbove_29 : decode cX1_placeFromAbove 29 = .ok (.goto 4, 3) := by decide +kernel
theorem dX1_placeFromAbove_32 : decode cX1_placeFromAbove 32 = .ok (.iconst 0, 1) := by decide +kernel
theorem dX1_placeFromAbove_33 : decode cX1_placeFromAbove 33 = .ok (.istore 4, 2) := by decide +kernel
theorem dX1_placeFromAbove_35 : decode cX1_placeFromAbove 35 = .ok (.iload 4, 2) := by decide +kernel
theorem dX1_placeFromAbove_37 : decode cX1_placeFromAbove 37 = .ok (.iload_n 3, 1) := by decide +kernel
theorem dX1_placeFromAbove_38 : decode cX1_placeFromAbove 38 = .ok (.if_icmp .ne 6, 3) := by decide +kernel
theorem dX1_placeFromAbove_41 : decode cX1_placeFromAbove 41 = .ok (.iload 5, 2) := by decide +kernel
theorem dX1_placeFromAbove_43 : decode cX1_placeFromAbove 43 = .ok (.ireturn, 1) := by decide +kernel
theorem dX1_placeFromAbove_44 : decode cX1_placeFromAbove 44 = .ok (.iinc 5 (-1), 3) := by decide +kernel
theorem dX1_placeFromAbove_47 : decode cX1_placeFromAbove 47 = .ok (.goto (-39), 3) := by decide +kernel
theorem dX1_placeFromAbove_50 : decode cX1_placeFromAbove 50 = .ok (.iconst (-1), 1) := by decide +kernel
theorem dX1_placeFromAbove_51 : decode cX1_placeFromAbove 51 = .ok (.ireturn, 1) := by decide +kernel
theorem dX1_freeCells_0 : decode cX1_freeCells 0 = .ok (.iconst 0, 1) := by decide +kernel
theorem dX1_freeCells_1 : decode cX1_freeCells 1 = .ok (.istore_n 3, 1) := by decide +kernel
theorem dX1_freeCells_2 : decode cX1_freeCells 2 = .ok (.iload_n 1, 1) := by decide +kernel
theorem dX1_freeCells_3 : decode cX1_freeCells 3 = .ok (.istore 4, 2) := by decide +kernel
theorem dX1_freeCells_5 : decode cX1_freeCells 5 = .ok (.iload 4, 2) := by decide +kernel
theorem dX1_freeCells_7 : decode cX1_freeCells 7 = .ok (.iload_n 2, 1) := by decide +kernel
theorem dX1_freeCells_8 : decode cX1_freeCells 8 = .ok (.if_icmp .ge 23, 3) := by decide +kernel
theorem dX1_freeCells_11 : decode cX1_freeCells 11 = .ok (.aload_n 0, 1) := by decide +kernel
theorem dX1_freeCells_12 : decode cX1_freeCells 12 = .ok (.getfield 9, 3) := by decide +kernel
theorem dX1_freeCells_15 : decode cX1_freeCells 15 = .ok (.iload 4, 2) := by decide +kernel
theorem dX1_freeCells_17 : decode cX1_freeCells 17 = .ok (.iaload, 1) := by decide +kernel
theorem dX1_freeCells_18 : decode cX1_freeCells 18 = .ok (.iconst (-1), 1) := by decide +kernel
theorem dX1_freeCells_19 : decode cX1_freeCells 19 = .ok (.if_icmp .ne 6, 3) := by decide +kernel
theorem dX1_freeCells_22 : decode cX1_freeCells 22 = .ok (.iinc 3 1, 3) := by decide +kernel
theorem dX1_freeCells_25 : decode cX1_freeCells 25 = .ok (.iinc 4 1, 3) := by decide +kernel
theorem dX1_freeCells_28 : decode cX1_freeCells 28 = .ok (.goto (-23), 3) := by decide +kernel
theorem dX1_freeCells_31 : decode cX1_freeCells 31 = .ok (.iload_n 3, 1) := by decide +kernel
theorem dX1_freeCells_32 : decode cX1_freeCells 32 = .ok (.ireturn, 1) := by decide +kernel
theorem dX1_longestFreeRow_0 : decode cX1_longestFreeRow 0 = .ok (.iconst 0, 1) := by decide +kernel
theorem dX1_longestFreeRow_1 : decode cX1_longestFreeRow 1 = .ok (.istore_n 3, 1) := by decide +kernel
theorem dX1_longestFreeRow_2 : decode cX1_longestFreeRow 2 = .ok (.iconst 0, 1) := by decide +kernel
theorem dX1_longestFreeRow_3 : decode cX1_longestFreeRow 3 = .ok (.istore 4, 2) := by decide +kernel
theorem dX1_longestFreeRow_5 : decode cX1_longestFreeRow 5 = .ok (.iload_n 1, 1) := by decide +kernel
theorem dX1_longestFreeRow_6 : decode cX1_longestFreeRow 6 = .ok (.istore 5, 2) := by decide +kernel
theorem dX1_longestFreeRow_8 : decode cX1_longestFreeRow 8 = .ok (.iload 5, 2) := by decide +kernel
theorem dX1_longestFreeRow_10 : decode cX1_longestFreeRow 10 = .ok (.iload_n 2, 1) := by decide +kernel
theorem dX1_longestFreeRow_11 : decode cX1_longestFreeRow 11 = .ok (.if_icmp .ge 37, 3) := by decide +kernel
theorem dX1_longestFreeRow_14 : decode cX1_longestFreeRow 14 = .ok (.aload_n 0, 1) := by decide +kernel
theorem dX1_longestFreeRow_15 : decode cX1_longestFreeRow 15 = .ok (.getfield 9, 3) := by decide +kernel
theorem dX1_longestFreeRow_18 : decode cX1_longestFreeRow 18 = .ok (.iload 5, 2) := by decide +kernel
theorem dX1_longestFreeRow_20 : decode cX1_longestFreeRow 20 = .ok (.iaload, 1) := by decide +kernel
theorem dX1_longestFreeRow_21 : decode cX1_longestFreeRow 21 = .ok (.iconst (-1), 1) := by decide +kernel
theorem dX1_longestFreeRow_22 : decode cX1_longestFreeRow 22 = .ok (.if_icmp .ne 10, 3) := by decide +kernel
theorem dX1_longestFreeRow_25 : decode cX1_longestFreeRow 25 = .ok (.iload 4, 2) := by decide +kernel
theorem dX1_longestFreeRow_27 : decode cX1_longestFreeRow 27 = .ok (.iconst 1, 1) := by decide +kernel
theorem dX1_longestFreeRow_28 : decode cX1_longestFreeRow 28 = .ok (.iadd, 1) := by decide +kernel
theorem dX1_longestFreeRow_29 : decode cX1_longestFreeRow 29 = .ok (.goto 4, 3) := by decide +kernel
theorem dX1_longestFreeRow_32 : decode cX1_longestFreeRow 32 = .ok (.iconst 0, 1) := by decide +kernel
theorem dX1_longestFreeRow_33 : decode cX1_longestFreeRow 33 = .ok (.istore 4, 2) := by decide +kernel
theorem dX1_longestFreeRow_35 : decode cX1_longestFreeRow 35 = .ok (.iload_n 3, 1) := by decide +kernel
theorem dX1_longestFreeRow_36 : decode cX1_longestFreeRow 36 = .ok (.iload 4, 2) := by decide +kernel
theorem dX1_longestFreeRow_38 : decode cX1_longestFreeRow 38 = .ok (.invokestatic 42, 3) := by decide +kernel
theorem dX1_longestFreeRow_41 : decode cX1_longestFreeRow 41 = .ok (.istore_n 3, 1) := by decide +kernel
theorem dX1_longestFreeRow_42 : decode cX1_longestFreeRow 42 = .ok (.iinc 5 1, 3) := by decide +kernel
theorem dX1_longestFreeRow_45 : decode cX1_longestFreeRow 45 = .ok (.goto (-37), 3) := by decide +kernel
theorem dX1_longestFreeRow_48 : decode cX1_longestFreeRow 48 = .ok (.iload_n 3, 1) := by decide +kernel
theorem dX1_longestFreeRow_49 : decode cX1_longestFreeRow 49 = .ok (.ireturn, 1) := by decide +kernel
theorem dX1_freeRows_0 : decode cX1_freeRows 0 = .ok (.iconst 0, 1) := by decide +kernel
theorem dX1_freeRows_1 : decode cX1_freeRows 1 = .ok (.istore_n 3, 1) := by decide +kernel
theorem dX1_freeRows_2 : decode cX1_freeRows 2 = .ok (.iconst 0, 1) := by decide +kernel
theorem dX1_freeRows_3 : decode cX1_freeRows 3 = .ok (.istore 4, 2) := by decide +kernel
theorem dX1_freeRows_5 : decode cX1_freeRows 5 = .ok (.iload_n 1, 1) := by decide +kernel
theorem dX1_freeRows_6 : decode cX1_freeRows 6 = .ok (.istore 5, 2) := by decide +kernel
theorem dX1_freeRows_8 : decode cX1_freeRows 8 = .ok (.iload 5, 2) := by decide +kernel
theorem dX1_freeRows_10 : decode cX1_freeRows 10 = .ok (.iload_n 2, 1) := by decide +kernel
theorem dX1_freeRows_11 : decode cX1_freeRows 11 = .ok (.if_icmp .ge 44, 3) := by decide +kernel
theorem dX1_freeRows_14 : decode cX1_freeRows 14 = .ok (.aload_n 0, 1) := by decide +kernel
theorem dX1_freeRows_15 : decode cX1_freeRows 15 = .ok (.getfield 9, 3) := by decide +kernel
theorem dX1_freeRows_18 : decode cX1_freeRows 18 = .ok (.iload 5, 2) := by decide +kernel
theorem dX1_freeRows_20 : decode cX1_freeRows 20 = .ok (.iaload, 1) := by decide +kernel
theorem dX1_freeRows_21 : decode cX1_freeRows 21 = .ok (.iconst (-1), 1) := by decide +kernel
theorem dX1_freeRows_22 : decode cX1_freeRows 22 = .ok (.if_icmp .ne 7, 3) := by decide +kernel
theorem dX1_freeRows_25 : decode cX1_freeRows 25 = .ok (.iconst 1, 1) := by decide +kernel
theorem dX1_freeRows_26 : decode cX1_freeRows 26 = .ok (.goto 4, 3) := by decide +kernel
theorem dX1_freeRows_29 : decode cX1_freeRows 29 = .ok (.iconst 0, 1) := by decide +kernel
theorem dX1_freeRows_30 : decode cX1_freeRows 30 = .ok (.istore 6, 2) := by decide +kernel
theorem dX1_freeRows_32 : decode cX1_freeRows 32 = .ok (.iload 6, 2) := by decide +kernel
theorem dX1_freeRows_34 : decode cX1_freeRows 34 = .ok (.ifCond .eq 11, 3) := by decide +kernel
theorem dX1_freeRows_37 : decode cX1_freeRows 37 = .ok (.iload 4, 2) := by decide +kernel
theorem dX1_freeRows_39 : decode cX1_freeRows 39 = .ok (.ifCond .ne 6, 3) := by decide +kernel
theorem dX1_freeRows_42 : decode cX1_freeRows 42 = .ok (.iinc 3 1, 3) := by decide +kernel
theorem dX1_freeRows_45 : decode cX1_freeRows 45 = .ok (.iload 6, 2) := by decide +kernel
theorem dX1_freeRows_47 : decode cX1_freeRows 47 = .ok (.istore 4, 2) := by decide +kernel
theorem dX1_freeRows_49 : decode cX1_freeRows 49 = .ok (.iinc 5 1, 3) := by decide +kernel
theorem dX1_freeRows_52 : decode cX1_freeRows 52 = .ok (.goto (-44), 3) := by decide +kernel
theorem dX1_freeRows_55 : decode cX1_freeRows 55 = .ok (.iload_n 3, 1) := by decide +kernel
theorem dX1_freeRows_56 : decode cX1_freeRows 56 = .ok (.ireturn, 1) := by decide +kernel
theorem dX1_copyFrom_0 : decode cX1_copyFrom 0 = .ok (.aload_n 1, 1) := by decide +kernel
theorem dX1_copyFrom_1 : decode cX1_copyFrom 1 = .ok (.getfield 9, 3) := by decide +kernel
theorem dX1_copyFrom_4 : decode cX1_copyFrom 4 = .ok (.aload_n 0, 1) := by decide +kernel
theorem dX1_copyFrom_5 : decode cX1_copyFrom 5 = .ok (.getfield 9, 3) := by decide +kernel
theorem dX1_copyFrom_8 : decode cX1_copyFrom 8 = .ok (.invokestatic 48, 3) := by decide +kernel
theorem dX1_copyFrom_11 : decode cX1_copyFrom 11 = .ok (.return_, 1) := by decide +kernel
theorem dX2_init_0 : decode cX2_init 0 = .ok (.aload_n 0, 1) := by decide +kernel
theorem dX2_init_1 : decode cX2_init 1 = .ok (.invokespecial 3, 3) := by decide +kernel
theorem dX2_init_4 : decode cX2_init 4 = .ok (.aload_n 0, 1) := by decide +kernel
theorem dX2_init_5 : decode cX2_init 5 = .ok (.bipush 6, 2) := by decide +kernel
theorem dX2_init_7 : decode cX2_init 7 = .ok (.newarray .int, 2) := by decide +kernel
theorem dX2_init_9 : decode cX2_init 9 = .ok (.putfield 9, 3) := by decide +kernel
theorem dX2_init_12 : decode cX2_init 12 = .ok (.aload_n 0, 1) := by decide +kernel
theorem dX2_init_13 : decode cX2_init 13 = .ok (.bipush 6, 2) := by decide +kernel
theorem dX2_init_15 : decode cX2_init 15 = .ok (.newarray .int, 2) := by decide +kernel
theorem dX2_init_17 : decode cX2_init 17 = .ok (.putfield 15, 3) := by decide +kernel
theorem dX2_init_20 : decode cX2_init 20 = .ok (.aload_n 0, 1) := by decide +kernel
theorem dX2_init_21 : decode cX2_init 21 = .ok (.bipush 6, 2) := by decide +kernel
theorem dX2_init_23 : decode cX2_init 23 = .ok (.newarray .int, 2) := by decide +kernel
theorem dX2_init_25 : decode cX2_init 25 = .ok (.putfield 18, 3) := by decide +kernel
theorem dX2_init_28 : decode cX2_init 28 = .ok (.aload_n 0, 1) := by decide +kernel
theorem dX2_init_29 : decode cX2_init 29 = .ok (.sipush 360, 3) := by decide +kernel
theorem dX2_init_32 : decode cX2_init 32 = .ok (.newarray .int, 2) := by decide +kernel
theorem dX2_init_34 : decode cX2_init 34 = .ok (.putfield 21, 3) := by decide +kernel
theorem dX2_init_37 : decode cX2_init 37 = .ok (.return_, 1) := by decide +kernel
theorem dX2_faultAsRow_0 : decode cX2_faultAsRow 0 = .ok (.aload_n 0, 1) := by decide +kernel
theorem dX2_faultAsRow_1 : decode cX2_faultAsRow 1 = .ok (.getfield 9, 3) := by decide +kernel
theorem dX2_faultAsRow_4 : decode cX2_faultAsRow 4 = .ok (.iload_n 1, 1) := by decide +kernel
theorem dX2_faultAsRow_5 : decode cX2_faultAsRow 5 = .ok (.iaload, 1) := by decide +kernel
theorem dX2_faultAsRow_6 : decode cX2_faultAsRow 6 = .ok (.iconst 2, 1) := by decide +kernel
theorem dX2_faultAsRow_7 : decode cX2_faultAsRow 7 = .ok (.if_icmp .ne 5, 3) := by decide +kernel
theorem dX2_faultAsRow_10 : decode cX2_faultAsRow 10 = .ok (.iconst 0, 1) := by decide +kernel
theorem dX2_faultAsRow_11 : decode cX2_faultAsRow 11 = .ok (.ireturn, 1) := by decide +kernel
theorem dX2_faultAsRow_12 : decode cX2_faultAsRow 12 = .ok (.aload_n 0, 1) := by decide +kernel
theorem dX2_faultAsRow_13 : decode cX2_faultAsRow 13 = .ok (.getfield 9, 3) := by decide +kernel
theorem dX2_faultAsRow_16 : decode cX2_faultAsRow 16 = .ok (.iload_n 1, 1) := by decide +kernel
theorem dX2_faultAsRow_17 : decode cX2_faultAsRow 17 = .ok (.iaload, 1) := by decide +kernel
theorem dX2_faultAsRow_18 : decode cX2_faultAsRow 18 = .ok (.ifCond .ne 8, 3) := by decide +kernel
theorem dX2_faultAsRow_21 : decode cX2_faultAsRow 21 = .ok (.bipush (-11), 2) := by decide +kernel
theorem dX2_faultAsRow_23 : decode cX2_faultAsRow 23 = .ok (.goto 5, 3) := by decide +kernel
theorem dX2_faultAsRow_26 : decode cX2_faultAsRow 26 = .ok (.bipush (-12), 2) := by decide +kernel
theorem dX2_faultAsRow_28 : decode cX2_faultAsRow 28 = .ok (.ireturn, 1) := by decide +kernel
theorem dX2_takeRow_0 : decode cX2_takeRow 0 = .ok (.aload_n 0, 1) := by decide +kernel
theorem dX2_takeRow_1 : decode cX2_takeRow 1 = .ok (.getfield 9, 3) := by decide +kernel
theorem dX2_takeRow_4 : decode cX2_takeRow 4 = .ok (.iload_n 1, 1) := by decide +kernel
theorem dX2_takeRow_5 : decode cX2_takeRow 5 = .ok (.iconst 2, 1) := by decide +kernel
theorem dX2_takeRow_6 : decode cX2_takeRow 6 = .ok (.iastore, 1) := by decide +kernel
theorem dX2_takeRow_7 : decode cX2_takeRow 7 = .ok (.aload_n 0, 1) := by decide +kernel
theorem dX2_takeRow_8 : decode cX2_takeRow 8 = .ok (.getfield 18, 3) := by decide +kernel
theorem dX2_takeRow_11 : decode cX2_takeRow 11 = .ok (.iload_n 1, 1) := by decide +kernel
theorem dX2_takeRow_12 : decode cX2_takeRow 12 = .ok (.iload_n 2, 1) := by decide +kernel
theorem dX2_takeRow_13 : decode cX2_takeRow 13 = .ok (.iastore, 1) := by decide +kernel
theorem dX2_takeRow_14 : decode cX2_takeRow 14 = .ok (.aload_n 0, 1) := by decide +kernel
theorem dX2_takeRow_15 : decode cX2_takeRow 15 = .ok (.getfield 21, 3) := by decide +kernel
theorem dX2_takeRow_18 : decode cX2_takeRow 18 = .ok (.bipush 60, 2) := by decide +kernel
theorem dX2_takeRow_20 : decode cX2_takeRow 20 = .ok (.iload_n 1, 1) := by decide +kernel
theorem dX2_takeRow_21 : decode cX2_takeRow 21 = .ok (.imul, 1) := by decide +kernel
theorem dX2_takeRow_22 : decode cX2_takeRow 22 = .ok (.iload_n 2, 1) := by decide +kernel
theorem dX2_takeRow_23 : decode cX2_takeRow 23 = .ok (.iconst 0, 1) := by decide +kernel
theorem dX2_takeRow_24 : decode cX2_takeRow 24 = .ok (.invokestatic 24, 3) := by decide +kernel
theorem dX2_takeRow_27 : decode cX2_takeRow 27 = .ok (.return_, 1) := by decide +kernel
theorem dX2_hasItem_0 : decode cX2_hasItem 0 = .ok (.aload_n 0, 1) := by decide +kernel
theorem dX2_hasItem_1 : decode cX2_hasItem 1 = .ok (.getfield 9, 3) := by decide +kernel
theorem dX2_hasItem_4 : decode cX2_hasItem 4 = .ok (.iload_n 1, 1) := by decide +kernel
theorem dX2_hasItem_5 : decode cX2_hasItem 5 = .ok (.iaload, 1) := by decide +kernel
theorem dX2_hasItem_6 : decode cX2_hasItem 6 = .ok (.iconst 2, 1) := by decide +kernel
theorem dX2_hasItem_7 : decode cX2_hasItem 7 = .ok (.if_icmp .ne 21, 3) := by decide +kernel
theorem dX2_hasItem_10 : decode cX2_hasItem 10 = .ok (.iload_n 2, 1) := by decide +kernel
theorem dX2_hasItem_11 : decode cX2_hasItem 11 = .ok (.ifCond .lt 17, 3) := by decide +kernel
theorem dX2_hasItem_14 : decode cX2_hasItem 14 = .ok (.iload_n 2, 1) := by decide +kernel
theorem dX2_hasItem_15 : decode cX2_hasItem 15 = .ok (.aload_n 0, 1) := by decide +kernel
theorem dX2_hasItem_16 : decode cX2_hasItem 16 = .ok (.getfield 18, 3) := by decide +kernel
theorem dX2_hasItem_19 : decode cX2_hasItem 19 = .ok (.iload_n 1, 1) := by decide +kernel
theorem dX2_hasItem_20 : decode cX2_hasItem 20 = .ok (.iaload, 1) := by decide +kernel
theorem dX2_hasItem_21 : decode cX2_hasItem 21 = .ok (.if_icmp .ge 7, 3) := by decide +kernel
theorem dX2_hasItem_24 : decode cX2_hasItem 24 = .ok (.iconst 1, 1) := by decide +kernel
theorem dX2_hasItem_25 : decode cX2_hasItem 25 = .ok (.goto 4, 3) := by decide +kernel
theorem dX2_hasItem_28 : decode cX2_hasItem 28 = .ok (.iconst 0, 1) := by decide +kernel
theorem dX2_hasItem_29 : decode cX2_hasItem 29 = .ok (.ireturn, 1) := by decide +kernel
theorem dX2_item_0 : decode cX2_item 0 = .ok (.aload_n 0, 1) := by decide +kernel
theorem dX2_item_1 : decode cX2_item 1 = .ok (.getfield 21, 3) := by decide +kernel
theorem dX2_item_4 : decode cX2_item 4 = .ok (.bipush 60, 2) := by decide +kernel
theorem dX2_item_6 : decode cX2_item 6 = .ok (.iload_n 1, 1) := by decide +kernel
theorem dX2_item_7 : decode cX2_item 7 = .ok (.imul, 1) := by decide +kernel
theorem dX2_item_8 : decode cX2_item 8 = .ok (.iload_n 2, 1) := by decide +kernel
theorem dX2_item_9 : decode cX2_item 9 = .ok (.iadd, 1) := by decide +kernel
theorem dX2_item_10 : decode cX2_item 10 = .ok (.iaload, 1) := by decide +kernel
theorem dX2_item_11 : decode cX2_item 11 = .ok (.ireturn, 1) := by decide +kernel
theorem dX2_setItem_0 : decode cX2_setItem 0 = .ok (.aload_n 0, 1) := by decide +kernel
theorem dX2_setItem_1 : decode cX2_setItem 1 = .ok (.getfield 21, 3) := by decide +kernel
theorem dX2_setItem_4 : decode cX2_setItem 4 = .ok (.bipush 60, 2) := by decide +kernel
theorem dX2_setItem_6 : decode cX2_setItem 6 = .ok (.iload_n 1, 1) := by decide +kernel
theorem dX2_setItem_7 : decode cX2_setItem 7 = .ok (.imul, 1) := by decide +kernel
theorem dX2_setItem_8 : decode cX2_setItem 8 = .ok (.iload_n 2, 1) := by decide +kernel
theorem dX2_setItem_9 : decode cX2_setItem 9 = .ok (.iadd, 1) := by decide +kernel
theorem dX2_setItem_10 : decode cX2_setItem 10 = .ok (.iload_n 3, 1) := by decide +kernel
theorem dX2_setItem_11 : decode cX2_setItem 11 = .ok (.iastore, 1) := by decide +kernel
theorem dX2_setItem_12 : decode cX2_setItem 12 = .ok (.return_, 1) := by decide +kernel
theorem dX2_manyHolding_0 : decode cX2_manyHolding 0 = .ok (.iconst 0, 1) := by decide +kernel
theorem dX2_manyHolding_1 : decode cX2_manyHolding 1 = .ok (.istore_n 1, 1) := by decide +kernel
theorem dX2_manyHolding_2 : decode cX2_manyHolding 2 = .ok (.iconst 0, 1) := by decide +kernel
theorem dX2_manyHolding_3 : decode cX2_manyHolding 3 = .ok (.istore_n 2, 1) := by decide +kernel
theorem dX2_manyHolding_4 : decode cX2_manyHolding 4 = .ok (.iload_n 2, 1) := by decide +kernel
theorem dX2_manyHolding_5 : decode cX2_manyHolding 5 = .ok (.bipush 6, 2) := by decide +kernel
theorem dX2_manyHolding_7 : decode cX2_manyHolding 7 = .ok (.if_icmp .ge 21, 3) := by decide +kernel
theorem dX2_manyHolding_10 : decode cX2_manyHolding 10 = .ok (.aload_n 0, 1) := by decide +kernel
theorem dX2_manyHolding_11 : decode cX2_manyHolding 11 = .ok (.getfield 9, 3) := by decide +kernel
theorem dX2_manyHolding_14 : decode cX2_manyHolding 14 = .ok (.iload_n 2, 1) := by decide +kernel
theorem dX2_manyHolding_15 : decode cX2_manyHolding 15 = .ok (.iaload, 1) := by decide +kernel
theorem dX2_manyHolding_16 : decode cX2_manyHolding 16 = .ok (.ifCond .eq 6, 3) := by decide +kernel
theorem dX2_manyHolding_19 : decode cX2_manyHolding 19 = .ok (.iinc 1 1, 3) := by decide +kernel
theorem dX2_manyHolding_22 : decode cX2_manyHolding 22 = .ok (.iinc 2 1, 3) := by decide +kernel
theorem dX2_manyHolding_25 : decode cX2_manyHolding 25 = .ok (.goto (-21), 3) := by decide +kernel
theorem dX2_manyHolding_28 : decode cX2_manyHolding 28 = .ok (.iload_n 1, 1) := by decide +kernel
theorem dX2_manyHolding_29 : decode cX2_manyHolding 29 = .ok (.ireturn, 1) := by decide +kernel
theorem dX3_init_0 : decode cX3_init 0 = .ok (.aload_n 0, 1) := by decide +kernel
theorem dX3_init_1 : decode cX3_init 1 = .ok (.invokespecial 3, 3) := by decide +kernel
theorem dX3_init_4 : decode cX3_init 4 = .ok (.aload_n 0, 1) := by decide +kernel
theorem dX3_init_5 : decode cX3_init 5 = .ok (.sipush 240, 3) := by decide +kernel
theorem dX3_init_8 : decode cX3_init 8 = .ok (.newarray .int, 2) := by decide +kernel
theorem dX3_init_10 : decode cX3_init 10 = .ok (.putfield 9, 3) := by decide +kernel
theorem dX3_init_13 : decode cX3_init 13 = .ok (.aload_n 0, 1) := by decide +kernel
theorem dX3_init_14 : decode cX3_init 14 = .ok (.new 15, 3) := by decide +kernel
theorem dX3_init_17 : decode cX3_init 17 = .ok (.dup, 1) := by decide +kernel
theorem dX3_init_18 : decode cX3_init 18 = .ok (.invokespecial 17, 3) := by decide +kernel
theorem dX3_init_21 : decode cX3_init 21 = .ok (.putfield 18, 3) := by decide +kernel
theorem dX3_init_24 : decode cX3_init 24 = .ok (.aload_n 0, 1) := by decide +kernel
theorem dX3_init_25 : decode cX3_init 25 = .ok (.new 22, 3) := by decide +kernel
theorem dX3_init_28 : decode cX3_init 28 = .ok (.dup, 1) := by decide +kernel
theorem dX3_init_29 : decode cX3_init 29 = .ok (.invokespecial 24, 3) := by decide +kernel
theorem dX3_init_32 : decode cX3_init 32 = .ok (.putfield 25, 3) := by decide +kernel
theorem dX3_init_35 : decode cX3_init 35 = .ok (.aload_n 0, 1) := by decide +kernel
theorem dX3_init_36 : decode cX3_init 36 = .ok (.new 29, 3) := by decide +kernel
theorem dX3_init_39 : decode cX3_init 39 = .ok (.dup, 1) := by decide +kernel
theorem dX3_init_40 : decode cX3_init 40 = .ok (.invokespecial 31, 3) := by decide +kernel
theorem dX3_init_43 : decode cX3_init 43 = .ok (.putfield 32, 3) := by decide +kernel
theorem dX3_init_46 : decode cX3_init 46 = .ok (.aload_n 0, 1) := by decide +kernel
theorem dX3_init_47 : decode cX3_init 47 = .ok (.new 36, 3) := by decide +kernel
theorem dX3_init_50 : decode cX3_init 50 = .ok (.dup, 1) := by decide +kernel
theorem dX3_init_51 : decode cX3_init 51 = .ok (.invokespecial 38, 3) := by decide +kernel
theorem dX3_init_54 : decode cX3_init 54 = .ok (.putfield 39, 3) := by decide +kernel
theorem dX3_init_57 : decode cX3_init 57 = .ok (.aload_n 0, 1) := by decide +kernel
theorem dX3_init_58 : decode cX3_init 58 = .ok (.bipush 10, 2) := by decide +kernel
theorem dX3_init_60 : decode cX3_init 60 = .ok (.newarray .int, 2) := by decide +kernel
theorem dX3_init_62 : decode cX3_init 62 = .ok (.putfield 43, 3) := by decide +kernel
theorem dX3_init_65 : decode cX3_init 65 = .ok (.aload_n 0, 1) := by decide +kernel
theorem dX3_init_66 : decode cX3_init 66 = .ok (.bipush 6, 2) := by decide +kernel
theorem dX3_init_68 : decode cX3_init 68 = .ok (.newarray .int, 2) := by decide +kernel
theorem dX3_init_70 : decode cX3_init 70 = .ok (.putfield 46, 3) := by decide +kernel
theorem dX3_init_73 : decode cX3_init 73 = .ok (.aload_n 0, 1) := by decide +kernel
theorem dX3_init_74 : decode cX3_init 74 = .ok (.getfield 43, 3) := by decide +kernel
theorem dX3_init_77 : decode cX3_init 77 = .ok (.iconst 0, 1) := by decide +kernel
theorem dX3_init_78 : decode cX3_init 78 = .ok (.bipush 10, 2) := by decide +kernel
theorem dX3_init_80 : decode cX3_init 80 = .ok (.sipush 240, 3) := by decide +kernel
theorem dX3_init_83 : decode cX3_init 83 = .ok (.invokestatic 49, 3) := by decide +kernel
theorem dX3_init_86 : decode cX3_init 86 = .ok (.aload_n 0, 1) := by decide +kernel
theorem dX3_init_87 : decode cX3_init 87 = .ok (.getfield 46, 3) := by decide +kernel
theorem dX3_init_90 : decode cX3_init 90 = .ok (.iconst 0, 1) := by decide +kernel
theorem dX3_init_91 : decode cX3_init 91 = .ok (.bipush 6, 2) := by decide +kernel
theorem dX3_init_93 : decode cX3_init 93 = .ok (.iconst (-1), 1) := by decide +kernel
theorem dX3_init_94 : decode cX3_init 94 = .ok (.invokestatic 49, 3) := by decide +kernel
theorem dX3_init_97 : decode cX3_init 97 = .ok (.return_, 1) := by decide +kernel
theorem dX3_copyFrom_0 : decode cX3_copyFrom 0 = .ok (.aload_n 0, 1) := by decide +kernel
theorem dX3_copyFrom_1 : decode cX3_copyFrom 1 = .ok (.aload_n 1, 1) := by decide +kernel
theorem dX3_copyFrom_2 : decode cX3_copyFrom 2 = .ok (.getfield 53, 3) := by decide +kernel
theorem dX3_copyFrom_5 : decode cX3_copyFrom 5 = .ok (.putfield 53, 3) := by decide +kernel
theorem dX3_copyFrom_8 : decode cX3_copyFrom 8 = .ok (.aload_n 1, 1) := by decide +kernel
theorem dX3_copyFrom_9 : decode cX3_copyFrom 9 = .ok (.getfield 9, 3) := by decide +kernel
theorem dX3_copyFrom_12 : decode cX3_copyFrom 12 = .ok (.aload_n 0, 1) := by decide +kernel
theorem dX3_copyFrom_13 : decode cX3_copyFrom 13 = .ok (.getfield 9, 3) := by decide +kernel
theorem dX3_copyFrom_16 : decode cX3_copyFrom 16 = .ok (.invokestatic 57, 3) := by decide +kernel
theorem dX3_copyFrom_19 : decode cX3_copyFrom 19 = .ok (.aload_n 0, 1) := by decide +kernel
theorem dX3_copyFrom_20 : decode cX3_copyFrom 20 = .ok (.getfield 18, 3) := by decide +kernel
theorem dX3_copyFrom_23 : decode cX3_copyFrom 23 = .ok (.aload_n 1, 1) := by decide +kernel
theorem dX3_copyFrom_24 : decode cX3_copyFrom 24 = .ok (.getfield 18, 3) := by decide +kernel
theorem dX3_copyFrom_27 : decode cX3_copyFrom 27 = .ok (.invokevirtual 61, 3) := by decide +kernel
theorem dX3_copyFrom_30 : decode cX3_copyFrom 30 = .ok (.aload_n 0, 1) := by decide +kernel
theorem dX3_copyFrom_31 : decode cX3_copyFrom 31 = .ok (.getfield 25, 3) := by decide +kernel
theorem dX3_copyFrom_34 : decode cX3_copyFrom 34 = .ok (.aload_n 1, 1) := by decide +kernel
theorem dX3_copyFrom_35 : decode cX3_copyFrom 35 = .ok (.getfield 25, 3) := by decide +kernel
theorem dX3_copyFrom_38 : decode cX3_copyFrom 38 = .ok (.invokevirtual 65, 3) := by decide +kernel
theorem dX3_copyFrom_41 : decode cX3_copyFrom 41 = .ok (.aload_n 0, 1) := by decide +kernel
theorem dX3_copyFrom_42 : decode cX3_copyFrom 42 = .ok (.getfield 32, 3) := by decide +kernel
theorem dX3_copyFrom_45 : decode cX3_copyFrom 45 = .ok (.aload_n 1, 1) := by decide +kernel
theorem dX3_copyFrom_46 : decode cX3_copyFrom 46 = .ok (.getfield 32, 3) := by decide +kernel
theorem dX3_copyFrom_49 : decode cX3_copyFrom 49 = .ok (.invokevirtual 68, 3) := by decide +kernel
theorem dX3_copyFrom_52 : decode cX3_copyFrom 52 = .ok (.aload_n 0, 1) := by decide +kernel
theorem dX3_copyFrom_53 : decode cX3_copyFrom 53 = .ok (.getfield 39, 3) := by decide +kernel
theorem dX3_copyFrom_56 : decode cX3_copyFrom 56 = .ok (.aload_n 1, 1) := by decide +kernel
theorem dX3_copyFrom_57 : decode cX3_copyFrom 57 = .ok (.getfield 39, 3) := by decide +kernel
theorem dX3_copyFrom_60 : decode cX3_copyFrom 60 = .ok (.invokevirtual 71, 3) := by decide +kernel
theorem dX3_copyFrom_63 : decode cX3_copyFrom 63 = .ok (.aload_n 1, 1) := by decide +kernel
theorem dX3_copyFrom_64 : decode cX3_copyFrom 64 = .ok (.getfield 43, 3) := by decide +kernel
theorem dX3_copyFrom_67 : decode cX3_copyFrom 67 = .ok (.aload_n 0, 1) := by decide +kernel
theorem dX3_copyFrom_68 : decode cX3_copyFrom 68 = .ok (.getfield 43, 3) := by decide +kernel
theorem dX3_copyFrom_71 : decode cX3_copyFrom 71 = .ok (.invokestatic 57, 3) := by decide +kernel
theorem dX3_copyFrom_74 : decode cX3_copyFrom 74 = .ok (.aload_n 1, 1) := by decide +kernel
theorem dX3_copyFrom_75 : decode cX3_copyFrom 75 = .ok (.getfield 46, 3) := by decide +kernel
theorem dX3_copyFrom_78 : decode cX3_copyFrom 78 = .ok (.aload_n 0, 1) := by decide +kernel
theorem dX3_copyFrom_79 : decode cX3_copyFrom 79 = .ok (.getfield 46, 3) := by decide +kernel
theorem dX3_copyFrom_82 : decode cX3_copyFrom 82 = .ok (.invokestatic 57, 3) := by decide +kernel
theorem dX3_copyFrom_85 : decode cX3_copyFrom 85 = .ok (.return_, 1) := by decide +kernel
theorem dX3_quotaAllows_0 : decode cX3_quotaAllows 0 = .ok (.aload_n 0, 1) := by decide +kernel
theorem dX3_quotaAllows_1 : decode cX3_quotaAllows 1 = .ok (.getfield 32, 3) := by decide +kernel
theorem dX3_quotaAllows_4 : decode cX3_quotaAllows 4 = .ok (.iload_n 1, 1) := by decide +kernel
theorem dX3_quotaAllows_5 : decode cX3_quotaAllows 5 = .ok (.invokevirtual 74, 3) := by decide +kernel
theorem dX3_quotaAllows_8 : decode cX3_quotaAllows 8 = .ok (.iload_n 2, 1) := by decide +kernel
theorem dX3_quotaAllows_9 : decode cX3_quotaAllows 9 = .ok (.iadd, 1) := by decide +kernel
theorem dX3_quotaAllows_10 : decode cX3_quotaAllows 10 = .ok (.aload_n 0, 1) := by decide +kernel
theorem dX3_quotaAllows_11 : decode cX3_quotaAllows 11 = .ok (.getfield 43, 3) := by decide +kernel
theorem dX3_quotaAllows_14 : decode cX3_quotaAllows 14 = .ok (.iload_n 1, 1) := by decide +kernel
theorem dX3_quotaAllows_15 : decode cX3_quotaAllows 15 = .ok (.iaload, 1) := by decide +kernel
theorem dX3_quotaAllows_16 : decode cX3_quotaAllows 16 = .ok (.if_icmp .gt 7, 3) := by decide +kernel
theorem dX3_quotaAllows_19 : decode cX3_quotaAllows 19 = .ok (.iconst 1, 1) := by decide +kernel
theorem dX3_quotaAllows_20 : decode cX3_quotaAllows 20 = .ok (.goto 4, 3) := by decide +kernel
theorem dX3_quotaAllows_23 : decode cX3_quotaAllows 23 = .ok (.iconst 0, 1) := by decide +kernel
theorem dX3_quotaAllows_24 : decode cX3_quotaAllows 24 = .ok (.ireturn, 1) := by decide +kernel
theorem dX3_placeFor_0 : decode cX3_placeFor 0 = .ok (.aload_n 0, 1) := by decide +kernel
theorem dX3_placeFor_1 : decode cX3_placeFor 1 = .ok (.getfield 25, 3) := by decide +kernel
theorem dX3_placeFor_4 : decode cX3_placeFor 4 = .ok (.aload_n 0, 1) := by decide +kernel
theorem dX3_placeFor_5 : decode cX3_placeFor 5 = .ok (.getfield 18, 3) := by decide +kernel
theorem dX3_placeFor_8 : decode cX3_placeFor 8 = .ok (.iload_n 1, 1) := by decide +kernel
theorem dX3_placeFor_9 : decode cX3_placeFor 9 = .ok (.iload_n 2, 1) := by decide +kernel
theorem dX3_placeFor_10 : decode cX3_placeFor 10 = .ok (.invokevirtual 78, 3) := by decide +kernel
theorem dX3_placeFor_13 : decode cX3_placeFor 13 = .ok (.ireturn, 1) := by decide +kernel
theorem dX3_cellAt_0 : decode cX3_cellAt 0 = .ok (.iload_n 1, 1) := by decide +kernel
theorem dX3_cellAt_1 : decode cX3_cellAt 1 = .ok (.ifCond .lt 26, 3) := by decide +kernel
theorem dX3_cellAt_4 : decode cX3_cellAt 4 = .ok (.iload_n 1, 1) := by decide +kernel
theorem dX3_cellAt_5 : decode cX3_cellAt 5 = .ok (.bipush 30, 2) := by decide +kernel
theorem dX3_cellAt_7 : decode cX3_cellAt 7 = .ok (.if_icmp .ge 20, 3) := by decide +kernel
theorem dX3_cellAt_10 : decode cX3_cellAt 10 = .ok (.iload_n 2, 1) := by decide +kernel
theorem dX3_cellAt_11 : decode cX3_cellAt 11 = .ok (.ifCond .lt 16, 3) := by decide +kernel
theorem dX3_cellAt_14 : decode cX3_cellAt 14 = .ok (.iload_n 2, 1) := by decide +kernel
theorem dX3_cellAt_15 : decode cX3_cellAt 15 = .ok (.aload_n 0, 1) := by decide +kernel
theorem dX3_cellAt_16 : decode cX3_cellAt 16 = .ok (.getfield 32, 3) := by decide +kernel
theorem dX3_cellAt_19 : decode cX3_cellAt 19 = .ok (.getfield 82, 3) := by decide +kernel
theorem dX3_cellAt_22 : decode cX3_cellAt 22 = .ok (.iload_n 1, 1) := by decide +kernel
theorem dX3_cellAt_23 : decode cX3_cellAt 23 = .ok (.iaload, 1) := by decide +kernel
theorem dX3_cellAt_24 : decode cX3_cellAt 24 = .ok (.if_icmp .lt 5, 3) := by decide +kernel
theorem dX3_cellAt_27 : decode cX3_cellAt 27 = .ok (.iconst (-1), 1) := by decide +kernel
theorem dX3_cellAt_28 : decode cX3_cellAt 28 = .ok (.ireturn, 1) := by decide +kernel
theorem dX3_cellAt_29 : decode cX3_cellAt 29 = .ok (.aload_n 0, 1) := by decide +kernel
theorem dX3_cellAt_30 : decode cX3_cellAt 30 = .ok (.getfield 32, 3) := by decide +kernel
theorem dX3_cellAt_33 : decode cX3_cellAt 33 = .ok (.getfield 85, 3) := by decide +kernel
theorem dX3_cellAt_36 : decode cX3_cellAt 36 = .ok (.iload_n 1, 1) := by decide +kernel
theorem dX3_cellAt_37 : decode cX3_cellAt 37 = .ok (.iaload, 1) := by decide +kernel
theorem dX3_cellAt_38 : decode cX3_cellAt 38 = .ok (.iload_n 2, 1) := by decide +kernel
theorem dX3_cellAt_39 : decode cX3_cellAt 39 = .ok (.iadd, 1) := by decide +kernel
theorem dX3_cellAt_40 : decode cX3_cellAt 40 = .ok (.ireturn, 1) := by decide +kernel
theorem dX3_makeBlock_0 : decode cX3_makeBlock 0 = .ok (.aload_n 0, 1) := by decide +kernel
theorem dX3_makeBlock_1 : decode cX3_makeBlock 1 = .ok (.getfield 32, 3) := by decide +kernel
theorem dX3_makeBlock_4 : decode cX3_makeBlock 4 = .ok (.getfield 88, 3) := by decide +kernel
theorem dX3_makeBlock_7 : decode cX3_makeBlock 7 = .ok (.iload_n 1, 1) := by decide +kernel
theorem dX3_makeBlock_8 : decode cX3_makeBlock 8 = .ok (.dup2, 1) := by decide +kernel
theorem dX3_makeBlock_9 : decode cX3_makeBlock 9 = .ok (.iaload, 1) := by decide +kernel
theorem dX3_makeBlock_10 : decode cX3_makeBlock 10 = .ok (.iconst 1, 1) := by decide +kernel
theorem dX3_makeBlock_11 : decode cX3_makeBlock 11 = .ok (.iadd, 1) := by decide +kernel
theorem dX3_makeBlock_12 : decode cX3_makeBlock 12 = .ok (.iastore, 1) := by decide +kernel
theorem dX3_makeBlock_13 : decode cX3_makeBlock 13 = .ok (.aload_n 0, 1) := by decide +kernel
theorem dX3_makeBlock_14 : decode cX3_makeBlock 14 = .ok (.getfield 32, 3) := by decide +kernel
theorem dX3_makeBlock_17 : decode cX3_makeBlock 17 = .ok (.getfield 91, 3) := by decide +kernel
theorem dX3_makeBlock_20 : decode cX3_makeBlock 20 = .ok (.iload_n 1, 1) := by decide +kernel
theorem dX3_makeBlock_21 : decode cX3_makeBlock 21 = .ok (.iconst 1, 1) := by decide +kernel
theorem dX3_makeBlock_22 : decode cX3_makeBlock 22 = .ok (.iastore, 1) := by decide +kernel
theorem dX3_makeBlock_23 : decode cX3_makeBlock 23 = .ok (.aload_n 0, 1) := by decide +kernel
theorem dX3_makeBlock_24 : decode cX3_makeBlock 24 = .ok (.getfield 32, 3) := by decide +kernel
theorem dX3_makeBlock_27 : decode cX3_makeBlock 27 = .ok (.getfield 85, 3) := by decide +kernel
theorem dX3_makeBlock_30 : decode cX3_makeBlock 30 = .ok (.iload_n 1, 1) := by decide +kernel
theorem dX3_makeBlock_31 : decode cX3_makeBlock 31 = .ok (.iload_n 3, 1) := by decide +kernel
theorem dX3_makeBlock_32 : decode cX3_makeBlock 32 = .ok (.iastore, 1) := by decide +kernel
theorem dX3_makeBlock_33 : decode cX3_makeBlock 33 = .ok (.aload_n 0, 1) := by decide +kernel
theorem dX3_makeBlock_34 : decode cX3_makeBlock 34 = .ok (.getfield 32, 3) := by decide +kernel
theorem dX3_makeBlock_37 : decode cX3_makeBlock 37 = .ok (.getfield 82, 3) := by decide +kernel
theorem dX3_makeBlock_40 : decode cX3_makeBlock 40 = .ok (.iload_n 1, 1) := by decide +kernel
theorem dX3_makeBlock_41 : decode cX3_makeBlock 41 = .ok (.iload 4, 2) := by decide +kernel
theorem dX3_makeBlock_43 : decode cX3_makeBlock 43 = .ok (.iastore, 1) := by decide +kernel
theorem dX3_makeBlock_44 : decode cX3_makeBlock 44 = .ok (.aload_n 0, 1) := by decide +kernel
theorem dX3_makeBlock_45 : decode cX3_makeBlock 45 = .ok (.getfield 32, 3) := by decide +kernel
theorem dX3_makeBlock_48 : decode cX3_makeBlock 48 = .ok (.getfield 94, 3) := by decide +kernel
theorem dX3_makeBlock_51 : decode cX3_makeBlock 51 = .ok (.iload_n 1, 1) := by decide +kernel
theorem dX3_makeBlock_52 : decode cX3_makeBlock 52 = .ok (.iload_n 2, 1) := by decide +kernel
theorem dX3_makeBlock_53 : decode cX3_makeBlock 53 = .ok (.iastore, 1) := by decide +kernel
theorem dX3_makeBlock_54 : decode cX3_makeBlock 54 = .ok (.aload_n 0, 1) := by decide +kernel
theorem dX3_makeBlock_55 : decode cX3_makeBlock 55 = .ok (.getfield 32, 3) := by decide +kernel
theorem dX3_makeBlock_58 : decode cX3_makeBlock 58 = .ok (.getfield 97, 3) := by decide +kernel
theorem dX3_makeBlock_61 : decode cX3_makeBlock 61 = .ok (.iload_n 1, 1) := by decide +kernel
theorem dX3_makeBlock_62 : decode cX3_makeBlock 62 = .ok (.iload 5, 2) := by decide +kernel
theorem dX3_makeBlock_64 : decode cX3_makeBlock 64 = .ok (.iastore, 1) := by decide +kernel
theorem dX3_makeBlock_65 : decode cX3_makeBlock 65 = .ok (.aload_n 0, 1) := by decide +kernel
theorem dX3_makeBlock_66 : decode cX3_makeBlock 66 = .ok (.getfield 32, 3) := by decide +kernel
theorem dX3_makeBlock_69 : decode cX3_makeBlock 69 = .ok (.getfield 100, 3) := by decide +kernel
theorem dX3_makeBlock_72 : decode cX3_makeBlock 72 = .ok (.iload_n 1, 1) := by decide +kernel
theorem dX3_makeBlock_73 : decode cX3_makeBlock 73 = .ok (.iconst 0, 1) := by decide +kernel
theorem dX3_makeBlock_74 : decode cX3_makeBlock 74 = .ok (.iastore, 1) := by decide +kernel
theorem dX3_makeBlock_75 : decode cX3_makeBlock 75 = .ok (.aload_n 0, 1) := by decide +kernel
theorem dX3_makeBlock_76 : decode cX3_makeBlock 76 = .ok (.getfield 32, 3) := by decide +kernel
theorem dX3_makeBlock_79 : decode cX3_makeBlock 79 = .ok (.getfield 103, 3) := by decide +kernel
theorem dX3_makeBlock_82 : decode cX3_makeBlock 82 = .ok (.iload_n 1, 1) := by decide +kernel
theorem dX3_makeBlock_83 : decode cX3_makeBlock 83 = .ok (.iconst (-1), 1) := by decide +kernel
theorem dX3_makeBlock_84 : decode cX3_makeBlock 84 = .ok (.iastore, 1) := by decide +kernel
theorem dX3_makeBlock_85 : decode cX3_makeBlock 85 = .ok (.aload_n 0, 1) := by decide +kernel
theorem dX3_makeBlock_86 : decode cX3_makeBlock 86 = .ok (.getfield 25, 3) := by decide +kernel
theorem dX3_makeBlock_89 : decode cX3_makeBlock 89 = .ok (.iload_n 3, 1) := by decide +kernel
theorem dX3_makeBlock_90 : decode cX3_makeBlock 90 = .ok (.iload 4, 2) := by decide +kernel
theorem dX3_makeBlock_92 : decode cX3_makeBlock 92 = .ok (.iload_n 1, 1) := by decide +kernel
theorem dX3_makeBlock_93 : decode cX3_makeBlock 93 = .ok (.invokevirtual 106, 3) := by decide +kernel
theorem dX3_makeBlock_96 : decode cX3_makeBlock 96 = .ok (.aload_n 0, 1) := by decide +kernel
theorem dX3_makeBlock_97 : decode cX3_makeBlock 97 = .ok (.getfield 9, 3) := by decide +kernel
theorem dX3_makeBlock_100 : decode cX3_makeBlock 100 = .ok (.iload_n 3, 1) := by decide +kernel
theorem dX3_makeBlock_101 : decode cX3_makeBlock 101 = .ok (.iload 4, 2) := by decide +kernel
theorem dX3_makeBlock_103 : decode cX3_makeBlock 103 = .ok (.iconst 0, 1) := by decide +kernel
theorem dX3_makeBlock_104 : decode cX3_makeBlock 104 = .ok (.invokestatic 49, 3) := by decide +kernel
theorem dX3_makeBlock_107 : decode cX3_makeBlock 107 = .ok (.return_, 1) := by decide +kernel
theorem dX3_doom_0 : decode cX3_doom 0 = .ok (.aload_n 0, 1) := by decide +kernel
theorem dX3_doom_1 : decode cX3_doom 1 = .ok (.getfield 32, 3) := by decide +kernel
theorem dX3_doom_4 : decode cX3_doom 4 = .ok (.getfield 91, 3) := by decide +kernel
theorem dX3_doom_7 : decode cX3_doom 7 = .ok (.iload_n 1, 1) := by decide +kernel
theorem dX3_doom_8 : decode cX3_doom 8 = .ok (.iconst 2, 1) := by decide +kernel
theorem dX3_doom_9 : decode cX3_doom 9 = .ok (.iastore, 1) := by decide +kernel
theorem dX3_doom_10 : decode cX3_doom 10 = .ok (.aload_n 0, 1) := by decide +kernel
theorem dX3_doom_11 : decode cX3_doom 11 = .ok (.getfield 32, 3) := by decide +kernel
theorem dX3_doom_14 : decode cX3_doom 14 = .ok (.getfield 110, 3) := by decide +kernel
theorem dX3_doom_17 : decode cX3_doom 17 = .ok (.iload_n 1, 1) := by decide +kernel
theorem dX3_doom_18 : decode cX3_doom 18 = .ok (.aload_n 0, 1) := by decide +kernel
theorem dX3_doom_19 : decode cX3_doom 19 = .ok (.getfield 53, 3) := by decide +kernel
theorem dX3_doom_22 : decode cX3_doom 22 = .ok (.iastore, 1) := by decide +kernel
theorem dX3_doom_23 : decode cX3_doom 23 = .ok (.aload_n 0, 1) := by decide +kernel
theorem dX3_doom_24 : decode cX3_doom 24 = .ok (.getfield 32, 3) := by decide +kernel
theorem dX3_doom_27 : decode cX3_doom 27 = .ok (.getfield 103, 3) := by decide +kernel
theorem dX3_doom_30 : decode cX3_doom 30 = .ok (.iload_n 1, 1) := by decide +kernel
theorem dX3_doom_31 : decode cX3_doom 31 = .ok (.iconst (-1), 1) := by decide +kernel
theorem dX3_doom_32 : decode cX3_doom 32 = .ok (.iastore, 1) := by decide +kernel
theorem dX3_doom_33 : decode cX3_doom 33 = .ok (.aload_n 0, 1) := by decide +kernel
theorem dX3_doom_34 : decode cX3_doom 34 = .ok (.getfield 39, 3) := by decide +kernel
theorem dX3_doom_37 : decode cX3_doom 37 = .ok (.iload_n 1, 1) := by decide +kernel
theorem dX3_doom_38 : decode cX3_doom 38 = .ok (.invokevirtual 113, 3) := by decide +kernel
theorem dX3_doom_41 : decode cX3_doom 41 = .ok (.return_, 1) := by decide +kernel
theorem dX3_growInPlace_0 : decode cX3_growInPlace 0 = .ok (.aload_n 0, 1) := by decide +kernel
theorem dX3_growInPlace_1 : decode cX3_growInPlace 1 = .ok (.getfield 32, 3) := by decide +kernel
theorem dX3_growInPlace_4 : decode cX3_growInPlace 4 = .ok (.getfield 85, 3) := by decide +kernel
theorem dX3_growInPlace_7 : decode cX3_growInPlace 7 = .ok (.iload_n 1, 1) := by decide +kernel
theorem dX3_growInPlace_8 : decode cX3_growInPlace 8 = .ok (.iaload, 1) := by decide +kernel
theorem dX3_growInPlace_9 : decode cX3_growInPlace 9 = .ok (.aload_n 0, 1) := by decide +kernel
theorem dX3_growInPlace_10 : decode cX3_growInPlace 10 = .ok (.getfield 32, 3) := by decide +kernel
theorem dX3_growInPlace_13 : decode cX3_growInPlace 13 = .ok (.getfield 82, 3) := by decide +kernel
theorem dX3_growInPlace_16 : decode cX3_growInPlace 16 = .ok (.iload_n 1, 1) := by decide +kernel
theorem dX3_growInPlace_17 : decode cX3_growInPlace 17 = .ok (.iaload, 1) := by decide +kernel
theorem dX3_growInPlace_18 : decode cX3_growInPlace 18 = .ok (.iadd, 1) := by decide +kernel
theorem dX3_growInPlace_19 : decode cX3_growInPlace 19 = .ok (.istore_n 3, 1) := by decide +kernel
theorem dX3_growInPlace_20 : decode cX3_growInPlace 20 = .ok (.iload_n 3, 1) := by decide +kernel
theorem dX3_growInPlace_21 : decode cX3_growInPlace 21 = .ok (.iload_n 2, 1) := by decide +kernel
theorem dX3_growInPlace_22 : decode cX3_growInPlace 22 = .ok (.iadd, 1) := by decide +kernel
theorem dX3_growInPlace_23 : decode cX3_growInPlace 23 = .ok (.aload_n 0, 1) := by decide +kernel
theorem dX3_growInPlace_24 : decode cX3_growInPlace 24 = .ok (.getfield 18, 3) := by decide +kernel
theorem dX3_growInPlace_27 : decode cX3_growInPlace 27 = .ok (.aload_n 0, 1) := by decide +kernel
theorem dX3_growInPlace_28 : decode cX3_growInPlace 28 = .ok (.getfield 32, 3) := by decide +kernel
theorem dX3_growInPlace_31 : decode cX3_growInPlace 31 = .ok (.getfield 94, 3) := by decide +kernel
theorem dX3_growInPlace_34 : decode cX3_growInPlace 34 = .ok (.iload_n 1, 1) := by decide +kernel
theorem dX3_growInPlace_35 : decode cX3_growInPlace 35 = .ok (.iaload, 1) := by decide +kernel
theorem dX3_growInPlace_36 : decode cX3_growInPlace 36 = .ok (.invokevirtual 117, 3) := by decide +kernel
theorem dX3_growInPlace_39 : decode cX3_growInPlace 39 = .ok (.if_icmp .le 5, 3) := by decide +kernel
theorem dX3_growInPlace_42 : decode cX3_growInPlace 42 = .ok (.iconst 0, 1) := by decide +kernel
theorem dX3_growInPlace_43 : decode cX3_growInPlace 43 = .ok (.ireturn, 1) := by decide +kernel
theorem dX3_growInPlace_44 : decode cX3_growInPlace 44 = .ok (.aload_n 0, 1) := by decide +kernel
theorem dX3_growInPlace_45 : decode cX3_growInPlace 45 = .ok (.getfield 25, 3) := by decide +kernel
theorem dX3_growInPlace_48 : decode cX3_growInPlace 48 = .ok (.iload_n 3, 1) := by decide +kernel
theorem dX3_growInPlace_49 : decode cX3_growInPlace 49 = .ok (.iload_n 2, 1) := by decide +kernel
theorem dX3_growInPlace_50 : decode cX3_growInPlace 50 = .ok (.invokevirtual 120, 3) := by decide +kernel
theorem dX3_growInPlace_53 : decode cX3_growInPlace 53 = .ok (.ifCond .ne 5, 3) := by decide +kernel
theorem dX3_growInPlace_56 : decode cX3_growInPlace 56 = .ok (.iconst 0, 1) := by decide +kernel
theorem dX3_growInPlace_57 : decode cX3_growInPlace 57 = .ok (.ireturn, 1) := by decide +kernel
theorem dX3_growInPlace_58 : decode cX3_growInPlace 58 = .ok (.aload_n 0, 1) := by decide +kernel
theorem dX3_growInPlace_59 : decode cX3_growInPlace 59 = .ok (.getfield 25, 3) := by decide +kernel
theorem dX3_growInPlace_62 : decode cX3_growInPlace 62 = .ok (.iload_n 3, 1) := by decide +kernel
theorem dX3_growInPlace_63 : decode cX3_growInPlace 63 = .ok (.iload_n 2, 1) := by decide +kernel
theorem dX3_growInPlace_64 : decode cX3_growInPlace 64 = .ok (.iload_n 1, 1) := by decide +kernel
theorem dX3_growInPlace_65 : decode cX3_growInPlace 65 = .ok (.invokevirtual 106, 3) := by decide +kernel
theorem dX3_growInPlace_68 : decode cX3_growInPlace 68 = .ok (.aload_n 0, 1) := by decide +kernel
theorem dX3_growInPlace_69 : decode cX3_growInPlace 69 = .ok (.getfield 9, 3) := by decide +kernel
theorem dX3_growInPlace_72 : decode cX3_growInPlace 72 = .ok (.iload_n 3, 1) := by decide +kernel
theorem dX3_growInPlace_73 : decode cX3_growInPlace 73 = .ok (.iload_n 2, 1) := by decide +kernel
theorem dX3_growInPlace_74 : decode cX3_growInPlace 74 = .ok (.iconst 0, 1) := by decide +kernel
theorem dX3_growInPlace_75 : decode cX3_growInPlace 75 = .ok (.invokestatic 49, 3) := by decide +kernel
theorem dX3_growInPlace_78 : decode cX3_growInPlace 78 = .ok (.aload_n 0, 1) := by decide +kernel
theorem dX3_growInPlace_79 : decode cX3_growInPlace 79 = .ok (.getfield 32, 3) := by decide +kernel
theorem dX3_growInPlace_82 : decode cX3_growInPlace 82 = .ok (.getfield 82, 3) := by decide +kernel
theorem dX3_growInPlace_85 : decode cX3_growInPlace 85 = .ok (.iload_n 1, 1) := by decide +kernel
theorem dX3_growInPlace_86 : decode cX3_growInPlace 86 = .ok (.dup2, 1) := by decide +kernel
theorem dX3_growInPlace_87 : decode cX3_growInPlace 87 = .ok (.iaload, 1) := by decide +kernel
theorem dX3_growInPlace_88 : decode cX3_growInPlace 88 = .ok (.iload_n 2, 1) := by decide +kernel
theorem dX3_growInPlace_89 : decode cX3_growInPlace 89 = .ok (.iadd, 1) := by decide +kernel
theorem dX3_growInPlace_90 : decode cX3_growInPlace 90 = .ok (.iastore, 1) := by decide +kernel
theorem dX3_growInPlace_91 : decode cX3_growInPlace 91 = .ok (.iconst 1, 1) := by decide +kernel
theorem dX3_growInPlace_92 : decode cX3_growInPlace 92 = .ok (.ireturn, 1) := by decide +kernel
theorem dX3_growElsewhere_0 : decode cX3_growElsewhere 0 = .ok (.aload_n 0, 1) := by decide +kernel
theorem dX3_growElsewhere_1 : decode cX3_growElsewhere 1 = .ok (.getfield 32, 3) := by decide +kernel
theorem dX3_growElsewhere_4 : decode cX3_growElsewhere 4 = .ok (.getfield 82, 3) := by decide +kernel
theorem dX3_growElsewhere_7 : decode cX3_growElsewhere 7 = .ok (.iload_n 1, 1) := by decide +kernel
theorem dX3_growElsewhere_8 : decode cX3_growElsewhere 8 = .ok (.iaload, 1) := by decide +kernel
theorem dX3_growElsewhere_9 : decode cX3_growElsewhere 9 = .ok (.istore_n 3, 1) := by decide +kernel
theorem dX3_growElsewhere_10 : decode cX3_growElsewhere 10 = .ok (.aload_n 0, 1) := by decide +kernel
theorem dX3_growElsewhere_11 : decode cX3_growElsewhere 11 = .ok (.aload_n 0, 1) := by decide +kernel
theorem dX3_growElsewhere_12 : decode cX3_growElsewhere 12 = .ok (.getfield 32, 3) := by decide +kernel
theorem dX3_growElsewhere_15 : decode cX3_growElsewhere 15 = .ok (.getfield 94, 3) := by decide +kernel
theorem dX3_growElsewhere_18 : decode cX3_growElsewhere 18 = .ok (.iload_n 1, 1) := by decide +kernel
theorem dX3_growElsewhere_19 : decode cX3_growElsewhere 19 = .ok (.iaload, 1) := by decide +kernel
theorem dX3_growElsewhere_20 : decode cX3_growElsewhere 20 = .ok (.iload_n 3, 1) := by decide +kernel
theorem dX3_growElsewhere_21 : decode cX3_growElsewhere 21 = .ok (.iload_n 2, 1) := by decide +kernel
theorem dX3_growElsewhere_22 : decode cX3_growElsewhere 22 = .ok (.iadd, 1) := by decide +kernel
theorem dX3_growElsewhere_23 : decode cX3_growElsewhere 23 = .ok (.invokevirtual 124, 3) := by decide +kernel
theorem dX3_growElsewhere_26 : decode cX3_growElsewhere 26 = .ok (.istore 4, 2) := by decide +kernel
theorem dX3_growElsewhere_28 : decode cX3_growElsewhere 28 = .ok (.iload 4, 2) := by decide +kernel
theorem dX3_growElsewhere_30 : decode cX3_growElsewhere 30 = .ok (.iconst (-1), 1) := by decide +kernel
theorem dX3_growElsewhere_31 : decode cX3_growElsewhere 31 = .ok (.if_icmp .ne 5, 3) := by decide +kernel
theorem dX3_growElsewhere_34 : decode cX3_growElsewhere 34 = .ok (.iconst 0, 1) := by decide +kernel
theorem dX3_growElsewhere_35 : decode cX3_growElsewhere 35 = .ok (.ireturn, 1) := by decide +kernel
theorem dX3_growElsewhere_36 : decode cX3_growElsewhere 36 = .ok (.aload_n 0, 1) := by decide +kernel
theorem dX3_growElsewhere_37 : decode cX3_growElsewhere 37 = .ok (.iload_n 1, 1) := by decide +kernel
theorem dX3_growElsewhere_38 : decode cX3_growElsewhere 38 = .ok (.iload 4, 2) := by decide +kernel
theorem dX3_growElsewhere_40 : decode cX3_growElsewhere 40 = .ok (.invokevirtual 128, 3) := by decide +kernel
theorem dX3_growElsewhere_43 : decode cX3_growElsewhere 43 = .ok (.aload_n 0, 1) := by decide +kernel
theorem dX3_growElsewhere_44 : decode cX3_growElsewhere 44 = .ok (.getfield 32, 3) := by decide +kernel
theorem dX3_growElsewhere_47 : decode cX3_growElsewhere 47 = .ok (.getfield 82, 3) := by decide +kernel
theorem dX3_growElsewhere_50 : decode cX3_growElsewhere 50 = .ok (.iload_n 1, 1) := by decide +kernel
theorem dX3_growElsewhere_51 : decode cX3_growElsewhere 51 = .ok (.iload_n 3, 1) := by decide +kernel
theorem dX3_growElsewhere_52 : decode cX3_growElsewhere 52 = .ok (.iload_n 2, 1) := by decide +kernel
theorem dX3_growElsewhere_53 : decode cX3_growElsewhere 53 = .ok (.iadd, 1) := by decide +kernel
theorem dX3_growElsewhere_54 : decode cX3_growElsewhere 54 = .ok (.iastore, 1) := by decide +kernel
theorem dX3_growElsewhere_55 : decode cX3_growElsewhere 55 = .ok (.aload_n 0, 1) := by decide +kernel
theorem dX3_growElsewhere_56 : decode cX3_growElsewhere 56 = .ok (.getfield 25, 3) := by decide +kernel
theorem dX3_growElsewhere_59 : decode cX3_growElsewhere 59 = .ok (.iload 4, 2) := by decide +kernel
theorem dX3_growElsewhere_61 : decode cX3_growElsewhere 61 = .ok (.iload_n 3, 1) := by decide +kernel
theorem dX3_growElsewhere_62 : decode cX3_growElsewhere 62 = .ok (.iadd, 1) := by decide +kernel
theorem dX3_growElsewhere_63 : decode cX3_growElsewhere 63 = .ok (.iload_n 2, 1) := by decide +kernel
theorem dX3_growElsewhere_64 : decode cX3_growElsewhere 64 = .ok (.iload_n 1, 1) := by decide +kernel
theorem dX3_growElsewhere_65 : decode cX3_growElsewhere 65 = .ok (.invokevirtual 106, 3) := by decide +kernel
theorem dX3_growElsewhere_68 : decode cX3_growElsewhere 68 = .ok (.aload_n 0, 1) := by decide +kernel
theorem dX3_growElsewhere_69 : decode cX3_growElsewhere 69 = .ok (.getfield 9, 3) := by decide +kernel
theorem dX3_growElsewhere_72 : decode cX3_growElsewhere 72 = .ok (.iload 4, 2) := by decide +kernel
theorem dX3_growElsewhere_74 : decode cX3_growElsewhere 74 = .ok (.iload_n 3, 1) := by decide +kernel
theorem dX3_growElsewhere_75 : decode cX3_growElsewhere 75 = .ok (.iadd, 1) := by decide +kernel
theorem dX3_growElsewhere_76 : decode cX3_growElsewhere 76 = .ok (.iload_n 2, 1) := by decide +kernel
theorem dX3_growElsewhere_77 : decode cX3_growElsewhere 77 = .ok (.iconst 0, 1) := by decide +kernel
theorem dX3_growElsewhere_78 : decode cX3_growElsewhere 78 = .ok (.invokestatic 49, 3) := by decide +kernel
theorem dX3_growElsewhere_81 : decode cX3_growElsewhere 81 = .ok (.iconst 1, 1) := by decide +kernel
theorem dX3_growElsewhere_82 : decode cX3_growElsewhere 82 = .ok (.ireturn, 1) := by decide +kernel
theorem dX3_layAt_0 : decode cX3_layAt 0 = .ok (.aload_n 0, 1) := by decide +kernel
theorem dX3_layAt_1 : decode cX3_layAt 1 = .ok (.getfield 32, 3) := by decide +kernel
theorem dX3_layAt_4 : decode cX3_layAt 4 = .ok (.getfield 85, 3) := by decide +kernel
theorem dX3_layAt_7 : decode cX3_layAt 7 = .ok (.iload_n 1, 1) := by decide +kernel
theorem dX3_layAt_8 : decode cX3_layAt 8 = .ok (.iaload, 1) := by decide +kernel
theorem dX3_layAt_9 : decode cX3_layAt 9 = .ok (.istore_n 3, 1) := by decide +kernel
theorem dX3_layAt_10 : decode cX3_layAt 10 = .ok (.aload_n 0, 1) := by decide +kernel
theorem dX3_layAt_11 : decode cX3_layAt 11 = .ok (.getfield 32, 3) := by decide +kernel
theorem dX3_layAt_14 : decode cX3_layAt 14 = .ok (.getfield 82, 3) := by decide +kernel
theorem dX3_layAt_17 : decode cX3_layAt 17 = .ok (.iload_n 1, 1) := by decide +kernel
theorem dX3_layAt_18 : decode cX3_layAt 18 = .ok (.iaload, 1) := by decide +kernel
theorem dX3_layAt_19 : decode cX3_layAt 19 = .ok (.istore 4, 2) := by decide +kernel
theorem dX3_layAt_21 : decode cX3_layAt 21 = .ok (.aload_n 0, 1) := by decide +kernel
theorem dX3_layAt_22 : decode cX3_layAt 22 = .ok (.getfield 9, 3) := by decide +kernel
theorem dX3_layAt_25 : decode cX3_layAt 25 = .ok (.iload_n 3, 1) := by decide +kernel
theorem dX3_layAt_26 : decode cX3_layAt 26 = .ok (.aload_n 0, 1) := by decide +kernel
theorem dX3_layAt_27 : decode cX3_layAt 27 = .ok (.getfield 9, 3) := by decide +kernel
theorem dX3_layAt_30 : decode cX3_layAt 30 = .ok (.iload_n 2, 1) := by decide +kernel
theorem dX3_layAt_31 : decode cX3_layAt 31 = .ok (.iload 4, 2) := by decide +kernel
theorem dX3_layAt_33 : decode cX3_layAt 33 = .ok (.invokestatic 132, 3) := by decide +kernel
theorem dX3_layAt_36 : decode cX3_layAt 36 = .ok (.aload_n 0, 1) := by decide +kernel
theorem dX3_layAt_37 : decode cX3_layAt 37 = .ok (.getfield 25, 3) := by decide +kernel
theorem dX3_layAt_40 : decode cX3_layAt 40 = .ok (.iload_n 3, 1) := by decide +kernel
theorem dX3_layAt_41 : decode cX3_layAt 41 = .ok (.iload 4, 2) := by decide +kernel
theorem dX3_layAt_43 : decode cX3_layAt 43 = .ok (.invokevirtual 138, 3) := by decide +kernel
theorem dX3_layAt_46 : decode cX3_layAt 46 = .ok (.aload_n 0, 1) := by decide +kernel
theorem dX3_layAt_47 : decode cX3_layAt 47 = .ok (.getfield 25, 3) := by decide +kernel
theorem dX3_layAt_50 : decode cX3_layAt 50 = .ok (.iload_n 2, 1) := by decide +kernel
theorem dX3_layAt_51 : decode cX3_layAt 51 = .ok (.iload 4, 2) := by decide +kernel
theorem dX3_layAt_53 : decode cX3_layAt 53 = .ok (.iload_n 1, 1) := by decide +kernel
theorem dX3_layAt_54 : decode cX3_layAt 54 = .ok (.invokevirtual 106, 3) := by decide +kernel
theorem dX3_layAt_57 : decode cX3_layAt 57 = .ok (.aload_n 0, 1) := by decide +kernel
theorem dX3_layAt_58 : decode cX3_layAt 58 = .ok (.getfield 32, 3) := by decide +kernel
theorem dX3_layAt_61 : decode cX3_layAt 61 = .ok (.getfield 85, 3) := by decide +kernel
theorem dX3_layAt_64 : decode cX3_layAt 64 = .ok (.iload_n 1, 1) := by decide +kernel
theorem dX3_layAt_65 : decode cX3_layAt 65 = .ok (.iload_n 2, 1) := by decide +kernel
theorem dX3_layAt_66 : decode cX3_layAt 66 = .ok (.iastore, 1) := by decide +kernel
theorem dX3_layAt_67 : decode cX3_layAt 67 = .ok (.return_, 1) := by decide +kernel
theorem dX3_moveWithin_0 : decode cX3_moveWithin 0 = .ok (.iconst 0, 1) := by decide +kernel
theorem dX3_moveWithin_1 : decode cX3_moveWithin 1 = .ok (.istore_n 3, 1) := by decide +kernel
theorem dX3_moveWithin_2 : decode cX3_moveWithin 2 = .ok (.iconst 0, 1) := by decide +kernel
theorem dX3_moveWithin_3 : decode cX3_moveWithin 3 = .ok (.istore 4, 2) := by decide +kernel
theorem dX3_moveWithin_5 : decode cX3_moveWithin 5 = .ok (.iload 4, 2) := by decide +kernel
theorem dX3_moveWithin_7 : decode cX3_moveWithin 7 = .ok (.bipush 30, 2) := by decide +kernel
theorem dX3_moveWithin_9 : decode cX3_moveWithin 9 = .ok (.if_icmp .ge 65, 3) := by decide +kernel
theorem dX3_moveWithin_12 : decode cX3_moveWithin 12 = .ok (.aload_n 0, 1) := by decide +kernel
theorem dX3_moveWithin_13 : decode cX3_moveWithin 13 = .ok (.iload_n 1, 1) := by decide +kernel
theorem dX3_moveWithin_14 : decode cX3_moveWithin 14 = .ok (.invokevirtual 141, 3) := by decide +kernel
theorem dX3_moveWithin_17 : decode cX3_moveWithin 17 = .ok (.istore 5, 2) := by decide +kernel
theorem dX3_moveWithin_19 : decode cX3_moveWithin 19 = .ok (.iload 5, 2) := by decide +kernel
theorem dX3_moveWithin_21 : decode cX3_moveWithin 21 = .ok (.iconst (-1), 1) := by decide +kernel
theorem dX3_moveWithin_22 : decode cX3_moveWithin 22 = .ok (.if_icmp .eq 19, 3) := by decide +kernel
theorem dX3_moveWithin_25 : decode cX3_moveWithin 25 = .ok (.aload_n 0, 1) := by decide +kernel
theorem dX3_moveWithin_26 : decode cX3_moveWithin 26 = .ok (.getfield 32, 3) := by decide +kernel
theorem dX3_moveWithin_29 : decode cX3_moveWithin 29 = .ok (.getfield 82, 3) := by decide +kernel
theorem dX3_moveWithin_32 : decode cX3_moveWithin 32 = .ok (.iload 5, 2) := by decide +kernel
theorem dX3_moveWithin_34 : decode cX3_moveWithin 34 = .ok (.iaload, 1) := by decide +kernel
theorem dX3_moveWithin_35 : decode cX3_moveWithin 35 = .ok (.iload_n 2, 1) := by decide +kernel
theorem dX3_moveWithin_36 : decode cX3_moveWithin 36 = .ok (.iload_n 3, 1) := by decide +kernel
theorem dX3_moveWithin_37 : decode cX3_moveWithin 37 = .ok (.isub, 1) := by decide +kernel
theorem dX3_moveWithin_38 : decode cX3_moveWithin 38 = .ok (.if_icmp .le 5, 3) := by decide +kernel
theorem dX3_moveWithin_41 : decode cX3_moveWithin 41 = .ok (.iload_n 3, 1) := by decide +kernel
theorem dX3_moveWithin_42 : decode cX3_moveWithin 42 = .ok (.ireturn, 1) := by decide +kernel
theorem dX3_moveWithin_43 : decode cX3_moveWithin 43 = .ok (.iload_n 3, 1) := by decide +kernel
theorem dX3_moveWithin_44 : decode cX3_moveWithin 44 = .ok (.aload_n 0, 1) := by decide +kernel
theorem dX3_moveWithin_45 : decode cX3_moveWithin 45 = .ok (.getfield 32, 3) := by decide +kernel
theorem dX3_moveWithin_48 : decode cX3_moveWithin 48 = .ok (.getfield 82, 3) := by decide +kernel
theorem dX3_moveWithin_51 : decode cX3_moveWithin 51 = .ok (.iload 5, 2) := by decide +kernel
theorem dX3_moveWithin_53 : decode cX3_moveWithin 53 = .ok (.iaload, 1) := by decide +kernel
theorem dX3_moveWithin_54 : decode cX3_moveWithin 54 = .ok (.iadd, 1) := by decide +kernel
theorem dX3_moveWithin_55 : decode cX3_moveWithin 55 = .ok (.istore_n 3, 1) := by decide +kernel
theorem dX3_moveWithin_56 : decode cX3_moveWithin 56 = .ok (.aload_n 0, 1) := by decide +kernel
theorem dX3_moveWithin_57 : decode cX3_moveWithin 57 = .ok (.iload 5, 2) := by decide +kernel
theorem dX3_moveWithin_59 : decode cX3_moveWithin 59 = .ok (.aload_n 0, 1) := by decide +kernel
theorem dX3_moveWithin_60 : decode cX3_moveWithin 60 = .ok (.iload 5, 2) := by decide +kernel
theorem dX3_moveWithin_62 : decode cX3_moveWithin 62 = .ok (.invokevirtual 144, 3) := by decide +kernel
theorem dX3_moveWithin_65 : decode cX3_moveWithin 65 = .ok (.invokevirtual 128, 3) := by decide +kernel
theorem dX3_moveWithin_68 : decode cX3_moveWithin 68 = .ok (.iinc 4 1, 3) := by decide +kernel
theorem dX3_moveWithin_71 : decode cX3_moveWithin 71 = .ok (.goto (-66), 3) := by decide +kernel
theorem dX3_moveWithin_74 : decode cX3_moveWithin 74 = .ok (.iload_n 3, 1) := by decide +kernel
theorem dX3_moveWithin_75 : decode cX3_moveWithin 75 = .ok (.ireturn, 1) := by decide +kernel
theorem dX3_leastBudget_0 : decode cX3_leastBudget 0 = .ok (.iconst 0, 1) := by decide +kernel
theorem dX3_leastBudget_1 : decode cX3_leastBudget 1 = .ok (.istore_n 3, 1) := by decide +kernel
theorem dX3_leastBudget_2 : decode cX3_leastBudget 2 = .ok (.iconst 0, 1) := by decide +kernel
theorem dX3_leastBudget_3 : decode cX3_leastBudget 3 = .ok (.istore 4, 2) := by decide +kernel
theorem dX3_leastBudget_5 : decode cX3_leastBudget 5 = .ok (.iload 4, 2) := by decide +kernel
theorem dX3_leastBudget_7 : decode cX3_leastBudget 7 = .ok (.bipush 30, 2) := by decide +kernel
theorem dX3_leastBudget_9 : decode cX3_leastBudget 9 = .ok (.if_icmp .gt 61, 3) := by decide +kernel
theorem dX3_leastBudget_12 : decode cX3_leastBudget 12 = .ok (.aload_n 0, 1) := by decide +kernel
theorem dX3_leastBudget_13 : decode cX3_leastBudget 13 = .ok (.iload_n 1, 1) := by decide +kernel
theorem dX3_leastBudget_14 : decode cX3_leastBudget 14 = .ok (.iload_n 2, 1) := by decide +kernel
theorem dX3_leastBudget_15 : decode cX3_leastBudget 15 = .ok (.invokevirtual 124, 3) := by decide +kernel
theorem dX3_leastBudget_18 : decode cX3_leastBudget 18 = .ok (.iconst (-1), 1) := by decide +kernel
theorem dX3_leastBudget_19 : decode cX3_leastBudget 19 = .ok (.if_icmp .eq 5, 3) := by decide +kernel
theorem dX3_leastBudget_22 : decode cX3_leastBudget 22 = .ok (.iload_n 3, 1) := by decide +kernel
theorem dX3_leastBudget_23 : decode cX3_leastBudget 23 = .ok (.ireturn, 1) := by decide +kernel
theorem dX3_leastBudget_24 : decode cX3_leastBudget 24 = .ok (.aload_n 0, 1) := by decide +kernel
theorem dX3_leastBudget_25 : decode cX3_leastBudget 25 = .ok (.iload_n 1, 1) := by decide +kernel
theorem dX3_leastBudget_26 : decode cX3_leastBudget 26 = .ok (.invokevirtual 141, 3) := by decide +kernel
theorem dX3_leastBudget_29 : decode cX3_leastBudget 29 = .ok (.istore 5, 2) := by decide +kernel
theorem dX3_leastBudget_31 : decode cX3_leastBudget 31 = .ok (.iload 5, 2) := by decide +kernel
theorem dX3_leastBudget_33 : decode cX3_leastBudget 33 = .ok (.iconst (-1), 1) := by decide +kernel
theorem dX3_leastBudget_34 : decode cX3_leastBudget 34 = .ok (.if_icmp .ne 5, 3) := by decide +kernel
theorem dX3_leastBudget_37 : decode cX3_leastBudget 37 = .ok (.iconst (-1), 1) := by decide +kernel
theorem dX3_leastBudget_38 : decode cX3_leastBudget 38 = .ok (.ireturn, 1) := by decide +kernel
theorem dX3_leastBudget_39 : decode cX3_leastBudget 39 = .ok (.iload_n 3, 1) := by decide +kernel
theorem dX3_leastBudget_40 : decode cX3_leastBudget 40 = .ok (.aload_n 0, 1) := by decide +kernel
theorem dX3_leastBudget_41 : decode cX3_leastBudget 41 = .ok (.getfield 32, 3) := by decide +kernel
theorem dX3_leastBudget_44 : decode cX3_leastBudget 44 = .ok (.getfield 82, 3) := by decide +kernel
theorem dX3_leastBudget_47 : decode cX3_leastBudget 47 = .ok (.iload 5, 2) := by decide +kernel
theorem dX3_leastBudget_49 : decode cX3_leastBudget 49 = .ok (.iaload, 1) := by decide +kernel
theorem dX3_leastBudget_50 : decode cX3_leastBudget 50 = .ok (.iadd, 1) := by decide +kernel
theorem dX3_leastBudget_51 : decode cX3_leastBudget 51 = .ok (.istore_n 3, 1) := by decide +kernel
theorem dX3_leastBudget_52 : decode cX3_leastBudget 52 = .ok (.aload_n 0, 1) := by decide +kernel
theorem dX3_leastBudget_53 : decode cX3_leastBudget 53 = .ok (.iload 5, 2) := by decide +kernel
theorem dX3_leastBudget_55 : decode cX3_leastBudget 55 = .ok (.aload_n 0, 1) := by decide +kernel
theorem dX3_leastBudget_56 : decode cX3_leastBudget 56 = .ok (.iload 5, 2) := by decide +kernel
theorem dX3_leastBudget_58 : decode cX3_leastBudget 58 = .ok (.invokevirtual 144, 3) := by decide +kernel
theorem dX3_leastBudget_61 : decode cX3_leastBudget 61 = .ok (.invokevirtual 128, 3) := by decide +kernel
theorem dX3_leastBudget_64 : decode cX3_leastBudget 64 = .ok (.iinc 4 1, 3) := by decide +kernel
theorem dX3_leastBudget_67 : decode cX3_leastBudget 67 = .ok (.goto (-62), 3) := by decide +kernel
theorem dX3_leastBudget_70 : decode cX3_leastBudget 70 = .ok (.iconst (-1), 1) := by decide +kernel
theorem dX3_leastBudget_71 : decode cX3_leastBudget 71 = .ok (.ireturn, 1) := by decide +kernel
theorem dX3_nextToMove_0 : decode cX3_nextToMove 0 = .ok (.aload_n 0, 1) := by decide +kernel
theorem dX3_nextToMove_1 : decode cX3_nextToMove 1 = .ok (.getfield 18, 3) := by decide +kernel
theorem dX3_nextToMove_4 : decode cX3_nextToMove 4 = .ok (.getfield 147, 3) := by decide +kernel
theorem dX3_nextToMove_7 : decode cX3_nextToMove 7 = .ok (.iload_n 1, 1) := by decide +kernel
theorem dX3_nextToMove_8 : decode cX3_nextToMove 8 = .ok (.iaload, 1) := by decide +kernel
theorem dX3_nextToMove_9 : decode cX3_nextToMove 9 = .ok (.istore_n 2, 1) := by decide +kernel
theorem dX3_nextToMove_10 : decode cX3_nextToMove 10 = .ok (.aload_n 0, 1) := by decide +kernel
theorem dX3_nextToMove_11 : decode cX3_nextToMove 11 = .ok (.getfield 18, 3) := by decide +kernel
theorem dX3_nextToMove_14 : decode cX3_nextToMove 14 = .ok (.getfield 148, 3) := by decide +kernel
theorem dX3_nextToMove_17 : decode cX3_nextToMove 17 = .ok (.iload_n 1, 1) := by decide +kernel
theorem dX3_nextToMove_18 : decode cX3_nextToMove 18 = .ok (.iaload, 1) := by decide +kernel
theorem dX3_nextToMove_19 : decode cX3_nextToMove 19 = .ok (.ifCond .ne 7, 3) := by decide +kernel
theorem dX3_nextToMove_22 : decode cX3_nextToMove 22 = .ok (.iconst 1, 1) := by decide +kernel
theorem dX3_nextToMove_23 : decode cX3_nextToMove 23 = .ok (.goto 4, 3) := by decide +kernel
theorem dX3_nextToMove_26 : decode cX3_nextToMove 26 = .ok (.iconst 0, 1) := by decide +kernel
theorem dX3_nextToMove_27 : decode cX3_nextToMove 27 = .ok (.istore_n 3, 1) := by decide +kernel
theorem dX3_nextToMove_28 : decode cX3_nextToMove 28 = .ok (.iconst 0, 1) := by decide +kernel
theorem dX3_nextToMove_29 : decode cX3_nextToMove 29 = .ok (.istore 4, 2) := by decide +kernel
theorem dX3_nextToMove_31 : decode cX3_nextToMove 31 = .ok (.iload 4, 2) := by decide +kernel
theorem dX3_nextToMove_33 : decode cX3_nextToMove 33 = .ok (.iload_n 2, 1) := by decide +kernel
theorem dX3_nextToMove_34 : decode cX3_nextToMove 34 = .ok (.if_icmp .ge 81, 3) := by decide +kernel
theorem dX3_nextToMove_37 : decode cX3_nextToMove 37 = .ok (.aload_n 0, 1) := by decide +kernel
theorem dX3_nextToMove_38 : decode cX3_nextToMove 38 = .ok (.getfield 25, 3) := by decide +kernel
theorem dX3_nextToMove_41 : decode cX3_nextToMove 41 = .ok (.getfield 151, 3) := by decide +kernel
theorem dX3_nextToMove_44 : decode cX3_nextToMove 44 = .ok (.aload_n 0, 1) := by decide +kernel
theorem dX3_nextToMove_45 : decode cX3_nextToMove 45 = .ok (.getfield 18, 3) := by decide +kernel
theorem dX3_nextToMove_48 : decode cX3_nextToMove 48 = .ok (.getfield 154, 3) := by decide +kernel
theorem dX3_nextToMove_51 : decode cX3_nextToMove 51 = .ok (.iload_n 1, 1) := by decide +kernel
theorem dX3_nextToMove_52 : decode cX3_nextToMove 52 = .ok (.iaload, 1) := by decide +kernel
theorem dX3_nextToMove_53 : decode cX3_nextToMove 53 = .ok (.iload_n 3, 1) := by decide +kernel
theorem dX3_nextToMove_54 : decode cX3_nextToMove 54 = .ok (.ifCond .eq 8, 3) := by decide +kernel
theorem dX3_nextToMove_57 : decode cX3_nextToMove 57 = .ok (.iload 4, 2) := by decide +kernel
theorem dX3_nextToMove_59 : decode cX3_nextToMove 59 = .ok (.goto 9, 3) := by decide +kernel
theorem dX3_nextToMove_62 : decode cX3_nextToMove 62 = .ok (.iload_n 2, 1) := by decide +kernel
theorem dX3_nextToMove_63 : decode cX3_nextToMove 63 = .ok (.iconst 1, 1) := by decide +kernel
theorem dX3_nextToMove_64 : decode cX3_nextToMove 64 = .ok (.isub, 1) := by decide +kernel
theorem dX3_nextToMove_65 : decode cX3_nextToMove 65 = .ok (.iload 4, 2) := by decide +kernel
theorem dX3_nextToMove_67 : decode cX3_nextToMove 67 = .ok (.isub, 1) := by decide +kernel
theorem dX3_nextToMove_68 : decode cX3_nextToMove 68 = .ok (.iadd, 1) := by decide +kernel
theorem dX3_nextToMove_69 : decode cX3_nextToMove 69 = .ok (.iaload, 1) := by decide +kernel
theorem dX3_nextToMove_70 : decode cX3_nextToMove 70 = .ok (.istore 5, 2) := by decide +kernel
theorem dX3_nextToMove_72 : decode cX3_nextToMove 72 = .ok (.iload 5, 2) := by decide +kernel
theorem dX3_nextToMove_74 : decode cX3_nextToMove 74 = .ok (.iconst (-1), 1) := by decide +kernel
theorem dX3_nextToMove_75 : decode cX3_nextToMove 75 = .ok (.if_icmp .eq 34, 3) := by decide +kernel
theorem dX3_nextToMove_78 : decode cX3_nextToMove 78 = .ok (.aload_n 0, 1) := by decide +kernel
theorem dX3_nextToMove_79 : decode cX3_nextToMove 79 = .ok (.iload 5, 2) := by decide +kernel
theorem dX3_nextToMove_81 : decode cX3_nextToMove 81 = .ok (.invokevirtual 155, 3) := by decide +kernel
theorem dX3_nextToMove_84 : decode cX3_nextToMove 84 = .ok (.ifCond .eq 25, 3) := by decide +kernel
theorem dX3_nextToMove_87 : decode cX3_nextToMove 87 = .ok (.aload_n 0, 1) := by decide +kernel
theorem dX3_nextToMove_88 : decode cX3_nextToMove 88 = .ok (.iload 5, 2) := by decide +kernel
theorem dX3_nextToMove_90 : decode cX3_nextToMove 90 = .ok (.invokevirtual 144, 3) := by decide +kernel
theorem dX3_nextToMove_93 : decode cX3_nextToMove 93 = .ok (.aload_n 0, 1) := by decide +kernel
theorem dX3_nextToMove_94 : decode cX3_nextToMove 94 = .ok (.getfield 32, 3) := by decide +kernel
theorem dX3_nextToMove_97 : decode cX3_nextToMove 97 = .ok (.getfield 85, 3) := by decide +kernel
theorem dX3_nextToMove_100 : decode cX3_nextToMove 100 = .ok (.iload 5, 2) := by decide +kernel
theorem dX3_nextToMove_102 : decode cX3_nextToMove 102 = .ok (.iaload, 1) := by decide +kernel
theorem dX3_nextToMove_103 : decode cX3_nextToMove 103 = .ok (.if_icmp .eq 6, 3) := by decide +kernel
theorem dX3_nextToMove_106 : decode cX3_nextToMove 106 = .ok (.iload 5, 2) := by decide +kernel
theorem dX3_nextToMove_108 : decode cX3_nextToMove 108 = .ok (.ireturn, 1) := by decide +kernel
theorem dX3_nextToMove_109 : decode cX3_nextToMove 109 = .ok (.iinc 4 1, 3) := by decide +kernel
theorem dX3_nextToMove_112 : decode cX3_nextToMove 112 = .ok (.goto (-81), 3) := by decide +kernel
theorem dX3_nextToMove_115 : decode cX3_nextToMove 115 = .ok (.iconst (-1), 1) := by decide +kernel
theorem dX3_nextToMove_116 : decode cX3_nextToMove 116 = .ok (.ireturn, 1) := by decide +kernel
theorem dX3_mayMove_0 : decode cX3_mayMove 0 = .ok (.aload_n 0, 1) := by decide +kernel
theorem dX3_mayMove_1 : decode cX3_mayMove 1 = .ok (.getfield 32, 3) := by decide +kernel
theorem dX3_mayMove_4 : decode cX3_mayMove 4 = .ok (.getfield 91, 3) := by decide +kernel
theorem dX3_mayMove_7 : decode cX3_mayMove 7 = .ok (.iload_n 1, 1) := by decide +kernel
theorem dX3_mayMove_8 : decode cX3_mayMove 8 = .ok (.iaload, 1) := by decide +kernel
theorem dX3_mayMove_9 : decode cX3_mayMove 9 = .ok (.iconst 1, 1) := by decide +kernel
theorem dX3_mayMove_10 : decode cX3_mayMove 10 = .ok (.if_icmp .ne 19, 3) := by decide +kernel
theorem dX3_mayMove_13 : decode cX3_mayMove 13 = .ok (.aload_n 0, 1) := by decide +kernel
theorem dX3_mayMove_14 : decode cX3_mayMove 14 = .ok (.getfield 32, 3) := by decide +kernel
theorem dX3_mayMove_17 : decode cX3_mayMove 17 = .ok (.getfield 100, 3) := by decide +kernel
theorem dX3_mayMove_20 : decode cX3_mayMove 20 = .ok (.iload_n 1, 1) := by decide +kernel
theorem dX3_mayMove_21 : decode cX3_mayMove 21 = .ok (.iaload, 1) := by decide +kernel
theorem dX3_mayMove_22 : decode cX3_mayMove 22 = .ok (.ifCond .ne 7, 3) := by decide +kernel
theorem dX3_mayMove_25 : decode cX3_mayMove 25 = .ok (.iconst 1, 1) := by decide +kernel
theorem dX3_mayMove_26 : decode cX3_mayMove 26 = .ok (.goto 4, 3) := by decide +kernel
theorem dX3_mayMove_29 : decode cX3_mayMove 29 = .ok (.iconst 0, 1) := by decide +kernel
theorem dX3_mayMove_30 : decode cX3_mayMove 30 = .ok (.ireturn, 1) := by decide +kernel
theorem dX3_movedLow_0 : decode cX3_movedLow 0 = .ok (.aload_n 0, 1) := by decide +kernel
theorem dX3_movedLow_1 : decode cX3_movedLow 1 = .ok (.getfield 32, 3) := by decide +kernel
theorem dX3_movedLow_4 : decode cX3_movedLow 4 = .ok (.getfield 94, 3) := by decide +kernel
theorem dX3_movedLow_7 : decode cX3_movedLow 7 = .ok (.iload_n 1, 1) := by decide +kernel
theorem dX3_movedLow_8 : decode cX3_movedLow 8 = .ok (.iaload, 1) := by decide +kernel
theorem dX3_movedLow_9 : decode cX3_movedLow 9 = .ok (.istore_n 2, 1) := by decide +kernel
theorem dX3_movedLow_10 : decode cX3_movedLow 10 = .ok (.aload_n 0, 1) := by decide +kernel
theorem dX3_movedLow_11 : decode cX3_movedLow 11 = .ok (.getfield 32, 3) := by decide +kernel
theorem dX3_movedLow_14 : decode cX3_movedLow 14 = .ok (.getfield 82, 3) := by decide +kernel
theorem dX3_movedLow_17 : decode cX3_movedLow 17 = .ok (.iload_n 1, 1) := by decide +kernel
theorem dX3_movedLow_18 : decode cX3_movedLow 18 = .ok (.iaload, 1) := by decide +kernel
theorem dX3_movedLow_19 : decode cX3_movedLow 19 = .ok (.istore_n 3, 1) := by decide +kernel
theorem dX3_movedLow_20 : decode cX3_movedLow 20 = .ok (.aload_n 0, 1) := by decide +kernel
theorem dX3_movedLow_21 : decode cX3_movedLow 21 = .ok (.getfield 32, 3) := by decide +kernel
theorem dX3_movedLow_24 : decode cX3_movedLow 24 = .ok (.getfield 85, 3) := by decide +kernel
theorem dX3_movedLow_27 : decode cX3_movedLow 27 = .ok (.iload_n 1, 1) := by decide +kernel
theorem dX3_movedLow_28 : decode cX3_movedLow 28 = .ok (.iaload, 1) := by decide +kernel
theorem dX3_movedLow_29 : decode cX3_movedLow 29 = .ok (.istore 4, 2) := by decide +kernel
theorem dX3_movedLow_31 : decode cX3_movedLow 31 = .ok (.aload_n 0, 1) := by decide +kernel
theorem dX3_movedLow_32 : decode cX3_movedLow 32 = .ok (.getfield 18, 3) := by decide +kernel
theorem dX3_movedLow_35 : decode cX3_movedLow 35 = .ok (.getfield 148, 3) := by decide +kernel
theorem dX3_movedLow_38 : decode cX3_movedLow 38 = .ok (.iload_n 2, 1) := by decide +kernel
theorem dX3_movedLow_39 : decode cX3_movedLow 39 = .ok (.iaload, 1) := by decide +kernel
theorem dX3_movedLow_40 : decode cX3_movedLow 40 = .ok (.ifCond .ne 42, 3) := by decide +kernel
theorem dX3_movedLow_43 : decode cX3_movedLow 43 = .ok (.iload 4, 2) := by decide +kernel
theorem dX3_movedLow_45 : decode cX3_movedLow 45 = .ok (.aload_n 0, 1) := by decide +kernel
theorem dX3_movedLow_46 : decode cX3_movedLow 46 = .ok (.getfield 18, 3) := by decide +kernel
theorem dX3_movedLow_49 : decode cX3_movedLow 49 = .ok (.getfield 154, 3) := by decide +kernel
theorem dX3_movedLow_52 : decode cX3_movedLow 52 = .ok (.iload_n 2, 1) := by decide +kernel
theorem dX3_movedLow_53 : decode cX3_movedLow 53 = .ok (.iaload, 1) := by decide +kernel
theorem dX3_movedLow_54 : decode cX3_movedLow 54 = .ok (.if_icmp .le 25, 3) := by decide +kernel
theorem dX3_movedLow_57 : decode cX3_movedLow 57 = .ok (.aload_n 0, 1) := by decide +kernel
theorem dX3_movedLow_58 : decode cX3_movedLow 58 = .ok (.getfield 25, 3) := by decide +kernel
theorem dX3_movedLow_61 : decode cX3_movedLow 61 = .ok (.getfield 151, 3) := by decide +kernel
theorem dX3_movedLow_64 : decode cX3_movedLow 64 = .ok (.iload 4, 2) := by decide +kernel
theorem dX3_movedLow_66 : decode cX3_movedLow 66 = .ok (.iconst 1, 1) := by decide +kernel
theorem dX3_movedLow_67 : decode cX3_movedLow 67 = .ok (.isub, 1) := by decide +kernel
theorem dX3_movedLow_68 : decode cX3_movedLow 68 = .ok (.iaload, 1) := by decide +kernel
theorem dX3_movedLow_69 : decode cX3_movedLow 69 = .ok (.iconst (-1), 1) := by decide +kernel
theorem dX3_movedLow_70 : decode cX3_movedLow 70 = .ok (.if_icmp .ne 9, 3) := by decide +kernel
theorem dX3_movedLow_73 : decode cX3_movedLow 73 = .ok (.iinc 4 (-1), 3) := by decide +kernel
theorem dX3_movedLow_76 : decode cX3_movedLow 76 = .ok (.goto (-33), 3) := by decide +kernel
theorem dX3_movedLow_79 : decode cX3_movedLow 79 = .ok (.iload 4, 2) := by decide +kernel
theorem dX3_movedLow_81 : decode cX3_movedLow 81 = .ok (.ireturn, 1) := by decide +kernel
theorem dX3_movedLow_82 : decode cX3_movedLow 82 = .ok (.aload_n 0, 1) := by decide +kernel
theorem dX3_movedLow_83 : decode cX3_movedLow 83 = .ok (.getfield 18, 3) := by decide +kernel
theorem dX3_movedLow_86 : decode cX3_movedLow 86 = .ok (.iload_n 2, 1) := by decide +kernel
theorem dX3_movedLow_87 : decode cX3_movedLow 87 = .ok (.invokevirtual 117, 3) := by decide +kernel
theorem dX3_movedLow_90 : decode cX3_movedLow 90 = .ok (.iload_n 3, 1) := by decide +kernel
theorem dX3_movedLow_91 : decode cX3_movedLow 91 = .ok (.isub, 1) := by decide +kernel
theorem dX3_movedLow_92 : decode cX3_movedLow 92 = .ok (.istore 5, 2) := by decide +kernel
theorem dX3_movedLow_94 : decode cX3_movedLow 94 = .ok (.iload 4, 2) := by decide +kernel
theorem dX3_movedLow_96 : decode cX3_movedLow 96 = .ok (.iload 5, 2) := by decide +kernel
theorem dX3_movedLow_98 : decode cX3_movedLow 98 = .ok (.if_icmp .ge 25, 3) := by decide +kernel
theorem dX3_movedLow_101 : decode cX3_movedLow 101 = .ok (.aload_n 0, 1) := by decide +kernel
theorem dX3_movedLow_102 : decode cX3_movedLow 102 = .ok (.getfield 25, 3) := by decide +kernel
theorem dX3_movedLow_105 : decode cX3_movedLow 105 = .ok (.getfield 151, 3) := by decide +kernel
theorem dX3_movedLow_108 : decode cX3_movedLow 108 = .ok (.iload 4, 2) := by decide +kernel
theorem dX3_movedLow_110 : decode cX3_movedLow 110 = .ok (.iload_n 3, 1) := by decide +kernel
theorem dX3_movedLow_111 : decode cX3_movedLow 111 = .ok (.iadd, 1) := by decide +kernel
theorem dX3_movedLow_112 : decode cX3_movedLow 112 = .ok (.iaload, 1) := by decide +kernel
theorem dX3_movedLow_113 : decode cX3_movedLow 113 = .ok (.iconst (-1), 1) := by decide +kernel
theorem dX3_movedLow_114 : decode cX3_movedLow 114 = .ok (.if_icmp .ne 9, 3) := by decide +kernel
theorem dX3_movedLow_117 : decode cX3_movedLow 117 = .ok (.iinc 4 1, 3) := by decide +kernel
theorem dX3_movedLow_120 : decode cX3_movedLow 120 = .ok (.goto (-26), 3) := by decide +kernel
theorem dX3_movedLow_123 : decode cX3_movedLow 123 = .ok (.iload 4, 2) := by decide +kernel
theorem dX3_movedLow_125 : decode cX3_movedLow 125 = .ok (.ireturn, 1) := by decide +kernel
theorem dX3_tagBearer_0 : decode cX3_tagBearer 0 = .ok (.iconst 0, 1) := by decide +kernel
theorem dX3_tagBearer_1 : decode cX3_tagBearer 1 = .ok (.istore_n 2, 1) := by decide +kernel
theorem dX3_tagBearer_2 : decode cX3_tagBearer 2 = .ok (.iload_n 2, 1) := by decide +kernel
theorem dX3_tagBearer_3 : decode cX3_tagBearer 3 = .ok (.aload_n 0, 1) := by decide +kernel
theorem dX3_tagBearer_4 : decode cX3_tagBearer 4 = .ok (.getfield 39, 3) := by decide +kernel
theorem dX3_tagBearer_7 : decode cX3_tagBearer 7 = .ok (.getfield 159, 3) := by decide +kernel
theorem dX3_tagBearer_10 : decode cX3_tagBearer 10 = .ok (.if_icmp .ge 38, 3) := by decide +kernel
theorem dX3_tagBearer_13 : decode cX3_tagBearer 13 = .ok (.aload_n 0, 1) := by decide +kernel
theorem dX3_tagBearer_14 : decode cX3_tagBearer 14 = .ok (.getfield 39, 3) := by decide +kernel
theorem dX3_tagBearer_17 : decode cX3_tagBearer 17 = .ok (.iload_n 2, 1) := by decide +kernel
theorem dX3_tagBearer_18 : decode cX3_tagBearer 18 = .ok (.invokevirtual 162, 3) := by decide +kernel
theorem dX3_tagBearer_21 : decode cX3_tagBearer 21 = .ok (.istore_n 3, 1) := by decide +kernel
theorem dX3_tagBearer_22 : decode cX3_tagBearer 22 = .ok (.iload_n 3, 1) := by decide +kernel
theorem dX3_tagBearer_23 : decode cX3_tagBearer 23 = .ok (.iconst (-1), 1) := by decide +kernel
theorem dX3_tagBearer_24 : decode cX3_tagBearer 24 = .ok (.if_icmp .eq 18, 3) := by decide +kernel
theorem dX3_tagBearer_27 : decode cX3_tagBearer 27 = .ok (.aload_n 0, 1) := by decide +kernel
theorem dX3_tagBearer_28 : decode cX3_tagBearer 28 = .ok (.getfield 32, 3) := by decide +kernel
theorem dX3_tagBearer_31 : decode cX3_tagBearer 31 = .ok (.getfield 103, 3) := by decide +kernel
theorem dX3_tagBearer_34 : decode cX3_tagBearer 34 = .ok (.iload_n 3, 1) := by decide +kernel
theorem dX3_tagBearer_35 : decode cX3_tagBearer 35 = .ok (.iaload, 1) := by decide +kernel
theorem dX3_tagBearer_36 : decode cX3_tagBearer 36 = .ok (.iload_n 1, 1) := by decide +kernel
theorem dX3_tagBearer_37 : decode cX3_tagBearer 37 = .ok (.if_icmp .ne 5, 3) := by decide +kernel
theorem dX3_tagBearer_40 : decode cX3_tagBearer 40 = .ok (.iload_n 3, 1) := by decide +kernel
theorem dX3_tagBearer_41 : decode cX3_tagBearer 41 = .ok (.ireturn, 1) := by decide +kernel
theorem dX3_tagBearer_42 : decode cX3_tagBearer 42 = .ok (.iinc 2 1, 3) := by decide +kernel
theorem dX3_tagBearer_45 : decode cX3_tagBearer 45 = .ok (.goto (-43), 3) := by decide +kernel
theorem dX3_tagBearer_48 : decode cX3_tagBearer 48 = .ok (.iconst (-1), 1) := by decide +kernel
theorem dX3_tagBearer_49 : decode cX3_tagBearer 49 = .ok (.ireturn, 1) := by decide +kernel
theorem dX3_giveTag_0 : decode cX3_giveTag 0 = .ok (.aload_n 0, 1) := by decide +kernel
theorem dX3_giveTag_1 : decode cX3_giveTag 1 = .ok (.getfield 39, 3) := by decide +kernel
theorem dX3_giveTag_4 : decode cX3_giveTag 4 = .ok (.iload_n 1, 1) := by decide +kernel
theorem dX3_giveTag_5 : decode cX3_giveTag 5 = .ok (.invokevirtual 113, 3) := by decide +kernel
theorem dX3_giveTag_8 : decode cX3_giveTag 8 = .ok (.aload_n 0, 1) := by decide +kernel
theorem dX3_giveTag_9 : decode cX3_giveTag 9 = .ok (.getfield 39, 3) := by decide +kernel
theorem dX3_giveTag_12 : decode cX3_giveTag 12 = .ok (.iload_n 1, 1) := by decide +kernel
theorem dX3_giveTag_13 : decode cX3_giveTag 13 = .ok (.invokevirtual 164, 3) := by decide +kernel
theorem dX3_giveTag_16 : decode cX3_giveTag 16 = .ok (.aload_n 0, 1) := by decide +kernel
theorem dX3_giveTag_17 : decode cX3_giveTag 17 = .ok (.getfield 32, 3) := by decide +kernel
theorem dX3_giveTag_20 : decode cX3_giveTag 20 = .ok (.getfield 103, 3) := by decide +kernel
theorem dX3_giveTag_23 : decode cX3_giveTag 23 = .ok (.iload_n 1, 1) := by decide +kernel
theorem dX3_giveTag_24 : decode cX3_giveTag 24 = .ok (.iload_n 2, 1) := by decide +kernel
theorem dX3_giveTag_25 : decode cX3_giveTag 25 = .ok (.iastore, 1) := by decide +kernel
theorem dX3_giveTag_26 : decode cX3_giveTag 26 = .ok (.return_, 1) := by decide +kernel
theorem dX3_seenSince_0 : decode cX3_seenSince 0 = .ok (.aload_n 0, 1) := by decide +kernel
theorem dX3_seenSince_1 : decode cX3_seenSince 1 = .ok (.getfield 32, 3) := by decide +kernel
theorem dX3_seenSince_4 : decode cX3_seenSince 4 = .ok (.getfield 91, 3) := by decide +kernel
theorem dX3_seenSince_7 : decode cX3_seenSince 7 = .ok (.iload_n 1, 1) := by decide +kernel
theorem dX3_seenSince_8 : decode cX3_seenSince 8 = .ok (.iaload, 1) := by decide +kernel
theorem dX3_seenSince_9 : decode cX3_seenSince 9 = .ok (.iconst 1, 1) := by decide +kernel
theorem dX3_seenSince_10 : decode cX3_seenSince 10 = .ok (.if_icmp .eq 16, 3) := by decide +kernel
theorem dX3_seenSince_13 : decode cX3_seenSince 13 = .ok (.aload_n 0, 1) := by decide +kernel
theorem dX3_seenSince_14 : decode cX3_seenSince 14 = .ok (.getfield 32, 3) := by decide +kernel
theorem dX3_seenSince_17 : decode cX3_seenSince 17 = .ok (.getfield 110, 3) := by decide +kernel
theorem dX3_seenSince_20 : decode cX3_seenSince 20 = .ok (.iload_n 1, 1) := by decide +kernel
theorem dX3_seenSince_21 : decode cX3_seenSince 21 = .ok (.iaload, 1) := by decide +kernel
theorem dX3_seenSince_22 : decode cX3_seenSince 22 = .ok (.iload_n 2, 1) := by decide +kernel
theorem dX3_seenSince_23 : decode cX3_seenSince 23 = .ok (.if_icmp .lt 7, 3) := by decide +kernel
theorem dX3_seenSince_26 : decode cX3_seenSince 26 = .ok (.iconst 1, 1) := by decide +kernel
theorem dX3_seenSince_27 : decode cX3_seenSince 27 = .ok (.goto 4, 3) := by decide +kernel
theorem dX3_seenSince_30 : decode cX3_seenSince 30 = .ok (.iconst 0, 1) := by decide +kernel
theorem dX3_seenSince_31 : decode cX3_seenSince 31 = .ok (.ireturn, 1) := by decide +kernel
theorem dX3_isFreeable_0 : decode cX3_isFreeable 0 = .ok (.aload_n 0, 1) := by decide +kernel
theorem dX3_isFreeable_1 : decode cX3_isFreeable 1 = .ok (.getfield 32, 3) := by decide +kernel
theorem dX3_isFreeable_4 : decode cX3_isFreeable 4 = .ok (.getfield 91, 3) := by decide +kernel
theorem dX3_isFreeable_7 : decode cX3_isFreeable 7 = .ok (.iload_n 1, 1) := by decide +kernel
theorem dX3_isFreeable_8 : decode cX3_isFreeable 8 = .ok (.iaload, 1) := by decide +kernel
theorem dX3_isFreeable_9 : decode cX3_isFreeable 9 = .ok (.iconst 2, 1) := by decide +kernel
theorem dX3_isFreeable_10 : decode cX3_isFreeable 10 = .ok (.if_icmp .eq 5, 3) := by decide +kernel
theorem dX3_isFreeable_13 : decode cX3_isFreeable 13 = .ok (.iconst 0, 1) := by decide +kernel
theorem dX3_isFreeable_14 : decode cX3_isFreeable 14 = .ok (.ireturn, 1) := by decide +kernel
theorem dX3_isFreeable_15 : decode cX3_isFreeable 15 = .ok (.iconst 0, 1) := by decide +kernel
theorem dX3_isFreeable_16 : decode cX3_isFreeable 16 = .ok (.istore_n 2, 1) := by decide +kernel
theorem dX3_isFreeable_17 : decode cX3_isFreeable 17 = .ok (.iload_n 2, 1) := by decide +kernel
theorem dX3_isFreeable_18 : decode cX3_isFreeable 18 = .ok (.bipush 6, 2) := by decide +kernel
theorem dX3_isFreeable_20 : decode cX3_isFreeable 20 = .ok (.if_icmp .ge 39, 3) := by decide +kernel
theorem dX3_isFreeable_23 : decode cX3_isFreeable 23 = .ok (.aload_n 0, 1) := by decide +kernel
theorem dX3_isFreeable_24 : decode cX3_isFreeable 24 = .ok (.getfield 46, 3) := by decide +kernel
theorem dX3_isFreeable_27 : decode cX3_isFreeable 27 = .ok (.iload_n 2, 1) := by decide +kernel
theorem dX3_isFreeable_28 : decode cX3_isFreeable 28 = .ok (.iaload, 1) := by decide +kernel
theorem dX3_isFreeable_29 : decode cX3_isFreeable 29 = .ok (.iconst (-1), 1) := by decide +kernel
theorem dX3_isFreeable_30 : decode cX3_isFreeable 30 = .ok (.if_icmp .eq 23, 3) := by decide +kernel
theorem dX3_isFreeable_33 : decode cX3_isFreeable 33 = .ok (.aload_n 0, 1) := by decide +kernel
theorem dX3_isFreeable_34 : decode cX3_isFreeable 34 = .ok (.getfield 46, 3) := by decide +kernel
theorem dX3_isFreeable_37 : decode cX3_isFreeable 37 = .ok (.iload_n 2, 1) := by decide +kernel
theorem dX3_isFreeable_38 : decode cX3_isFreeable 38 = .ok (.iaload, 1) := by decide +kernel
theorem dX3_isFreeable_39 : decode cX3_isFreeable 39 = .ok (.aload_n 0, 1) := by decide +kernel
theorem dX3_isFreeable_40 : decode cX3_isFreeable 40 = .ok (.getfield 32, 3) := by decide +kernel
theorem dX3_isFreeable_43 : decode cX3_isFreeable 43 = .ok (.getfield 110, 3) := by decide +kernel
theorem dX3_isFreeable_46 : decode cX3_isFreeable 46 = .ok (.iload_n 1, 1) := by decide +kernel
theorem dX3_isFreeable_47 : decode cX3_isFreeable 47 = .ok (.iaload, 1) := by decide +kernel
theorem dX3_isFreeable_48 : decode cX3_isFreeable 48 = .ok (.if_icmp .gt 5, 3) := by decide +kernel
theorem dX3_isFreeable_51 : decode cX3_isFreeable 51 = .ok (.iconst 0, 1) := by decide +kernel
theorem dX3_isFreeable_52 : decode cX3_isFreeable 52 = .ok (.ireturn, 1) := by decide +kernel
theorem dX3_isFreeable_53 : decode cX3_isFreeable 53 = .ok (.iinc 2 1, 3) := by decide +kernel
theorem dX3_isFreeable_56 : decode cX3_isFreeable 56 = .ok (.goto (-39), 3) := by decide +kernel
theorem dX3_isFreeable_59 : decode cX3_isFreeable 59 = .ok (.iconst 1, 1) := by decide +kernel
theorem dX3_isFreeable_60 : decode cX3_isFreeable 60 = .ok (.ireturn, 1) := by decide +kernel
theorem dX3_freeable_0 : decode cX3_freeable 0 = .ok (.iconst 0, 1) := by decide +kernel
theorem dX3_freeable_1 : decode cX3_freeable 1 = .ok (.istore_n 1, 1) := by decide +kernel
theorem dX3_freeable_2 : decode cX3_freeable 2 = .ok (.iconst 0, 1) := by decide +kernel
theorem dX3_freeable_3 : decode cX3_freeable 3 = .ok (.istore_n 2, 1) := by decide +kernel
theorem dX3_freeable_4 : decode cX3_freeable 4 = .ok (.iload_n 2, 1) := by decide +kernel
theorem dX3_freeable_5 : decode cX3_freeable 5 = .ok (.bipush 30, 2) := by decide +kernel
theorem dX3_freeable_7 : decode cX3_freeable 7 = .ok (.if_icmp .ge 20, 3) := by decide +kernel
theorem dX3_freeable_10 : decode cX3_freeable 10 = .ok (.aload_n 0, 1) := by decide +kernel
theorem dX3_freeable_11 : decode cX3_freeable 11 = .ok (.iload_n 2, 1) := by decide +kernel
theorem dX3_freeable_12 : decode cX3_freeable 12 = .ok (.invokevirtual 167, 3) := by decide +kernel
theorem dX3_freeable_15 : decode cX3_freeable 15 = .ok (.ifCond .eq 6, 3) := by decide +kernel
theorem dX3_freeable_18 : decode cX3_freeable 18 = .ok (.iinc 1 1, 3) := by decide +kernel
theorem dX3_freeable_21 : decode cX3_freeable 21 = .ok (.iinc 2 1, 3) := by decide +kernel
theorem dX3_freeable_24 : decode cX3_freeable 24 = .ok (.goto (-20), 3) := by decide +kernel
theorem dX3_freeable_27 : decode cX3_freeable 27 = .ok (.iload_n 1, 1) := by decide +kernel
theorem dX3_freeable_28 : decode cX3_freeable 28 = .ok (.ireturn, 1) := by decide +kernel
theorem dX3_dropFreeable_0 : decode cX3_dropFreeable 0 = .ok (.iconst 0, 1) := by decide +kernel
theorem dX3_dropFreeable_1 : decode cX3_dropFreeable 1 = .ok (.istore_n 1, 1) := by decide +kernel
theorem dX3_dropFreeable_2 : decode cX3_dropFreeable 2 = .ok (.iconst 0, 1) := by decide +kernel
theorem dX3_dropFreeable_3 : decode cX3_dropFreeable 3 = .ok (.istore_n 2, 1) := by decide +kernel
theorem dX3_dropFreeable_4 : decode cX3_dropFreeable 4 = .ok (.iload_n 2, 1) := by decide +kernel
theorem dX3_dropFreeable_5 : decode cX3_dropFreeable 5 = .ok (.bipush 30, 2) := by decide +kernel
theorem dX3_dropFreeable_7 : decode cX3_dropFreeable 7 = .ok (.if_icmp .ge 58, 3) := by decide +kernel
theorem dX3_dropFreeable_10 : decode cX3_dropFreeable 10 = .ok (.aload_n 0, 1) := by decide +kernel
theorem dX3_dropFreeable_11 : decode cX3_dropFreeable 11 = .ok (.iload_n 2, 1) := by decide +kernel
theorem dX3_dropFreeable_12 : decode cX3_dropFreeable 12 = .ok (.invokevirtual 167, 3) := by decide +kernel
theorem dX3_dropFreeable_15 : decode cX3_dropFreeable 15 = .ok (.ifCond .ne 6, 3) := by decide +kernel
theorem dX3_dropFreeable_18 : decode cX3_dropFreeable 18 = .ok (.goto 41, 3) := by decide +kernel
theorem dX3_dropFreeable_21 : decode cX3_dropFreeable 21 = .ok (.aload_n 0, 1) := by decide +kernel
theorem dX3_dropFreeable_22 : decode cX3_dropFreeable 22 = .ok (.getfield 25, 3) := by decide +kernel
theorem dX3_dropFreeable_25 : decode cX3_dropFreeable 25 = .ok (.aload_n 0, 1) := by decide +kernel
theorem dX3_dropFreeable_26 : decode cX3_dropFreeable 26 = .ok (.getfield 32, 3) := by decide +kernel
theorem dX3_dropFreeable_29 : decode cX3_dropFreeable 29 = .ok (.getfield 85, 3) := by decide +kernel
theorem dX3_dropFreeable_32 : decode cX3_dropFreeable 32 = .ok (.iload_n 2, 1) := by decide +kernel
theorem dX3_dropFreeable_33 : decode cX3_dropFreeable 33 = .ok (.iaload, 1) := by decide +kernel
theorem dX3_dropFreeable_34 : decode cX3_dropFreeable 34 = .ok (.aload_n 0, 1) := by decide +kernel
theorem dX3_dropFreeable_35 : decode cX3_dropFreeable 35 = .ok (.getfield 32, 3) := by decide +kernel
theorem dX3_dropFreeable_38 : decode cX3_dropFreeable 38 = .ok (.getfield 82, 3) := by decide +kernel
theorem dX3_dropFreeable_41 : decode cX3_dropFreeable 41 = .ok (.iload_n 2, 1) := by decide +kernel
theorem dX3_dropFreeable_42 : decode cX3_dropFreeable 42 = .ok (.iaload, 1) := by decide +kernel
theorem dX3_dropFreeable_43 : decode cX3_dropFreeable 43 = .ok (.invokevirtual 138, 3) := by decide +kernel
theorem dX3_dropFreeable_46 : decode cX3_dropFreeable 46 = .ok (.aload_n 0, 1) := by decide +kernel
theorem dX3_dropFreeable_47 : decode cX3_dropFreeable 47 = .ok (.getfield 32, 3) := by decide +kernel
theorem dX3_dropFreeable_50 : decode cX3_dropFreeable 50 = .ok (.getfield 91, 3) := by decide +kernel
theorem dX3_dropFreeable_53 : decode cX3_dropFreeable 53 = .ok (.iload_n 2, 1) := by decide +kernel
theorem dX3_dropFreeable_54 : decode cX3_dropFreeable 54 = .ok (.iconst 0, 1) := by decide +kernel
theorem dX3_dropFreeable_55 : decode cX3_dropFreeable 55 = .ok (.iastore, 1) := by decide +kernel
theorem dX3_dropFreeable_56 : decode cX3_dropFreeable 56 = .ok (.iinc 1 1, 3) := by decide +kernel
theorem dX3_dropFreeable_59 : decode cX3_dropFreeable 59 = .ok (.iinc 2 1, 3) := by decide +kernel
theorem dX3_dropFreeable_62 : decode cX3_dropFreeable 62 = .ok (.goto (-58), 3) := by decide +kernel
theorem dX3_dropFreeable_65 : decode cX3_dropFreeable 65 = .ok (.iload_n 1, 1) := by decide +kernel
theorem dX3_dropFreeable_66 : decode cX3_dropFreeable 66 = .ok (.ireturn, 1) := by decide +kernel
theorem dX3_earliestReader_0 : decode cX3_earliestReader 0 = .ok (.iconst (-1), 1) := by decide +kernel
theorem dX3_earliestReader_1 : decode cX3_earliestReader 1 = .ok (.istore_n 1, 1) := by decide +kernel
theorem dX3_earliestReader_2 : decode cX3_earliestReader 2 = .ok (.iconst 0, 1) := by decide +kernel
theorem dX3_earliestReader_3 : decode cX3_earliestReader 3 = .ok (.istore_n 2, 1) := by decide +kernel
theorem dX3_earliestReader_4 : decode cX3_earliestReader 4 = .ok (.iload_n 2, 1) := by decide +kernel
theorem dX3_earliestReader_5 : decode cX3_earliestReader 5 = .ok (.bipush 6, 2) := by decide +kernel
theorem dX3_earliestReader_7 : decode cX3_earliestReader 7 = .ok (.if_icmp .ge 44, 3) := by decide +kernel
theorem dX3_earliestReader_10 : decode cX3_earliestReader 10 = .ok (.aload_n 0, 1) := by decide +kernel
theorem dX3_earliestReader_11 : decode cX3_earliestReader 11 = .ok (.getfield 46, 3) := by decide +kernel
theorem dX3_earliestReader_14 : decode cX3_earliestReader 14 = .ok (.iload_n 2, 1) := by decide +kernel
theorem dX3_earliestReader_15 : decode cX3_earliestReader 15 = .ok (.iaload, 1) := by decide +kernel
theorem dX3_earliestReader_16 : decode cX3_earliestReader 16 = .ok (.iconst (-1), 1) := by decide +kernel
theorem dX3_earliestReader_17 : decode cX3_earliestReader 17 = .ok (.if_icmp .ne 6, 3) := by decide +kernel
theorem dX3_earliestReader_20 : decode cX3_earliestReader 20 = .ok (.goto 25, 3) := by decide +kernel
theorem dX3_earliestReader_23 : decode cX3_earliestReader 23 = .ok (.iload_n 1, 1) := by decide +kernel
theorem dX3_earliestReader_24 : decode cX3_earliestReader 24 = .ok (.iconst (-1), 1) := by decide +kernel
theorem dX3_earliestReader_25 : decode cX3_earliestReader 25 = .ok (.if_icmp .eq 18, 3) := by decide +kernel
theorem dX3_earliestReader_28 : decode cX3_earliestReader 28 = .ok (.aload_n 0, 1) := by decide +kernel
theorem dX3_earliestReader_29 : decode cX3_earliestReader 29 = .ok (.getfield 46, 3) := by decide +kernel
theorem dX3_earliestReader_32 : decode cX3_earliestReader 32 = .ok (.iload_n 2, 1) := by decide +kernel
theorem dX3_earliestReader_33 : decode cX3_earliestReader 33 = .ok (.iaload, 1) := by decide +kernel
theorem dX3_earliestReader_34 : decode cX3_earliestReader 34 = .ok (.aload_n 0, 1) := by decide +kernel
theorem dX3_earliestReader_35 : decode cX3_earliestReader 35 = .ok (.getfield 46, 3) := by decide +kernel
theorem dX3_earliestReader_38 : decode cX3_earliestReader 38 = .ok (.iload_n 1, 1) := by decide +kernel
theorem dX3_earliestReader_39 : decode cX3_earliestReader 39 = .ok (.iaload, 1) := by decide +kernel
theorem dX3_earliestReader_40 : decode cX3_earliestReader 40 = .ok (.if_icmp .ge 5, 3) := by decide +kernel
theorem dX3_earliestReader_43 : decode cX3_earliestReader 43 = .ok (.iload_n 2, 1) := by decide +kernel
theorem dX3_earliestReader_44 : decode cX3_earliestReader 44 = .ok (.istore_n 1, 1) := by decide +kernel
theorem dX3_earliestReader_45 : decode cX3_earliestReader 45 = .ok (.iinc 2 1, 3) := by decide +kernel
theorem dX3_earliestReader_48 : decode cX3_earliestReader 48 = .ok (.goto (-44), 3) := by decide +kernel
theorem dX3_earliestReader_51 : decode cX3_earliestReader 51 = .ok (.iload_n 1, 1) := by decide +kernel
theorem dX3_earliestReader_52 : decode cX3_earliestReader 52 = .ok (.ireturn, 1) := by decide +kernel
theorem dX3_readersIn_0 : decode cX3_readersIn 0 = .ok (.iconst 0, 1) := by decide +kernel
theorem dX3_readersIn_1 : decode cX3_readersIn 1 = .ok (.istore_n 1, 1) := by decide +kernel
theorem dX3_readersIn_2 : decode cX3_readersIn 2 = .ok (.iconst 0, 1) := by decide +kernel
theorem dX3_readersIn_3 : decode cX3_readersIn 3 = .ok (.istore_n 2, 1) := by decide +kernel
theorem dX3_readersIn_4 : decode cX3_readersIn 4 = .ok (.iload_n 2, 1) := by decide +kernel
theorem dX3_readersIn_5 : decode cX3_readersIn 5 = .ok (.bipush 6, 2) := by decide +kernel
theorem dX3_readersIn_7 : decode cX3_readersIn 7 = .ok (.if_icmp .ge 25, 3) := by decide +kernel
theorem dX3_readersIn_10 : decode cX3_readersIn 10 = .ok (.aload_n 0, 1) := by decide +kernel
theorem dX3_readersIn_11 : decode cX3_readersIn 11 = .ok (.getfield 46, 3) := by decide +kernel
theorem dX3_readersIn_14 : decode cX3_readersIn 14 = .ok (.iload_n 2, 1) := by decide +kernel
theorem dX3_readersIn_15 : decode cX3_readersIn 15 = .ok (.iaload, 1) := by decide +kernel
theorem dX3_readersIn_16 : decode cX3_readersIn 16 = .ok (.iconst (-1), 1) := by decide +kernel
theorem dX3_readersIn_17 : decode cX3_readersIn 17 = .ok (.if_icmp .eq 9, 3) := by decide +kernel
theorem dX3_readersIn_20 : decode cX3_readersIn 20 = .ok (.iload_n 1, 1) := by decide +kernel
theorem dX3_readersIn_21 : decode cX3_readersIn 21 = .ok (.iconst 1, 1) := by decide +kernel
theorem dX3_readersIn_22 : decode cX3_readersIn 22 = .ok (.iload_n 2, 1) := by decide +kernel
theorem dX3_readersIn_23 : decode cX3_readersIn 23 = .ok (.ishl, 1) := by decide +kernel
theorem dX3_readersIn_24 : decode cX3_readersIn 24 = .ok (.ior, 1) := by decide +kernel
theorem dX3_readersIn_25 : decode cX3_readersIn 25 = .ok (.istore_n 1, 1) := by decide +kernel
theorem dX3_readersIn_26 : decode cX3_readersIn 26 = .ok (.iinc 2 1, 3) := by decide +kernel
theorem dX3_readersIn_29 : decode cX3_readersIn 29 = .ok (.goto (-25), 3) := by decide +kernel
theorem dX3_readersIn_32 : decode cX3_readersIn 32 = .ok (.iload_n 1, 1) := by decide +kernel
theorem dX3_readersIn_33 : decode cX3_readersIn 33 = .ok (.ireturn, 1) := by decide +kernel
theorem dX4_init_0 : decode cX4_init 0 = .ok (.aload_n 0, 1) := by decide +kernel
theorem dX4_init_1 : decode cX4_init 1 = .ok (.invokespecial 3, 3) := by decide +kernel
theorem dX4_init_4 : decode cX4_init 4 = .ok (.aload_n 0, 1) := by decide +kernel
theorem dX4_init_5 : decode cX4_init 5 = .ok (.bipush 60, 2) := by decide +kernel
theorem dX4_init_7 : decode cX4_init 7 = .ok (.newarray .int, 2) := by decide +kernel
theorem dX4_init_9 : decode cX4_init 9 = .ok (.putfield 9, 3) := by decide +kernel
theorem dX4_init_12 : decode cX4_init 12 = .ok (.aload_n 0, 1) := by decide +kernel
theorem dX4_init_13 : decode cX4_init 13 = .ok (.bipush 60, 2) := by decide +kernel
theorem dX4_init_15 : decode cX4_init 15 = .ok (.newarray .int, 2) := by decide +kernel
theorem dX4_init_17 : decode cX4_init 17 = .ok (.putfield 15, 3) := by decide +kernel
theorem dX4_init_20 : decode cX4_init 20 = .ok (.return_, 1) := by decide +kernel
theorem dX4_putOn_0 : decode cX4_putOn 0 = .ok (.aload_n 0, 1) := by decide +kernel
theorem dX4_putOn_1 : decode cX4_putOn 1 = .ok (.getfield 18, 3) := by decide +kernel
theorem dX4_putOn_4 : decode cX4_putOn 4 = .ok (.bipush 60, 2) := by decide +kernel
theorem dX4_putOn_6 : decode cX4_putOn 6 = .ok (.if_icmp .lt 5, 3) := by decide +kernel
theorem dX4_putOn_9 : decode cX4_putOn 9 = .ok (.iconst 0, 1) := by decide +kernel
theorem dX4_putOn_10 : decode cX4_putOn 10 = .ok (.ireturn, 1) := by decide +kernel
theorem dX4_putOn_11 : decode cX4_putOn 11 = .ok (.aload_n 0, 1) := by decide +kernel
theorem dX4_putOn_12 : decode cX4_putOn 12 = .ok (.getfield 9, 3) := by decide +kernel
theorem dX4_putOn_15 : decode cX4_putOn 15 = .ok (.aload_n 0, 1) := by decide +kernel
theorem dX4_putOn_16 : decode cX4_putOn 16 = .ok (.getfield 18, 3) := by decide +kernel
theorem dX4_putOn_19 : decode cX4_putOn 19 = .ok (.iload_n 2, 1) := by decide +kernel
theorem dX4_putOn_20 : decode cX4_putOn 20 = .ok (.iastore, 1) := by decide +kernel
theorem dX4_putOn_21 : decode cX4_putOn 21 = .ok (.aload_n 0, 1) := by decide +kernel
theorem dX4_putOn_22 : decode cX4_putOn 22 = .ok (.getfield 15, 3) := by decide +kernel
theorem dX4_putOn_25 : decode cX4_putOn 25 = .ok (.aload_n 0, 1) := by decide +kernel
theorem dX4_putOn_26 : decode cX4_putOn 26 = .ok (.getfield 18, 3) := by decide +kernel
theorem dX4_putOn_29 : decode cX4_putOn 29 = .ok (.iload_n 3, 1) := by decide +kernel
theorem dX4_putOn_30 : decode cX4_putOn 30 = .ok (.iastore, 1) := by decide +kernel
theorem dX4_putOn_31 : decode cX4_putOn 31 = .ok (.aload_n 0, 1) := by decide +kernel
theorem dX4_putOn_32 : decode cX4_putOn 32 = .ok (.dup, 1) := by decide +kernel
theorem dX4_putOn_33 : decode cX4_putOn 33 = .ok (.getfield 18, 3) := by decide +kernel
theorem dX4_putOn_36 : decode cX4_putOn 36 = .ok (.iconst 1, 1) := by decide +kernel
theorem dX4_putOn_37 : decode cX4_putOn 37 = .ok (.iadd, 1) := by decide +kernel
theorem dX4_putOn_38 : decode cX4_putOn 38 = .ok (.putfield 18, 3) := by decide +kernel
theorem dX4_putOn_41 : decode cX4_putOn 41 = .ok (.aload_n 1, 1) := by decide +kernel
theorem dX4_putOn_42 : decode cX4_putOn 42 = .ok (.iload_n 2, 1) := by decide +kernel
theorem dX4_putOn_43 : decode cX4_putOn 43 = .ok (.iload_n 3, 1) := by decide +kernel
theorem dX4_putOn_44 : decode cX4_putOn 44 = .ok (.bipush 30, 2) := by decide +kernel
theorem dX4_putOn_46 : decode cX4_putOn 46 = .ok (.invokevirtual 22, 3) := by decide +kernel
theorem dX4_putOn_49 : decode cX4_putOn 49 = .ok (.iconst 1, 1) := by decide +kernel
theorem dX4_putOn_50 : decode cX4_putOn 50 = .ok (.ireturn, 1) := by decide +kernel
theorem dX4_dropFrom_0 : decode cX4_dropFrom 0 = .ok (.iload_n 2, 1) := by decide +kernel
theorem dX4_dropFrom_1 : decode cX4_dropFrom 1 = .ok (.ifCond .ge 12, 3) := by decide +kernel
theorem dX4_dropFrom_4 : decode cX4_dropFrom 4 = .ok (.iload_n 2, 1) := by decide +kernel
theorem dX4_dropFrom_5 : decode cX4_dropFrom 5 = .ok (.aload_n 0, 1) := by decide +kernel
theorem dX4_dropFrom_6 : decode cX4_dropFrom 6 = .ok (.getfield 18, 3) := by decide +kernel
theorem dX4_dropFrom_9 : decode cX4_dropFrom 9 = .ok (.ineg, 1) := by decide +kernel
theorem dX4_dropFrom_10 : decode cX4_dropFrom 10 = .ok (.if_icmp .ge 5, 3) := by decide +kernel
theorem dX4_dropFrom_13 : decode cX4_dropFrom 13 = .ok (.iconst 0, 1) := by decide +kernel
theorem dX4_dropFrom_14 : decode cX4_dropFrom 14 = .ok (.ireturn, 1) := by decide +kernel
theorem dX4_dropFrom_15 : decode cX4_dropFrom 15 = .ok (.iconst (-1), 1) := by decide +kernel
theorem dX4_dropFrom_16 : decode cX4_dropFrom 16 = .ok (.iload_n 2, 1) := by decide +kernel
theorem dX4_dropFrom_17 : decode cX4_dropFrom 17 = .ok (.isub, 1) := by decide +kernel
theorem dX4_dropFrom_18 : decode cX4_dropFrom 18 = .ok (.istore_n 3, 1) := by decide +kernel
theorem dX4_dropFrom_19 : decode cX4_dropFrom 19 = .ok (.aload_n 0, 1) := by decide +kernel
theorem dX4_dropFrom_20 : decode cX4_dropFrom 20 = .ok (.getfield 15, 3) := by decide +kernel
theorem dX4_dropFrom_23 : decode cX4_dropFrom 23 = .ok (.iload_n 3, 1) := by decide +kernel
theorem dX4_dropFrom_24 : decode cX4_dropFrom 24 = .ok (.iaload, 1) := by decide +kernel
theorem dX4_dropFrom_25 : decode cX4_dropFrom 25 = .ok (.ifCond .ne 5, 3) := by decide +kernel
theorem dX4_dropFrom_28 : decode cX4_dropFrom 28 = .ok (.iconst 0, 1) := by decide +kernel
theorem dX4_dropFrom_29 : decode cX4_dropFrom 29 = .ok (.ireturn, 1) := by decide +kernel
theorem dX4_dropFrom_30 : decode cX4_dropFrom 30 = .ok (.aload_n 1, 1) := by decide +kernel
theorem dX4_dropFrom_31 : decode cX4_dropFrom 31 = .ok (.aload_n 0, 1) := by decide +kernel
theorem dX4_dropFrom_32 : decode cX4_dropFrom 32 = .ok (.getfield 9, 3) := by decide +kernel
theorem dX4_dropFrom_35 : decode cX4_dropFrom 35 = .ok (.iload_n 3, 1) := by decide +kernel
theorem dX4_dropFrom_36 : decode cX4_dropFrom 36 = .ok (.iaload, 1) := by decide +kernel
theorem dX4_dropFrom_37 : decode cX4_dropFrom 37 = .ok (.aload_n 0, 1) := by decide +kernel
theorem dX4_dropFrom_38 : decode cX4_dropFrom 38 = .ok (.getfield 15, 3) := by decide +kernel
theorem dX4_dropFrom_41 : decode cX4_dropFrom 41 = .ok (.iload_n 3, 1) := by decide +kernel
theorem dX4_dropFrom_42 : decode cX4_dropFrom 42 = .ok (.iaload, 1) := by decide +kernel
theorem dX4_dropFrom_43 : decode cX4_dropFrom 43 = .ok (.invokevirtual 28, 3) := by decide +kernel
theorem dX4_dropFrom_46 : decode cX4_dropFrom 46 = .ok (.aload_n 0, 1) := by decide +kernel
theorem dX4_dropFrom_47 : decode cX4_dropFrom 47 = .ok (.getfield 15, 3) := by decide +kernel
theorem dX4_dropFrom_50 : decode cX4_dropFrom 50 = .ok (.iload_n 3, 1) := by decide +kernel
theorem dX4_dropFrom_51 : decode cX4_dropFrom 51 = .ok (.iconst 0, 1) := by decide +kernel
theorem dX4_dropFrom_52 : decode cX4_dropFrom 52 = .ok (.iastore, 1) := by decide +kernel
theorem dX4_dropFrom_53 : decode cX4_dropFrom 53 = .ok (.iconst 1, 1) := by decide +kernel
theorem dX4_dropFrom_54 : decode cX4_dropFrom 54 = .ok (.ireturn, 1) := by decide +kernel
theorem dX5_init_0 : decode cX5_init 0 = .ok (.aload_n 0, 1) := by decide +kernel
theorem dX5_init_1 : decode cX5_init 1 = .ok (.invokespecial 3, 3) := by decide +kernel
theorem dX5_init_4 : decode cX5_init 4 = .ok (.aload_n 0, 1) := by decide +kernel
theorem dX5_init_5 : decode cX5_init 5 = .ok (.bipush 6, 2) := by decide +kernel
theorem dX5_init_7 : decode cX5_init 7 = .ok (.newarray .int, 2) := by decide +kernel
theorem dX5_init_9 : decode cX5_init 9 = .ok (.putfield 9, 3) := by decide +kernel
theorem dX5_init_12 : decode cX5_init 12 = .ok (.aload_n 0, 1) := by decide +kernel
theorem dX5_init_13 : decode cX5_init 13 = .ok (.bipush 6, 2) := by decide +kernel
theorem dX5_init_15 : decode cX5_init 15 = .ok (.newarray .int, 2) := by decide +kernel
theorem dX5_init_17 : decode cX5_init 17 = .ok (.putfield 15, 3) := by decide +kernel
theorem dX5_init_20 : decode cX5_init 20 = .ok (.aload_n 0, 1) := by decide +kernel
theorem dX5_init_21 : decode cX5_init 21 = .ok (.bipush 6, 2) := by decide +kernel
theorem dX5_init_23 : decode cX5_init 23 = .ok (.newarray .int, 2) := by decide +kernel
theorem dX5_init_25 : decode cX5_init 25 = .ok (.putfield 18, 3) := by decide +kernel
theorem dX5_init_28 : decode cX5_init 28 = .ok (.return_, 1) := by decide +kernel
theorem dX5_has_0 : decode cX5_has 0 = .ok (.iload_n 1, 1) := by decide +kernel
theorem dX5_has_1 : decode cX5_has 1 = .ok (.ifCond .lt 21, 3) := by decide +kernel
theorem dX5_has_4 : decode cX5_has 4 = .ok (.iload_n 1, 1) := by decide +kernel
theorem dX5_has_5 : decode cX5_has 5 = .ok (.aload_n 0, 1) := by decide +kernel
theorem dX5_has_6 : decode cX5_has 6 = .ok (.getfield 21, 3) := by decide +kernel
theorem dX5_has_9 : decode cX5_has 9 = .ok (.if_icmp .ge 13, 3) := by decide +kernel
theorem dX5_has_12 : decode cX5_has 12 = .ok (.iload_n 1, 1) := by decide +kernel
theorem dX5_has_13 : decode cX5_has 13 = .ok (.bipush 6, 2) := by decide +kernel
theorem dX5_has_15 : decode cX5_has 15 = .ok (.if_icmp .ge 7, 3) := by decide +kernel
theorem dX5_has_18 : decode cX5_has 18 = .ok (.iconst 1, 1) := by decide +kernel
theorem dX5_has_19 : decode cX5_has 19 = .ok (.goto 4, 3) := by decide +kernel
theorem dX5_has_22 : decode cX5_has 22 = .ok (.iconst 0, 1) := by decide +kernel
theorem dX5_has_23 : decode cX5_has 23 = .ok (.ireturn, 1) := by decide +kernel
theorem dX5_highOf_0 : decode cX5_highOf 0 = .ok (.aload_n 0, 1) := by decide +kernel
theorem dX5_highOf_1 : decode cX5_highOf 1 = .ok (.getfield 9, 3) := by decide +kernel
theorem dX5_highOf_4 : decode cX5_highOf 4 = .ok (.iload_n 1, 1) := by decide +kernel
theorem dX5_highOf_5 : decode cX5_highOf 5 = .ok (.iaload, 1) := by decide +kernel
theorem dX5_highOf_6 : decode cX5_highOf 6 = .ok (.aload_n 0, 1) := by decide +kernel
theorem dX5_highOf_7 : decode cX5_highOf 7 = .ok (.getfield 15, 3) := by decide +kernel
theorem dX5_highOf_10 : decode cX5_highOf 10 = .ok (.iload_n 1, 1) := by decide +kernel
theorem dX5_highOf_11 : decode cX5_highOf 11 = .ok (.iaload, 1) := by decide +kernel
theorem dX5_highOf_12 : decode cX5_highOf 12 = .ok (.iadd, 1) := by decide +kernel
theorem dX5_highOf_13 : decode cX5_highOf 13 = .ok (.ireturn, 1) := by decide +kernel
theorem dX5_end_0 : decode cX5_end 0 = .ok (.aload_n 0, 1) := by decide +kernel
theorem dX5_end_1 : decode cX5_end 1 = .ok (.aload_n 0, 1) := by decide +kernel
theorem dX5_end_2 : decode cX5_end 2 = .ok (.getfield 21, 3) := by decide +kernel
theorem dX5_end_5 : decode cX5_end 5 = .ok (.iconst 1, 1) := by decide +kernel
theorem dX5_end_6 : decode cX5_end 6 = .ok (.isub, 1) := by decide +kernel
theorem dX5_end_7 : decode cX5_end 7 = .ok (.invokevirtual 25, 3) := by decide +kernel
theorem dX5_end_10 : decode cX5_end 10 = .ok (.ifCond .eq 16, 3) := by decide +kernel
theorem dX5_end_13 : decode cX5_end 13 = .ok (.aload_n 0, 1) := by decide +kernel
theorem dX5_end_14 : decode cX5_end 14 = .ok (.aload_n 0, 1) := by decide +kernel
theorem dX5_end_15 : decode cX5_end 15 = .ok (.getfield 21, 3) := by decide +kernel
theorem dX5_end_18 : decode cX5_end 18 = .ok (.iconst 1, 1) := by decide +kernel
theorem dX5_end_19 : decode cX5_end 19 = .ok (.isub, 1) := by decide +kernel
theorem dX5_end_20 : decode cX5_end 20 = .ok (.invokevirtual 29, 3) := by decide +kernel
theorem dX5_end_23 : decode cX5_end 23 = .ok (.goto 4, 3) := by decide +kernel
theorem dX5_end_26 : decode cX5_end 26 = .ok (.iconst 0, 1) := by decide +kernel
theorem dX5_end_27 : decode cX5_end 27 = .ok (.ireturn, 1) := by decide +kernel
theorem dX5_addNext_0 : decode cX5_addNext 0 = .ok (.aload_n 0, 1) := by decide +kernel
theorem dX5_addNext_1 : decode cX5_addNext 1 = .ok (.invokevirtual 33, 3) := by decide +kernel
theorem dX5_addNext_4 : decode cX5_addNext 4 = .ok (.istore_n 3, 1) := by decide +kernel
theorem dX5_addNext_5 : decode cX5_addNext 5 = .ok (.aload_n 0, 1) := by decide +kernel
theorem dX5_addNext_6 : decode cX5_addNext 6 = .ok (.getfield 21, 3) := by decide +kernel
theorem dX5_addNext_9 : decode cX5_addNext 9 = .ok (.bipush 6, 2) := by decide +kernel
theorem dX5_addNext_11 : decode cX5_addNext 11 = .ok (.if_icmp .ge 12, 3) := by decide +kernel
theorem dX5_addNext_14 : decode cX5_addNext 14 = .ok (.iload_n 3, 1) := by decide +kernel
theorem dX5_addNext_15 : decode cX5_addNext 15 = .ok (.iload_n 1, 1) := by decide +kernel
theorem dX5_addNext_16 : decode cX5_addNext 16 = .ok (.iadd, 1) := by decide +kernel
theorem dX5_addNext_17 : decode cX5_addNext 17 = .ok (.sipush 240, 3) := by decide +kernel
theorem dX5_addNext_20 : decode cX5_addNext 20 = .ok (.if_icmp .le 5, 3) := by decide +kernel
theorem dX5_addNext_23 : decode cX5_addNext 23 = .ok (.iconst (-1), 1) := by decide +kernel
theorem dX5_addNext_24 : decode cX5_addNext 24 = .ok (.ireturn, 1) := by decide +kernel
theorem dX5_addNext_25 : decode cX5_addNext 25 = .ok (.aload_n 0, 1) := by decide +kernel
theorem dX5_addNext_26 : decode cX5_addNext 26 = .ok (.getfield 9, 3) := by decide +kernel
theorem dX5_addNext_29 : decode cX5_addNext 29 = .ok (.aload_n 0, 1) := by decide +kernel
theorem dX5_addNext_30 : decode cX5_addNext 30 = .ok (.getfield 21, 3) := by decide +kernel
theorem dX5_addNext_33 : decode cX5_addNext 33 = .ok (.iload_n 3, 1) := by decide +kernel
theorem dX5_addNext_34 : decode cX5_addNext 34 = .ok (.iastore, 1) := by decide +kernel
theorem dX5_addNext_35 : decode cX5_addNext 35 = .ok (.aload_n 0, 1) := by decide +kernel
theorem dX5_addNext_36 : decode cX5_addNext 36 = .ok (.getfield 15, 3) := by decide +kernel
theorem dX5_addNext_39 : decode cX5_addNext 39 = .ok (.aload_n 0, 1) := by decide +kernel
theorem dX5_addNext_40 : decode cX5_addNext 40 = .ok (.getfield 21, 3) := by decide +kernel
theorem dX5_addNext_43 : decode cX5_addNext 43 = .ok (.iload_n 1, 1) := by decide +kernel
theorem dX5_addNext_44 : decode cX5_addNext 44 = .ok (.iastore, 1) := by decide +kernel
theorem dX5_addNext_45 : decode cX5_addNext 45 = .ok (.aload_n 0, 1) := by decide +kernel
theorem dX5_addNext_46 : decode cX5_addNext 46 = .ok (.getfield 18, 3) := by decide +kernel
theorem dX5_addNext_49 : decode cX5_addNext 49 = .ok (.aload_n 0, 1) := by decide +kernel
theorem dX5_addNext_50 : decode cX5_addNext 50 = .ok (.getfield 21, 3) := by decide +kernel
theorem dX5_addNext_53 : decode cX5_addNext 53 = .ok (.iload_n 2, 1) := by decide +kernel
theorem dX5_addNext_54 : decode cX5_addNext 54 = .ok (.iastore, 1) := by decide +kernel
theorem dX5_addNext_55 : decode cX5_addNext 55 = .ok (.aload_n 0, 1) := by decide +kernel
theorem dX5_addNext_56 : decode cX5_addNext 56 = .ok (.dup, 1) := by decide +kernel
theorem dX5_addNext_57 : decode cX5_addNext 57 = .ok (.getfield 21, 3) := by decide +kernel
theorem dX5_addNext_60 : decode cX5_addNext 60 = .ok (.iconst 1, 1) := by decide +kernel
theorem dX5_addNext_61 : decode cX5_addNext 61 = .ok (.iadd, 1) := by decide +kernel
theorem dX5_addNext_62 : decode cX5_addNext 62 = .ok (.putfield 21, 3) := by decide +kernel
theorem dX5_addNext_65 : decode cX5_addNext 65 = .ok (.aload_n 0, 1) := by decide +kernel
theorem dX5_addNext_66 : decode cX5_addNext 66 = .ok (.getfield 21, 3) := by decide +kernel
theorem dX5_addNext_69 : decode cX5_addNext 69 = .ok (.iconst 1, 1) := by decide +kernel
theorem dX5_addNext_70 : decode cX5_addNext 70 = .ok (.isub, 1) := by decide +kernel
theorem dX5_addNext_71 : decode cX5_addNext 71 = .ok (.ireturn, 1) := by decide +kernel
theorem dX5_copyFrom_0 : decode cX5_copyFrom 0 = .ok (.aload_n 0, 1) := by decide +kernel
theorem dX5_copyFrom_1 : decode cX5_copyFrom 1 = .ok (.aload_n 1, 1) := by decide +kernel
theorem dX5_copyFrom_2 : decode cX5_copyFrom 2 = .ok (.getfield 21, 3) := by decide +kernel
theorem dX5_copyFrom_5 : decode cX5_copyFrom 5 = .ok (.putfield 21, 3) := by decide +kernel
theorem dX5_copyFrom_8 : decode cX5_copyFrom 8 = .ok (.aload_n 1, 1) := by decide +kernel
theorem dX5_copyFrom_9 : decode cX5_copyFrom 9 = .ok (.getfield 9, 3) := by decide +kernel
theorem dX5_copyFrom_12 : decode cX5_copyFrom 12 = .ok (.aload_n 0, 1) := by decide +kernel
theorem dX5_copyFrom_13 : decode cX5_copyFrom 13 = .ok (.getfield 9, 3) := by decide +kernel
theorem dX5_copyFrom_16 : decode cX5_copyFrom 16 = .ok (.invokestatic 37, 3) := by decide +kernel
theorem dX5_copyFrom_19 : decode cX5_copyFrom 19 = .ok (.aload_n 1, 1) := by decide +kernel
theorem dX5_copyFrom_20 : decode cX5_copyFrom 20 = .ok (.getfield 15, 3) := by decide +kernel
theorem dX5_copyFrom_23 : decode cX5_copyFrom 23 = .ok (.aload_n 0, 1) := by decide +kernel
theorem dX5_copyFrom_24 : decode cX5_copyFrom 24 = .ok (.getfield 15, 3) := by decide +kernel
theorem dX5_copyFrom_27 : decode cX5_copyFrom 27 = .ok (.invokestatic 37, 3) := by decide +kernel
theorem dX5_copyFrom_30 : decode cX5_copyFrom 30 = .ok (.aload_n 1, 1) := by decide +kernel
theorem dX5_copyFrom_31 : decode cX5_copyFrom 31 = .ok (.getfield 18, 3) := by decide +kernel
theorem dX5_copyFrom_34 : decode cX5_copyFrom 34 = .ok (.aload_n 0, 1) := by decide +kernel
theorem dX5_copyFrom_35 : decode cX5_copyFrom 35 = .ok (.getfield 18, 3) := by decide +kernel
theorem dX5_copyFrom_38 : decode cX5_copyFrom 38 = .ok (.invokestatic 37, 3) := by decide +kernel
theorem dX5_copyFrom_41 : decode cX5_copyFrom 41 = .ok (.return_, 1) := by decide +kernel
theorem dX6_init_0 : decode cX6_init 0 = .ok (.aload_n 0, 1) := by decide +kernel
theorem dX6_init_1 : decode cX6_init 1 = .ok (.invokespecial 3, 3) := by decide +kernel
theorem dX6_init_4 : decode cX6_init 4 = .ok (.aload_n 0, 1) := by decide +kernel
theorem dX6_init_5 : decode cX6_init 5 = .ok (.bipush 30, 2) := by decide +kernel
theorem dX6_init_7 : decode cX6_init 7 = .ok (.newarray .int, 2) := by decide +kernel
theorem dX6_init_9 : decode cX6_init 9 = .ok (.putfield 9, 3) := by decide +kernel
theorem dX6_init_12 : decode cX6_init 12 = .ok (.return_, 1) := by decide +kernel
theorem dX6_slotAt_0 : decode cX6_slotAt 0 = .ok (.iload_n 1, 1) := by decide +kernel
theorem dX6_slotAt_1 : decode cX6_slotAt 1 = .ok (.ifCond .lt 26, 3) := by decide +kernel
theorem dX6_slotAt_4 : decode cX6_slotAt 4 = .ok (.iload_n 1, 1) := by decide +kernel
theorem dX6_slotAt_5 : decode cX6_slotAt 5 = .ok (.aload_n 0, 1) := by decide +kernel
theorem dX6_slotAt_6 : decode cX6_slotAt 6 = .ok (.getfield 15, 3) := by decide +kernel
theorem dX6_slotAt_9 : decode cX6_slotAt 9 = .ok (.if_icmp .ge 18, 3) := by decide +kernel
theorem dX6_slotAt_12 : decode cX6_slotAt 12 = .ok (.iload_n 1, 1) := by decide +kernel
theorem dX6_slotAt_13 : decode cX6_slotAt 13 = .ok (.bipush 30, 2) := by decide +kernel
theorem dX6_slotAt_15 : decode cX6_slotAt 15 = .ok (.if_icmp .ge 12, 3) := by decide +kernel
theorem dX6_slotAt_18 : decode cX6_slotAt 18 = .ok (.aload_n 0, 1) := by decide +kernel
theorem dX6_slotAt_19 : decode cX6_slotAt 19 = .ok (.getfield 9, 3) := by decide +kernel
theorem dX6_slotAt_22 : decode cX6_slotAt 22 = .ok (.iload_n 1, 1) := by decide +kernel
theorem dX6_slotAt_23 : decode cX6_slotAt 23 = .ok (.iaload, 1) := by decide +kernel
theorem dX6_slotAt_24 : decode cX6_slotAt 24 = .ok (.goto 4, 3) := by decide +kernel
theorem dX6_slotAt_27 : decode cX6_slotAt 27 = .ok (.iconst (-1), 1) := by decide +kernel
theorem dX6_slotAt_28 : decode cX6_slotAt 28 = .ok (.ireturn, 1) := by decide +kernel
theorem dX6_addLast_0 : decode cX6_addLast 0 = .ok (.aload_n 0, 1) := by decide +kernel
theorem dX6_addLast_1 : decode cX6_addLast 1 = .ok (.getfield 15, 3) := by decide +kernel
theorem dX6_addLast_4 : decode cX6_addLast 4 = .ok (.bipush 30, 2) := by decide +kernel
theorem dX6_addLast_6 : decode cX6_addLast 6 = .ok (.if_icmp .lt 4, 3) := by decide +kernel
theorem dX6_addLast_9 : decode cX6_addLast 9 = .ok (.return_, 1) := by decide +kernel
theorem dX6_addLast_10 : decode cX6_addLast 10 = .ok (.aload_n 0, 1) := by decide +kernel
theorem dX6_addLast_11 : decode cX6_addLast 11 = .ok (.getfield 9, 3) := by decide +kernel
theorem dX6_addLast_14 : decode cX6_addLast 14 = .ok (.aload_n 0, 1) := by decide +kernel
theorem dX6_addLast_15 : decode cX6_addLast 15 = .ok (.getfield 15, 3) := by decide +kernel
theorem dX6_addLast_18 : decode cX6_addLast 18 = .ok (.iload_n 1, 1) := by decide +kernel
theorem dX6_addLast_19 : decode cX6_addLast 19 = .ok (.iastore, 1) := by decide +kernel
theorem dX6_addLast_20 : decode cX6_addLast 20 = .ok (.aload_n 0, 1) := by decide +kernel
theorem dX6_addLast_21 : decode cX6_addLast 21 = .ok (.dup, 1) := by decide +kernel
theorem dX6_addLast_22 : decode cX6_addLast 22 = .ok (.getfield 15, 3) := by decide +kernel
theorem dX6_addLast_25 : decode cX6_addLast 25 = .ok (.iconst 1, 1) := by decide +kernel
theorem dX6_addLast_26 : decode cX6_addLast 26 = .ok (.iadd, 1) := by decide +kernel
theorem dX6_addLast_27 : decode cX6_addLast 27 = .ok (.putfield 15, 3) := by decide +kernel
theorem dX6_addLast_30 : decode cX6_addLast 30 = .ok (.return_, 1) := by decide +kernel
theorem dX6_drop_0 : decode cX6_drop 0 = .ok (.iconst 0, 1) := by decide +kernel
theorem dX6_drop_1 : decode cX6_drop 1 = .ok (.istore_n 2, 1) := by decide +kernel
theorem dX6_drop_2 : decode cX6_drop 2 = .ok (.iconst 0, 1) := by decide +kernel
theorem dX6_drop_3 : decode cX6_drop 3 = .ok (.istore_n 3, 1) := by decide +kernel
theorem dX6_drop_4 : decode cX6_drop 4 = .ok (.iload_n 3, 1) := by decide +kernel
theorem dX6_drop_5 : decode cX6_drop 5 = .ok (.aload_n 0, 1) := by decide +kernel
theorem dX6_drop_6 : decode cX6_drop 6 = .ok (.getfield 15, 3) := by decide +kernel
theorem dX6_drop_9 : decode cX6_drop 9 = .ok (.if_icmp .ge 43, 3) := by decide +kernel
theorem dX6_drop_12 : decode cX6_drop 12 = .ok (.iload_n 3, 1) := by decide +kernel
theorem dX6_drop_13 : decode cX6_drop 13 = .ok (.bipush 30, 2) := by decide +kernel
theorem dX6_drop_15 : decode cX6_drop 15 = .ok (.if_icmp .ge 37, 3) := by decide +kernel
theorem dX6_drop_18 : decode cX6_drop 18 = .ok (.aload_n 0, 1) := by decide +kernel
theorem dX6_drop_19 : decode cX6_drop 19 = .ok (.getfield 9, 3) := by decide +kernel
theorem dX6_drop_22 : decode cX6_drop 22 = .ok (.iload_n 3, 1) := by decide +kernel
theorem dX6_drop_23 : decode cX6_drop 23 = .ok (.iaload, 1) := by decide +kernel
theorem dX6_drop_24 : decode cX6_drop 24 = .ok (.iload_n 1, 1) := by decide +kernel
theorem dX6_drop_25 : decode cX6_drop 25 = .ok (.if_icmp .ne 6, 3) := by decide +kernel
theorem dX6_drop_28 : decode cX6_drop 28 = .ok (.goto 18, 3) := by decide +kernel
theorem dX6_drop_31 : decode cX6_drop 31 = .ok (.aload_n 0, 1) := by decide +kernel
theorem dX6_drop_32 : decode cX6_drop 32 = .ok (.getfield 9, 3) := by decide +kernel
theorem dX6_drop_35 : decode cX6_drop 35 = .ok (.iload_n 2, 1) := by decide +kernel
theorem dX6_drop_36 : decode cX6_drop 36 = .ok (.aload_n 0, 1) := by decide +kernel
theorem dX6_drop_37 : decode cX6_drop 37 = .ok (.getfield 9, 3) := by decide +kernel
theorem dX6_drop_40 : decode cX6_drop 40 = .ok (.iload_n 3, 1) := by decide +kernel
theorem dX6_drop_41 : decode cX6_drop 41 = .ok (.iaload, 1) := by decide +kernel
theorem dX6_drop_42 : decode cX6_drop 42 = .ok (.iastore, 1) := by decide +kernel
theorem dX6_drop_43 : decode cX6_drop 43 = .ok (.iinc 2 1, 3) := by decide +kernel
theorem dX6_drop_46 : decode cX6_drop 46 = .ok (.iinc 3 1, 3) := by decide +kernel
theorem dX6_drop_49 : decode cX6_drop 49 = .ok (.goto (-45), 3) := by decide +kernel
theorem dX6_drop_52 : decode cX6_drop 52 = .ok (.aload_n 0, 1) := by decide +kernel
theorem dX6_drop_53 : decode cX6_drop 53 = .ok (.iload_n 2, 1) := by decide +kernel
theorem dX6_drop_54 : decode cX6_drop 54 = .ok (.putfield 15, 3) := by decide +kernel
theorem dX6_drop_57 : decode cX6_drop 57 = .ok (.return_, 1) := by decide +kernel
theorem dX6_copyFrom_0 : decode cX6_copyFrom 0 = .ok (.aload_n 0, 1) := by decide +kernel
theorem dX6_copyFrom_1 : decode cX6_copyFrom 1 = .ok (.aload_n 1, 1) := by decide +kernel
theorem dX6_copyFrom_2 : decode cX6_copyFrom 2 = .ok (.getfield 15, 3) := by decide +kernel
theorem dX6_copyFrom_5 : decode cX6_copyFrom 5 = .ok (.putfield 15, 3) := by decide +kernel
theorem dX6_copyFrom_8 : decode cX6_copyFrom 8 = .ok (.aload_n 1, 1) := by decide +kernel
theorem dX6_copyFrom_9 : decode cX6_copyFrom 9 = .ok (.getfield 9, 3) := by decide +kernel
theorem dX6_copyFrom_12 : decode cX6_copyFrom 12 = .ok (.aload_n 0, 1) := by decide +kernel
theorem dX6_copyFrom_13 : decode cX6_copyFrom 13 = .ok (.getfield 9, 3) := by decide +kernel
theorem dX6_copyFrom_16 : decode cX6_copyFrom 16 = .ok (.invokestatic 19, 3) := by decide +kernel
theorem dX6_copyFrom_19 : decode cX6_copyFrom 19 = .ok (.return_, 1) := by decide +kernel
theorem dX7_init_0 : decode cX7_init 0 = .ok (.aload_n 0, 1) := by decide +kernel
theorem dX7_init_1 : decode cX7_init 1 = .ok (.invokespecial 3, 3) := by decide +kernel
theorem dX7_init_4 : decode cX7_init 4 = .ok (.aload_n 0, 1) := by decide +kernel
theorem dX7_init_5 : decode cX7_init 5 = .ok (.bipush 120, 2) := by decide +kernel
theorem dX7_init_7 : decode cX7_init 7 = .ok (.newarray .int, 2) := by decide +kernel
theorem dX7_init_9 : decode cX7_init 9 = .ok (.putfield 9, 3) := by decide +kernel
theorem dX7_init_12 : decode cX7_init 12 = .ok (.aload_n 0, 1) := by decide +kernel
theorem dX7_init_13 : decode cX7_init 13 = .ok (.bipush 60, 2) := by decide +kernel
theorem dX7_init_15 : decode cX7_init 15 = .ok (.newarray .int, 2) := by decide +kernel
theorem dX7_init_17 : decode cX7_init 17 = .ok (.putfield 15, 3) := by decide +kernel
theorem dX7_init_20 : decode cX7_init 20 = .ok (.aload_n 0, 1) := by decide +kernel
theorem dX7_init_21 : decode cX7_init 21 = .ok (.sipush 180, 3) := by decide +kernel
theorem dX7_init_24 : decode cX7_init 24 = .ok (.newarray .int, 2) := by decide +kernel
theorem dX7_init_26 : decode cX7_init 26 = .ok (.putfield 18, 3) := by decide +kernel
theorem dX7_init_29 : decode cX7_init 29 = .ok (.return_, 1) := by decide +kernel
theorem dX7_append_0 : decode cX7_append 0 = .ok (.aload_n 0, 1) := by decide +kernel
theorem dX7_append_1 : decode cX7_append 1 = .ok (.getfield 21, 3) := by decide +kernel
theorem dX7_append_4 : decode cX7_append 4 = .ok (.bipush 120, 2) := by decide +kernel
theorem dX7_append_6 : decode cX7_append 6 = .ok (.if_icmp .lt 5, 3) := by decide +kernel
theorem dX7_append_9 : decode cX7_append 9 = .ok (.iconst 0, 1) := by decide +kernel
theorem dX7_append_10 : decode cX7_append 10 = .ok (.ireturn, 1) := by decide +kernel
theorem dX7_append_11 : decode cX7_append 11 = .ok (.aload_n 0, 1) := by decide +kernel
theorem dX7_append_12 : decode cX7_append 12 = .ok (.getfield 9, 3) := by decide +kernel
theorem dX7_append_15 : decode cX7_append 15 = .ok (.aload_n 0, 1) := by decide +kernel
theorem dX7_append_16 : decode cX7_append 16 = .ok (.getfield 21, 3) := by decide +kernel
theorem dX7_append_19 : decode cX7_append 19 = .ok (.iload_n 1, 1) := by decide +kernel
theorem dX7_append_20 : decode cX7_append 20 = .ok (.iastore, 1) := by decide +kernel
theorem dX7_append_21 : decode cX7_append 21 = .ok (.aload_n 0, 1) := by decide +kernel
theorem dX7_append_22 : decode cX7_append 22 = .ok (.dup, 1) := by decide +kernel
theorem dX7_append_23 : decode cX7_append 23 = .ok (.getfield 21, 3) := by decide +kernel
theorem dX7_append_26 : decode cX7_append 26 = .ok (.iconst 1, 1) := by decide +kernel
theorem dX7_append_27 : decode cX7_append 27 = .ok (.iadd, 1) := by decide +kernel
theorem dX7_append_28 : decode cX7_append 28 = .ok (.putfield 21, 3) := by decide +kernel
theorem dX7_append_31 : decode cX7_append 31 = .ok (.iconst 1, 1) := by decide +kernel
theorem dX7_append_32 : decode cX7_append 32 = .ok (.ireturn, 1) := by decide +kernel
theorem dX7_number_0 : decode cX7_number 0 = .ok (.aload_n 0, 1) := by decide +kernel
theorem dX7_number_1 : decode cX7_number 1 = .ok (.getfield 18, 3) := by decide +kernel
theorem dX7_number_4 : decode cX7_number 4 = .ok (.iconst 3, 1) := by decide +kernel
theorem dX7_number_5 : decode cX7_number 5 = .ok (.iload_n 1, 1) := by decide +kernel
theorem dX7_number_6 : decode cX7_number 6 = .ok (.imul, 1) := by decide +kernel
theorem dX7_number_7 : decode cX7_number 7 = .ok (.iload_n 2, 1) := by decide +kernel
theorem dX7_number_8 : decode cX7_number 8 = .ok (.iadd, 1) := by decide +kernel
theorem dX7_number_9 : decode cX7_number 9 = .ok (.iaload, 1) := by decide +kernel
theorem dX7_number_10 : decode cX7_number 10 = .ok (.ireturn, 1) := by decide +kernel
theorem dX7_hasForm_0 : decode cX7_hasForm 0 = .ok (.aload_n 0, 1) := by decide +kernel
theorem dX7_hasForm_1 : decode cX7_hasForm 1 = .ok (.iconst 0, 1) := by decide +kernel
theorem dX7_hasForm_2 : decode cX7_hasForm 2 = .ok (.putfield 25, 3) := by decide +kernel
theorem dX7_hasForm_5 : decode cX7_hasForm 5 = .ok (.aload_n 0, 1) := by decide +kernel
theorem dX7_hasForm_6 : decode cX7_hasForm 6 = .ok (.iconst 0, 1) := by decide +kernel
theorem dX7_hasForm_7 : decode cX7_hasForm 7 = .ok (.putfield 28, 3) := by decide +kernel
theorem dX7_hasForm_10 : decode cX7_hasForm 10 = .ok (.iconst 0, 1) := by decide +kernel
theorem dX7_hasForm_11 : decode cX7_hasForm 11 = .ok (.istore_n 1, 1) := by decide +kernel
theorem dX7_hasForm_12 : decode cX7_hasForm 12 = .ok (.iload_n 1, 1) := by decide +kernel
theorem dX7_hasForm_13 : decode cX7_hasForm 13 = .ok (.bipush 60, 2) := by decide +kernel
theorem dX7_hasForm_15 : decode cX7_hasForm 15 = .ok (.if_icmp .ge 42, 3) := by decide +kernel
theorem dX7_hasForm_18 : decode cX7_hasForm 18 = .ok (.aload_n 0, 1) := by decide +kernel
theorem dX7_hasForm_19 : decode cX7_hasForm 19 = .ok (.invokevirtual 31, 3) := by decide +kernel
theorem dX7_hasForm_22 : decode cX7_hasForm 22 = .ok (.ifCond .ne 5, 3) := by decide +kernel
theorem dX7_hasForm_25 : decode cX7_hasForm 25 = .ok (.iconst 0, 1) := by decide +kernel
theorem dX7_hasForm_26 : decode cX7_hasForm 26 = .ok (.ireturn, 1) := by decide +kernel
theorem dX7_hasForm_27 : decode cX7_hasForm 27 = .ok (.aload_n 0, 1) := by decide +kernel
theorem dX7_hasForm_28 : decode cX7_hasForm 28 = .ok (.getfield 25, 3) := by decide +kernel
theorem dX7_hasForm_31 : decode cX7_hasForm 31 = .ok (.aload_n 0, 1) := by decide +kernel
theorem dX7_hasForm_32 : decode cX7_hasForm 32 = .ok (.getfield 21, 3) := by decide +kernel
theorem dX7_hasForm_35 : decode cX7_hasForm 35 = .ok (.if_icmp .ne 5, 3) := by decide +kernel
theorem dX7_hasForm_38 : decode cX7_hasForm 38 = .ok (.iconst 1, 1) := by decide +kernel
theorem dX7_hasForm_39 : decode cX7_hasForm 39 = .ok (.ireturn, 1) := by decide +kernel
theorem dX7_hasForm_40 : decode cX7_hasForm 40 = .ok (.aload_n 0, 1) := by decide +kernel
theorem dX7_hasForm_41 : decode cX7_hasForm 41 = .ok (.bipush 59, 2) := by decide +kernel
theorem dX7_hasForm_43 : decode cX7_hasForm 43 = .ok (.invokevirtual 35, 3) := by decide +kernel
theorem dX7_hasForm_46 : decode cX7_hasForm 46 = .ok (.ifCond .ne 5, 3) := by decide +kernel
theorem dX7_hasForm_49 : decode cX7_hasForm 49 = .ok (.iconst 0, 1) := by decide +kernel
theorem dX7_hasForm_50 : decode cX7_hasForm 50 = .ok (.ireturn, 1) := by decide +kernel
theorem dX7_hasForm_51 : decode cX7_hasForm 51 = .ok (.iinc 1 1, 3) := by decide +kernel
theorem dX7_hasForm_54 : decode cX7_hasForm 54 = .ok (.goto (-42), 3) := by decide +kernel
theorem dX7_hasForm_57 : decode cX7_hasForm 57 = .ok (.iconst 0, 1) := by decide +kernel
theorem dX7_hasForm_58 : decode cX7_hasForm 58 = .ok (.ireturn, 1) := by decide +kernel
theorem dX7_readLine_0 : decode cX7_readLine 0 = .ok (.aload_n 0, 1) := by decide +kernel
theorem dX7_readLine_1 : decode cX7_readLine 1 = .ok (.invokevirtual 39, 3) := by decide +kernel
theorem dX7_readLine_4 : decode cX7_readLine 4 = .ok (.invokestatic 43, 3) := by decide +kernel
theorem dX7_readLine_7 : decode cX7_readLine 7 = .ok (.istore_n 1, 1) := by decide +kernel
theorem dX7_readLine_8 : decode cX7_readLine 8 = .ok (.iload_n 1, 1) := by decide +kernel
theorem dX7_readLine_9 : decode cX7_readLine 9 = .ok (.iconst (-1), 1) := by decide +kernel
theorem dX7_readLine_10 : decode cX7_readLine 10 = .ok (.if_icmp .ne 5, 3) := by decide +kernel
theorem dX7_readLine_13 : decode cX7_readLine 13 = .ok (.iconst 0, 1) := by decide +kernel
theorem dX7_readLine_14 : decode cX7_readLine 14 = .ok (.ireturn, 1) := by decide +kernel
theorem dX7_readLine_15 : decode cX7_readLine 15 = .ok (.aload_n 0, 1) := by decide +kernel
theorem dX7_readLine_16 : decode cX7_readLine 16 = .ok (.getfield 15, 3) := by decide +kernel
theorem dX7_readLine_19 : decode cX7_readLine 19 = .ok (.aload_n 0, 1) := by decide +kernel
theorem dX7_readLine_20 : decode cX7_readLine 20 = .ok (.getfield 28, 3) := by decide +kernel
theorem dX7_readLine_23 : decode cX7_readLine 23 = .ok (.aload_n 0, 1) := by decide +kernel
theorem dX7_readLine_24 : decode cX7_readLine 24 = .ok (.invokevirtual 39, 3) := by decide +kernel
theorem dX7_readLine_27 : decode cX7_readLine 27 = .ok (.iastore, 1) := by decide +kernel
theorem dX7_readLine_28 : decode cX7_readLine 28 = .ok (.aload_n 0, 1) := by decide +kernel
theorem dX7_readLine_29 : decode cX7_readLine 29 = .ok (.dup, 1) := by decide +kernel
theorem dX7_readLine_30 : decode cX7_readLine 30 = .ok (.getfield 25, 3) := by decide +kernel
theorem dX7_readLine_33 : decode cX7_readLine 33 = .ok (.iconst 1, 1) := by decide +kernel
theorem dX7_readLine_34 : decode cX7_readLine 34 = .ok (.iadd, 1) := by decide +kernel
theorem dX7_readLine_35 : decode cX7_readLine 35 = .ok (.putfield 25, 3) := by decide +kernel
theorem dX7_readLine_38 : decode cX7_readLine 38 = .ok (.iconst 0, 1) := by decide +kernel
theorem dX7_readLine_39 : decode cX7_readLine 39 = .ok (.istore_n 2, 1) := by decide +kernel
theorem dX7_readLine_40 : decode cX7_readLine 40 = .ok (.iload_n 2, 1) := by decide +kernel
theorem dX7_readLine_41 : decode cX7_readLine 41 = .ok (.iload_n 1, 1) := by decide +kernel
theorem dX7_readLine_42 : decode cX7_readLine 42 = .ok (.if_icmp .ge 35, 3) := by decide +kernel
theorem dX7_readLine_45 : decode cX7_readLine 45 = .ok (.aload_n 0, 1) := by decide +kernel
theorem dX7_readLine_46 : decode cX7_readLine 46 = .ok (.bipush 32, 2) := by decide +kernel
theorem dX7_readLine_48 : decode cX7_readLine 48 = .ok (.invokevirtual 35, 3) := by decide +kernel
theorem dX7_readLine_51 : decode cX7_readLine 51 = .ok (.ifCond .eq 18, 3) := by decide +kernel
theorem dX7_readLine_54 : decode cX7_readLine 54 = .ok (.aload_n 0, 1) := by decide +kernel
theorem dX7_readLine_55 : decode cX7_readLine 55 = .ok (.iconst 3, 1) := by decide +kernel
theorem dX7_readLine_56 : decode cX7_readLine 56 = .ok (.aload_n 0, 1) := by decide +kernel
theorem dX7_readLine_57 : decode cX7_readLine 57 = .ok (.getfield 28, 3) := by decide +kernel
theorem dX7_readLine_60 : decode cX7_readLine 60 = .ok (.imul, 1) := by decide +kernel
theorem dX7_readLine_61 : decode cX7_readLine 61 = .ok (.iload_n 2, 1) := by decide +kernel
theorem dX7_readLine_62 : decode cX7_readLine 62 = .ok (.iadd, 1) := by decide +kernel
theorem dX7_readLine_63 : decode cX7_readLine 63 = .ok (.invokevirtual 47, 3) := by decide +kernel
theorem dX7_readLine_66 : decode cX7_readLine 66 = .ok (.ifCond .ne 5, 3) := by decide +kernel
theorem dX7_readLine_69 : decode cX7_readLine 69 = .ok (.iconst 0, 1) := by decide +kernel
theorem dX7_readLine_70 : decode cX7_readLine 70 = .ok (.ireturn, 1) := by decide +kernel
theorem dX7_readLine_71 : decode cX7_readLine 71 = .ok (.iinc 2 1, 3) := by decide +kernel
theorem dX7_readLine_74 : decode cX7_readLine 74 = .ok (.goto (-34), 3) := by decide +kernel
theorem dX7_readLine_77 : decode cX7_readLine 77 = .ok (.aload_n 0, 1) := by decide +kernel
theorem dX7_readLine_78 : decode cX7_readLine 78 = .ok (.dup, 1) := by decide +kernel
theorem dX7_readLine_79 : decode cX7_readLine 79 = .ok (.getfield 28, 3) := by decide +kernel
theorem dX7_readLine_82 : decode cX7_readLine 82 = .ok (.iconst 1, 1) := by decide +kernel
theorem dX7_readLine_83 : decode cX7_readLine 83 = .ok (.iadd, 1) := by decide +kernel
theorem dX7_readLine_84 : decode cX7_readLine 84 = .ok (.putfield 28, 3) := by decide +kernel
theorem dX7_readLine_87 : decode cX7_readLine 87 = .ok (.iconst 1, 1) := by decide +kernel
theorem dX7_readLine_88 : decode cX7_readLine 88 = .ok (.ireturn, 1) := by decide +kernel
theorem dX7_readSign_0 : decode cX7_readSign 0 = .ok (.aload_n 0, 1) := by decide +kernel
theorem dX7_readSign_1 : decode cX7_readSign 1 = .ok (.invokevirtual 39, 3) := by decide +kernel
theorem dX7_readSign_4 : decode cX7_readSign 4 = .ok (.iload_n 1, 1) := by decide +kernel
theorem dX7_readSign_5 : decode cX7_readSign 5 = .ok (.if_icmp .eq 5, 3) := by decide +kernel
theorem dX7_readSign_8 : decode cX7_readSign 8 = .ok (.iconst 0, 1) := by decide +kernel
theorem dX7_readSign_9 : decode cX7_readSign 9 = .ok (.ireturn, 1) := by decide +kernel
theorem dX7_readSign_10 : decode cX7_readSign 10 = .ok (.aload_n 0, 1) := by decide +kernel
theorem dX7_readSign_11 : decode cX7_readSign 11 = .ok (.dup, 1) := by decide +kernel
theorem dX7_readSign_12 : decode cX7_readSign 12 = .ok (.getfield 25, 3) := by decide +kernel
theorem dX7_readSign_15 : decode cX7_readSign 15 = .ok (.iconst 1, 1) := by decide +kernel
theorem dX7_readSign_16 : decode cX7_readSign 16 = .ok (.iadd, 1) := by decide +kernel
theorem dX7_readSign_17 : decode cX7_readSign 17 = .ok (.putfield 25, 3) := by decide +kernel
theorem dX7_readSign_20 : decode cX7_readSign 20 = .ok (.iconst 1, 1) := by decide +kernel
theorem dX7_readSign_21 : decode cX7_readSign 21 = .ok (.ireturn, 1) := by decide +kernel
theorem dX7_readNumber_0 : decode cX7_readNumber 0 = .ok (.iconst 0, 1) := by decide +kernel
theorem dX7_readNumber_1 : decode cX7_readNumber 1 = .ok (.istore_n 2, 1) := by decide +kernel
theorem dX7_readNumber_2 : decode cX7_readNumber 2 = .ok (.iconst 0, 1) := by decide +kernel
theorem dX7_readNumber_3 : decode cX7_readNumber 3 = .ok (.istore_n 3, 1) := by decide +kernel
theorem dX7_readNumber_4 : decode cX7_readNumber 4 = .ok (.iload_n 2, 1) := by decide +kernel
theorem dX7_readNumber_5 : decode cX7_readNumber 5 = .ok (.iconst 3, 1) := by decide +kernel
theorem dX7_readNumber_6 : decode cX7_readNumber 6 = .ok (.if_icmp .ge 50, 3) := by decide +kernel
theorem dX7_readNumber_9 : decode cX7_readNumber 9 = .ok (.aload_n 0, 1) := by decide +kernel
theorem dX7_readNumber_10 : decode cX7_readNumber 10 = .ok (.invokevirtual 39, 3) := by decide +kernel
theorem dX7_readNumber_13 : decode cX7_readNumber 13 = .ok (.bipush 48, 2) := by decide +kernel
theorem dX7_readNumber_15 : decode cX7_readNumber 15 = .ok (.if_icmp .lt 41, 3) := by decide +kernel
theorem dX7_readNumber_18 : decode cX7_readNumber 18 = .ok (.aload_n 0, 1) := by decide +kernel
theorem dX7_readNumber_19 : decode cX7_readNumber 19 = .ok (.invokevirtual 39, 3) := by decide +kernel
theorem dX7_readNumber_22 : decode cX7_readNumber 22 = .ok (.bipush 57, 2) := by decide +kernel
theorem dX7_readNumber_24 : decode cX7_readNumber 24 = .ok (.if_icmp .gt 32, 3) := by decide +kernel
theorem dX7_readNumber_27 : decode cX7_readNumber 27 = .ok (.bipush 10, 2) := by decide +kernel
theorem dX7_readNumber_29 : decode cX7_readNumber 29 = .ok (.iload_n 3, 1) := by decide +kernel
theorem dX7_readNumber_30 : decode cX7_readNumber 30 = .ok (.imul, 1) := by decide +kernel
theorem dX7_readNumber_31 : decode cX7_readNumber 31 = .ok (.aload_n 0, 1) := by decide +kernel
theorem dX7_readNumber_32 : decode cX7_readNumber 32 = .ok (.invokevirtual 39, 3) := by decide +kernel
theorem dX7_readNumber_35 : decode cX7_readNumber 35 = .ok (.iadd, 1) := by decide +kernel
theorem dX7_readNumber_36 : decode cX7_readNumber 36 = .ok (.bipush 48, 2) := by decide +kernel
theorem dX7_readNumber_38 : decode cX7_readNumber 38 = .ok (.isub, 1) := by decide +kernel
theorem dX7_readNumber_39 : decode cX7_readNumber 39 = .ok (.istore_n 3, 1) := by decide +kernel
theorem dX7_readNumber_40 : decode cX7_readNumber 40 = .ok (.aload_n 0, 1) := by decide +kernel
theorem dX7_readNumber_41 : decode cX7_readNumber 41 = .ok (.dup, 1) := by decide +kernel
theorem dX7_readNumber_42 : decode cX7_readNumber 42 = .ok (.getfield 25, 3) := by decide +kernel
theorem dX7_readNumber_45 : decode cX7_readNumber 45 = .ok (.iconst 1, 1) := by decide +kernel
theorem dX7_readNumber_46 : decode cX7_readNumber 46 = .ok (.iadd, 1) := by decide +kernel
theorem dX7_readNumber_47 : decode cX7_readNumber 47 = .ok (.putfield 25, 3) := by decide +kernel
theorem dX7_readNumber_50 : decode cX7_readNumber 50 = .ok (.iinc 2 1, 3) := by decide +kernel
theorem dX7_readNumber_53 : decode cX7_readNumber 53 = .ok (.goto (-49), 3) := by decide +kernel
theorem dX7_readNumber_56 : decode cX7_readNumber 56 = .ok (.aload_n 0, 1) := by decide +kernel
theorem dX7_readNumber_57 : decode cX7_readNumber 57 = .ok (.getfield 18, 3) := by decide +kernel
theorem dX7_readNumber_60 : decode cX7_readNumber 60 = .ok (.iload_n 1, 1) := by decide +kernel
theorem dX7_readNumber_61 : decode cX7_readNumber 61 = .ok (.iload_n 3, 1) := by decide +kernel
theorem dX7_readNumber_62 : decode cX7_readNumber 62 = .ok (.iastore, 1) := by decide +kernel
theorem dX7_readNumber_63 : decode cX7_readNumber 63 = .ok (.iload_n 2, 1) := by decide +kernel
theorem dX7_readNumber_64 : decode cX7_readNumber 64 = .ok (.ifCond .le 7, 3) := by decide +kernel
theorem dX7_readNumber_67 : decode cX7_readNumber 67 = .ok (.iconst 1, 1) := by decide +kernel
theorem dX7_readNumber_68 : decode cX7_readNumber 68 = .ok (.goto 4, 3) := by decide +kernel
theorem dX7_readNumber_71 : decode cX7_readNumber 71 = .ok (.iconst 0, 1) := by decide +kernel
theorem dX7_readNumber_72 : decode cX7_readNumber 72 = .ok (.ireturn, 1) := by decide +kernel
theorem dX7_nextByte_0 : decode cX7_nextByte 0 = .ok (.aload_n 0, 1) := by decide +kernel
theorem dX7_nextByte_1 : decode cX7_nextByte 1 = .ok (.getfield 25, 3) := by decide +kernel
theorem dX7_nextByte_4 : decode cX7_nextByte 4 = .ok (.ifCond .lt 35, 3) := by decide +kernel
theorem dX7_nextByte_7 : decode cX7_nextByte 7 = .ok (.aload_n 0, 1) := by decide +kernel
theorem dX7_nextByte_8 : decode cX7_nextByte 8 = .ok (.getfield 25, 3) := by decide +kernel
theorem dX7_nextByte_11 : decode cX7_nextByte 11 = .ok (.aload_n 0, 1) := by decide +kernel
theorem dX7_nextByte_12 : decode cX7_nextByte 12 = .ok (.getfield 21, 3) := by decide +kernel
theorem dX7_nextByte_15 : decode cX7_nextByte 15 = .ok (.if_icmp .ge 24, 3) := by decide +kernel
theorem dX7_nextByte_18 : decode cX7_nextByte 18 = .ok (.aload_n 0, 1) := by decide +kernel
theorem dX7_nextByte_19 : decode cX7_nextByte 19 = .ok (.getfield 25, 3) := by decide +kernel
theorem dX7_nextByte_22 : decode cX7_nextByte 22 = .ok (.bipush 120, 2) := by decide +kernel
theorem dX7_nextByte_24 : decode cX7_nextByte 24 = .ok (.if_icmp .ge 15, 3) := by decide +kernel
theorem dX7_nextByte_27 : decode cX7_nextByte 27 = .ok (.aload_n 0, 1) := by decide +kernel
theorem dX7_nextByte_28 : decode cX7_nextByte 28 = .ok (.getfield 9, 3) := by decide +kernel
theorem dX7_nextByte_31 : decode cX7_nextByte 31 = .ok (.aload_n 0, 1) := by decide +kernel
theorem dX7_nextByte_32 : decode cX7_nextByte 32 = .ok (.getfield 25, 3) := by decide +kernel
theorem dX7_nextByte_35 : decode cX7_nextByte 35 = .ok (.iaload, 1) := by decide +kernel
theorem dX7_nextByte_36 : decode cX7_nextByte 36 = .ok (.goto 4, 3) := by decide +kernel
theorem dX7_nextByte_39 : decode cX7_nextByte 39 = .ok (.iconst (-1), 1) := by decide +kernel
theorem dX7_nextByte_40 : decode cX7_nextByte 40 = .ok (.ireturn, 1) := by decide +kernel
theorem dX7_numbersBehind_0 : decode cX7_numbersBehind 0 = .ok (.iload_n 0, 1) := by decide +kernel
theorem dX7_numbersBehind_1 : decode cX7_numbersBehind 1 = .ok (.tableswitch 103 98 117 #[101, 103, 103, 95, 97, 103, 103, 97, 103, 103, 103, 99, 103, 97, 97, 103, 99, 103, 101, 97], 95) := by decide +kernel
theorem dX7_numbersBehind_96 : decode cX7_numbersBehind 96 = .ok (.iconst 0, 1) := by decide +kernel
theorem dX7_numbersBehind_97 : decode cX7_numbersBehind 97 = .ok (.ireturn, 1) := by decide +kernel
theorem dX7_numbersBehind_98 : decode cX7_numbersBehind 98 = .ok (.iconst 1, 1) := by decide +kernel
theorem dX7_numbersBehind_99 : decode cX7_numbersBehind 99 = .ok (.ireturn, 1) := by decide +kernel
theorem dX7_numbersBehind_100 : decode cX7_numbersBehind 100 = .ok (.iconst 2, 1) := by decide +kernel
theorem dX7_numbersBehind_101 : decode cX7_numbersBehind 101 = .ok (.ireturn, 1) := by decide +kernel
theorem dX7_numbersBehind_102 : decode cX7_numbersBehind 102 = .ok (.iconst 3, 1) := by decide +kernel
theorem dX7_numbersBehind_103 : decode cX7_numbersBehind 103 = .ok (.ireturn, 1) := by decide +kernel
theorem dX7_numbersBehind_104 : decode cX7_numbersBehind 104 = .ok (.iconst (-1), 1) := by decide +kernel
theorem dX7_numbersBehind_105 : decode cX7_numbersBehind 105 = .ok (.ireturn, 1) := by decide +kernel
theorem dX8_init_0 : decode cX8_init 0 = .ok (.aload_n 0, 1) := by decide +kernel
theorem dX8_init_1 : decode cX8_init 1 = .ok (.invokespecial 3, 3) := by decide +kernel
theorem dX8_init_4 : decode cX8_init 4 = .ok (.aload_n 0, 1) := by decide +kernel
theorem dX8_init_5 : decode cX8_init 5 = .ok (.bipush 30, 2) := by decide +kernel
theorem dX8_init_7 : decode cX8_init 7 = .ok (.newarray .int, 2) := by decide +kernel
theorem dX8_init_9 : decode cX8_init 9 = .ok (.putfield 9, 3) := by decide +kernel
theorem dX8_init_12 : decode cX8_init 12 = .ok (.aload_n 0, 1) := by decide +kernel
theorem dX8_init_13 : decode cX8_init 13 = .ok (.bipush 30, 2) := by decide +kernel
theorem dX8_init_15 : decode cX8_init 15 = .ok (.newarray .int, 2) := by decide +kernel
theorem dX8_init_17 : decode cX8_init 17 = .ok (.putfield 15, 3) := by decide +kernel
theorem dX8_init_20 : decode cX8_init 20 = .ok (.return_, 1) := by decide +kernel
theorem dX8_fromTagsAndPins_0 : decode cX8_fromTagsAndPins 0 = .ok (.aload_n 0, 1) := by decide +kernel
theorem dX8_fromTagsAndPins_1 : decode cX8_fromTagsAndPins 1 = .ok (.invokevirtual 18, 3) := by decide +kernel
theorem dX8_fromTagsAndPins_4 : decode cX8_fromTagsAndPins 4 = .ok (.iconst 0, 1) := by decide +kernel
theorem dX8_fromTagsAndPins_5 : decode cX8_fromTagsAndPins 5 = .ok (.istore_n 2, 1) := by decide +kernel
theorem dX8_fromTagsAndPins_6 : decode cX8_fromTagsAndPins 6 = .ok (.iload_n 2, 1) := by decide +kernel
theorem dX8_fromTagsAndPins_7 : decode cX8_fromTagsAndPins 7 = .ok (.bipush 30, 2) := by decide +kernel
theorem dX8_fromTagsAndPins_9 : decode cX8_fromTagsAndPins 9 = .ok (.if_icmp .ge 56, 3) := by decide +kernel
theorem dX8_fromTagsAndPins_12 : decode cX8_fromTagsAndPins 12 = .ok (.aload_n 1, 1) := by decide +kernel
theorem dX8_fromTagsAndPins_13 : decode cX8_fromTagsAndPins 13 = .ok (.getfield 21, 3) := by decide +kernel
theorem dX8_fromTagsAndPins_16 : decode cX8_fromTagsAndPins 16 = .ok (.getfield 27, 3) := by decide +kernel
theorem dX8_fromTagsAndPins_19 : decode cX8_fromTagsAndPins 19 = .ok (.iload_n 2, 1) := by decide +kernel
theorem dX8_fromTagsAndPins_20 : decode cX8_fromTagsAndPins 20 = .ok (.iaload, 1) := by decide +kernel
theorem dX8_fromTagsAndPins_21 : decode cX8_fromTagsAndPins 21 = .ok (.iconst 1, 1) := by decide +kernel
theorem dX8_fromTagsAndPins_22 : decode cX8_fromTagsAndPins 22 = .ok (.if_icmp .eq 6, 3) := by decide +kernel
theorem dX8_fromTagsAndPins_25 : decode cX8_fromTagsAndPins 25 = .ok (.goto 34, 3) := by decide +kernel
theorem dX8_fromTagsAndPins_28 : decode cX8_fromTagsAndPins 28 = .ok (.aload_n 1, 1) := by decide +kernel
theorem dX8_fromTagsAndPins_29 : decode cX8_fromTagsAndPins 29 = .ok (.getfield 21, 3) := by decide +kernel
theorem dX8_fromTagsAndPins_32 : decode cX8_fromTagsAndPins 32 = .ok (.getfield 32, 3) := by decide +kernel
theorem dX8_fromTagsAndPins_35 : decode cX8_fromTagsAndPins 35 = .ok (.iload_n 2, 1) := by decide +kernel
theorem dX8_fromTagsAndPins_36 : decode cX8_fromTagsAndPins 36 = .ok (.iaload, 1) := by decide +kernel
theorem dX8_fromTagsAndPins_37 : decode cX8_fromTagsAndPins 37 = .ok (.iconst (-1), 1) := by decide +kernel
theorem dX8_fromTagsAndPins_38 : decode cX8_fromTagsAndPins 38 = .ok (.if_icmp .ne 15, 3) := by decide +kernel
theorem dX8_fromTagsAndPins_41 : decode cX8_fromTagsAndPins 41 = .ok (.aload_n 1, 1) := by decide +kernel
theorem dX8_fromTagsAndPins_42 : decode cX8_fromTagsAndPins 42 = .ok (.getfield 21, 3) := by decide +kernel
theorem dX8_fromTagsAndPins_45 : decode cX8_fromTagsAndPins 45 = .ok (.getfield 35, 3) := by decide +kernel
theorem dX8_fromTagsAndPins_48 : decode cX8_fromTagsAndPins 48 = .ok (.iload_n 2, 1) := by decide +kernel
theorem dX8_fromTagsAndPins_49 : decode cX8_fromTagsAndPins 49 = .ok (.iaload, 1) := by decide +kernel
theorem dX8_fromTagsAndPins_50 : decode cX8_fromTagsAndPins 50 = .ok (.ifCond .le 9, 3) := by decide +kernel
theorem dX8_fromTagsAndPins_53 : decode cX8_fromTagsAndPins 53 = .ok (.aload_n 0, 1) := by decide +kernel
theorem dX8_fromTagsAndPins_54 : decode cX8_fromTagsAndPins 54 = .ok (.iload_n 2, 1) := by decide +kernel
theorem dX8_fromTagsAndPins_55 : decode cX8_fromTagsAndPins 55 = .ok (.iconst 0, 1) := by decide +kernel
theorem dX8_fromTagsAndPins_56 : decode cX8_fromTagsAndPins 56 = .ok (.invokevirtual 38, 3) := by decide +kernel
theorem dX8_fromTagsAndPins_59 : decode cX8_fromTagsAndPins 59 = .ok (.iinc 2 1, 3) := by decide +kernel
theorem dX8_fromTagsAndPins_62 : decode cX8_fromTagsAndPins 62 = .ok (.goto (-56), 3) := by decide +kernel
theorem dX8_fromTagsAndPins_65 : decode cX8_fromTagsAndPins 65 = .ok (.aload_n 0, 1) := by decide +kernel
theorem dX8_fromTagsAndPins_66 : decode cX8_fromTagsAndPins 66 = .ok (.aload_n 1, 1) := by decide +kernel
theorem dX8_fromTagsAndPins_67 : decode cX8_fromTagsAndPins 67 = .ok (.invokevirtual 42, 3) := by decide +kernel
theorem dX8_fromTagsAndPins_70 : decode cX8_fromTagsAndPins 70 = .ok (.return_, 1) := by decide +kernel
end
section
theorem dX8_from_0 : decode cX8_from 0 = .ok (.aload_n 0, 1) := by decide +kernel
theorem dX8_from_1 : decode cX8_from 1 = .ok (.invokevirtual 18, 3) := by decide +kernel
theorem dX8_from_4 : decode cX8_from 4 = .ok (.aload_n 0, 1) := by decide +kernel
theorem dX8_from_5 : decode cX8_from 5 = .ok (.iload_n 2, 1) := by decide +kernel
theorem dX8_from_6 : decode cX8_from 6 = .ok (.iconst 0, 1) := by decide +kernel
theorem dX8_from_7 : decode cX8_from 7 = .ok (.invokevirtual 38, 3) := by decide +kernel
theorem dX8_from_10 : decode cX8_from 10 = .ok (.aload_n 0, 1) := by decide +kernel
theorem dX8_from_11 : decode cX8_from 11 = .ok (.aload_n 1, 1) := by decide +kernel
theorem dX8_from_12 : decode cX8_from 12 = .ok (.invokevirtual 42, 3) := by decide +kernel
theorem dX8_from_15 : decode cX8_from 15 = .ok (.return_, 1) := by decide +kernel
theorem dX8_begin_0 : decode cX8_begin 0 = .ok (.aload_n 0, 1) := by decide +kernel
theorem dX8_begin_1 : decode cX8_begin 1 = .ok (.getfield 9, 3) := by decide +kernel
theorem dX8_begin_4 : decode cX8_begin 4 = .ok (.iconst 0, 1) := by decide +kernel
theorem dX8_begin_5 : decode cX8_begin 5 = .ok (.bipush 30, 2) := by decide +kernel
theorem dX8_begin_7 : decode cX8_begin 7 = .ok (.iconst (-1), 1) := by decide +kernel
theorem dX8_begin_8 : decode cX8_begin 8 = .ok (.invokestatic 46, 3) := by decide +kernel
theorem dX8_begin_11 : decode cX8_begin 11 = .ok (.aload_n 0, 1) := by decide +kernel
theorem dX8_begin_12 : decode cX8_begin 12 = .ok (.iconst 0, 1) := by decide +kernel
theorem dX8_begin_13 : decode cX8_begin 13 = .ok (.putfield 50, 3) := by decide +kernel
theorem dX8_begin_16 : decode cX8_begin 16 = .ok (.return_, 1) := by decide +kernel
theorem dX8_comeTo_0 : decode cX8_comeTo 0 = .ok (.aload_n 0, 1) := by decide +kernel
theorem dX8_comeTo_1 : decode cX8_comeTo 1 = .ok (.getfield 9, 3) := by decide +kernel
theorem dX8_comeTo_4 : decode cX8_comeTo 4 = .ok (.iload_n 1, 1) := by decide +kernel
theorem dX8_comeTo_5 : decode cX8_comeTo 5 = .ok (.iaload, 1) := by decide +kernel
theorem dX8_comeTo_6 : decode cX8_comeTo 6 = .ok (.iconst (-1), 1) := by decide +kernel
theorem dX8_comeTo_7 : decode cX8_comeTo 7 = .ok (.if_icmp .ne 12, 3) := by decide +kernel
theorem dX8_comeTo_10 : decode cX8_comeTo 10 = .ok (.aload_n 0, 1) := by decide +kernel
theorem dX8_comeTo_11 : decode cX8_comeTo 11 = .ok (.getfield 50, 3) := by decide +kernel
theorem dX8_comeTo_14 : decode cX8_comeTo 14 = .ok (.bipush 30, 2) := by decide +kernel
theorem dX8_comeTo_16 : decode cX8_comeTo 16 = .ok (.if_icmp .lt 4, 3) := by decide +kernel
theorem dX8_comeTo_19 : decode cX8_comeTo 19 = .ok (.return_, 1) := by decide +kernel
theorem dX8_comeTo_20 : decode cX8_comeTo 20 = .ok (.aload_n 0, 1) := by decide +kernel
theorem dX8_comeTo_21 : decode cX8_comeTo 21 = .ok (.getfield 9, 3) := by decide +kernel
theorem dX8_comeTo_24 : decode cX8_comeTo 24 = .ok (.iload_n 1, 1) := by decide +kernel
theorem dX8_comeTo_25 : decode cX8_comeTo 25 = .ok (.iload_n 2, 1) := by decide +kernel
theorem dX8_comeTo_26 : decode cX8_comeTo 26 = .ok (.iastore, 1) := by decide +kernel
theorem dX8_comeTo_27 : decode cX8_comeTo 27 = .ok (.aload_n 0, 1) := by decide +kernel
theorem dX8_comeTo_28 : decode cX8_comeTo 28 = .ok (.getfield 15, 3) := by decide +kernel
theorem dX8_comeTo_31 : decode cX8_comeTo 31 = .ok (.aload_n 0, 1) := by decide +kernel
theorem dX8_comeTo_32 : decode cX8_comeTo 32 = .ok (.getfield 50, 3) := by decide +kernel
theorem dX8_comeTo_35 : decode cX8_comeTo 35 = .ok (.iload_n 1, 1) := by decide +kernel
theorem dX8_comeTo_36 : decode cX8_comeTo 36 = .ok (.iastore, 1) := by decide +kernel
theorem dX8_comeTo_37 : decode cX8_comeTo 37 = .ok (.aload_n 0, 1) := by decide +kernel
theorem dX8_comeTo_38 : decode cX8_comeTo 38 = .ok (.dup, 1) := by decide +kernel
theorem dX8_comeTo_39 : decode cX8_comeTo 39 = .ok (.getfield 50, 3) := by decide +kernel
theorem dX8_comeTo_42 : decode cX8_comeTo 42 = .ok (.iconst 1, 1) := by decide +kernel
theorem dX8_comeTo_43 : decode cX8_comeTo 43 = .ok (.iadd, 1) := by decide +kernel
theorem dX8_comeTo_44 : decode cX8_comeTo 44 = .ok (.putfield 50, 3) := by decide +kernel
theorem dX8_comeTo_47 : decode cX8_comeTo 47 = .ok (.return_, 1) := by decide +kernel
theorem dX8_goOn_0 : decode cX8_goOn 0 = .ok (.iconst 0, 1) := by decide +kernel
theorem dX8_goOn_1 : decode cX8_goOn 1 = .ok (.istore_n 2, 1) := by decide +kernel
theorem dX8_goOn_2 : decode cX8_goOn 2 = .ok (.iload_n 2, 1) := by decide +kernel
theorem dX8_goOn_3 : decode cX8_goOn 3 = .ok (.bipush 30, 2) := by decide +kernel
theorem dX8_goOn_5 : decode cX8_goOn 5 = .ok (.if_icmp .ge 98, 3) := by decide +kernel
theorem dX8_goOn_8 : decode cX8_goOn 8 = .ok (.iload_n 2, 1) := by decide +kernel
theorem dX8_goOn_9 : decode cX8_goOn 9 = .ok (.aload_n 0, 1) := by decide +kernel
theorem dX8_goOn_10 : decode cX8_goOn 10 = .ok (.getfield 50, 3) := by decide +kernel
theorem dX8_goOn_13 : decode cX8_goOn 13 = .ok (.if_icmp .ge 90, 3) := by decide +kernel
theorem dX8_goOn_16 : decode cX8_goOn 16 = .ok (.aload_n 0, 1) := by decide +kernel
theorem dX8_goOn_17 : decode cX8_goOn 17 = .ok (.getfield 15, 3) := by decide +kernel
theorem dX8_goOn_20 : decode cX8_goOn 20 = .ok (.iload_n 2, 1) := by decide +kernel
theorem dX8_goOn_21 : decode cX8_goOn 21 = .ok (.iaload, 1) := by decide +kernel
theorem dX8_goOn_22 : decode cX8_goOn 22 = .ok (.istore_n 3, 1) := by decide +kernel
theorem dX8_goOn_23 : decode cX8_goOn 23 = .ok (.aload_n 1, 1) := by decide +kernel
theorem dX8_goOn_24 : decode cX8_goOn 24 = .ok (.getfield 21, 3) := by decide +kernel
theorem dX8_goOn_27 : decode cX8_goOn 27 = .ok (.getfield 54, 3) := by decide +kernel
theorem dX8_goOn_30 : decode cX8_goOn 30 = .ok (.iload_n 3, 1) := by decide +kernel
theorem dX8_goOn_31 : decode cX8_goOn 31 = .ok (.iaload, 1) := by decide +kernel
theorem dX8_goOn_32 : decode cX8_goOn 32 = .ok (.istore 4, 2) := by decide +kernel
theorem dX8_goOn_34 : decode cX8_goOn 34 = .ok (.iload 4, 2) := by decide +kernel
theorem dX8_goOn_36 : decode cX8_goOn 36 = .ok (.istore 5, 2) := by decide +kernel
theorem dX8_goOn_38 : decode cX8_goOn 38 = .ok (.iload 5, 2) := by decide +kernel
theorem dX8_goOn_40 : decode cX8_goOn 40 = .ok (.iload 4, 2) := by decide +kernel
theorem dX8_goOn_42 : decode cX8_goOn 42 = .ok (.aload_n 1, 1) := by decide +kernel
theorem dX8_goOn_43 : decode cX8_goOn 43 = .ok (.getfield 21, 3) := by decide +kernel
theorem dX8_goOn_46 : decode cX8_goOn 46 = .ok (.getfield 57, 3) := by decide +kernel
theorem dX8_goOn_49 : decode cX8_goOn 49 = .ok (.iload_n 3, 1) := by decide +kernel
theorem dX8_goOn_50 : decode cX8_goOn 50 = .ok (.iaload, 1) := by decide +kernel
theorem dX8_goOn_51 : decode cX8_goOn 51 = .ok (.iadd, 1) := by decide +kernel
theorem dX8_goOn_52 : decode cX8_goOn 52 = .ok (.if_icmp .ge 45, 3) := by decide +kernel
theorem dX8_goOn_55 : decode cX8_goOn 55 = .ok (.aload_n 1, 1) := by decide +kernel
theorem dX8_goOn_56 : decode cX8_goOn 56 = .ok (.getfield 21, 3) := by decide +kernel
theorem dX8_goOn_59 : decode cX8_goOn 59 = .ok (.aload_n 1, 1) := by decide +kernel
theorem dX8_goOn_60 : decode cX8_goOn 60 = .ok (.getfield 60, 3) := by decide +kernel
theorem dX8_goOn_63 : decode cX8_goOn 63 = .ok (.iload 5, 2) := by decide +kernel
theorem dX8_goOn_65 : decode cX8_goOn 65 = .ok (.iaload, 1) := by decide +kernel
theorem dX8_goOn_66 : decode cX8_goOn 66 = .ok (.invokevirtual 63, 3) := by decide +kernel
theorem dX8_goOn_69 : decode cX8_goOn 69 = .ok (.istore 6, 2) := by decide +kernel
theorem dX8_goOn_71 : decode cX8_goOn 71 = .ok (.iload 6, 2) := by decide +kernel
theorem dX8_goOn_73 : decode cX8_goOn 73 = .ok (.iconst (-1), 1) := by decide +kernel
theorem dX8_goOn_74 : decode cX8_goOn 74 = .ok (.if_icmp .eq 17, 3) := by decide +kernel
theorem dX8_goOn_77 : decode cX8_goOn 77 = .ok (.aload_n 0, 1) := by decide +kernel
theorem dX8_goOn_78 : decode cX8_goOn 78 = .ok (.iload 6, 2) := by decide +kernel
theorem dX8_goOn_80 : decode cX8_goOn 80 = .ok (.aload_n 0, 1) := by decide +kernel
theorem dX8_goOn_81 : decode cX8_goOn 81 = .ok (.getfield 9, 3) := by decide +kernel
theorem dX8_goOn_84 : decode cX8_goOn 84 = .ok (.iload_n 3, 1) := by decide +kernel
theorem dX8_goOn_85 : decode cX8_goOn 85 = .ok (.iaload, 1) := by decide +kernel
theorem dX8_goOn_86 : decode cX8_goOn 86 = .ok (.iconst 1, 1) := by decide +kernel
theorem dX8_goOn_87 : decode cX8_goOn 87 = .ok (.iadd, 1) := by decide +kernel
theorem dX8_goOn_88 : decode cX8_goOn 88 = .ok (.invokevirtual 38, 3) := by decide +kernel
theorem dX8_goOn_91 : decode cX8_goOn 91 = .ok (.iinc 5 1, 3) := by decide +kernel
theorem dX8_goOn_94 : decode cX8_goOn 94 = .ok (.goto (-56), 3) := by decide +kernel
theorem dX8_goOn_97 : decode cX8_goOn 97 = .ok (.iinc 2 1, 3) := by decide +kernel
theorem dX8_goOn_100 : decode cX8_goOn 100 = .ok (.goto (-98), 3) := by decide +kernel
theorem dX8_goOn_103 : decode cX8_goOn 103 = .ok (.return_, 1) := by decide +kernel
theorem dX9_init_0 : decode cX9_init 0 = .ok (.aload_n 0, 1) := by decide +kernel
theorem dX9_init_1 : decode cX9_init 1 = .ok (.invokespecial 1, 3) := by decide +kernel
theorem dX9_init_4 : decode cX9_init 4 = .ok (.aload_n 0, 1) := by decide +kernel
theorem dX9_init_5 : decode cX9_init 5 = .ok (.new 7, 3) := by decide +kernel
theorem dX9_init_8 : decode cX9_init 8 = .ok (.dup, 1) := by decide +kernel
theorem dX9_init_9 : decode cX9_init 9 = .ok (.invokespecial 9, 3) := by decide +kernel
theorem dX9_init_12 : decode cX9_init 12 = .ok (.putfield 10, 3) := by decide +kernel
theorem dX9_init_15 : decode cX9_init 15 = .ok (.aload_n 0, 1) := by decide +kernel
theorem dX9_init_16 : decode cX9_init 16 = .ok (.new 7, 3) := by decide +kernel
theorem dX9_init_19 : decode cX9_init 19 = .ok (.dup, 1) := by decide +kernel
theorem dX9_init_20 : decode cX9_init 20 = .ok (.invokespecial 9, 3) := by decide +kernel
theorem dX9_init_23 : decode cX9_init 23 = .ok (.putfield 16, 3) := by decide +kernel
theorem dX9_init_26 : decode cX9_init 26 = .ok (.aload_n 0, 1) := by decide +kernel
theorem dX9_init_27 : decode cX9_init 27 = .ok (.new 7, 3) := by decide +kernel
theorem dX9_init_30 : decode cX9_init 30 = .ok (.dup, 1) := by decide +kernel
theorem dX9_init_31 : decode cX9_init 31 = .ok (.invokespecial 9, 3) := by decide +kernel
theorem dX9_init_34 : decode cX9_init 34 = .ok (.putfield 19, 3) := by decide +kernel
theorem dX9_init_37 : decode cX9_init 37 = .ok (.aload_n 0, 1) := by decide +kernel
theorem dX9_init_38 : decode cX9_init 38 = .ok (.new 7, 3) := by decide +kernel
theorem dX9_init_41 : decode cX9_init 41 = .ok (.dup, 1) := by decide +kernel
theorem dX9_init_42 : decode cX9_init 42 = .ok (.invokespecial 9, 3) := by decide +kernel
theorem dX9_init_45 : decode cX9_init 45 = .ok (.putfield 22, 3) := by decide +kernel
theorem dX9_init_48 : decode cX9_init 48 = .ok (.aload_n 0, 1) := by decide +kernel
theorem dX9_init_49 : decode cX9_init 49 = .ok (.new 25, 3) := by decide +kernel
theorem dX9_init_52 : decode cX9_init 52 = .ok (.dup, 1) := by decide +kernel
theorem dX9_init_53 : decode cX9_init 53 = .ok (.invokespecial 27, 3) := by decide +kernel
theorem dX9_init_56 : decode cX9_init 56 = .ok (.putfield 28, 3) := by decide +kernel
theorem dX9_init_59 : decode cX9_init 59 = .ok (.aload_n 0, 1) := by decide +kernel
theorem dX9_init_60 : decode cX9_init 60 = .ok (.new 32, 3) := by decide +kernel
theorem dX9_init_63 : decode cX9_init 63 = .ok (.dup, 1) := by decide +kernel
theorem dX9_init_64 : decode cX9_init 64 = .ok (.invokespecial 34, 3) := by decide +kernel
theorem dX9_init_67 : decode cX9_init 67 = .ok (.putfield 35, 3) := by decide +kernel
theorem dX9_init_70 : decode cX9_init 70 = .ok (.aload_n 0, 1) := by decide +kernel
theorem dX9_init_71 : decode cX9_init 71 = .ok (.new 39, 3) := by decide +kernel
theorem dX9_init_74 : decode cX9_init 74 = .ok (.dup, 1) := by decide +kernel
theorem dX9_init_75 : decode cX9_init 75 = .ok (.invokespecial 41, 3) := by decide +kernel
theorem dX9_init_78 : decode cX9_init 78 = .ok (.putfield 42, 3) := by decide +kernel
theorem dX9_init_81 : decode cX9_init 81 = .ok (.aload_n 0, 1) := by decide +kernel
theorem dX9_init_82 : decode cX9_init 82 = .ok (.new 46, 3) := by decide +kernel
theorem dX9_init_85 : decode cX9_init 85 = .ok (.dup, 1) := by decide +kernel
theorem dX9_init_86 : decode cX9_init 86 = .ok (.invokespecial 48, 3) := by decide +kernel
theorem dX9_init_89 : decode cX9_init 89 = .ok (.putfield 49, 3) := by decide +kernel
theorem dX9_init_92 : decode cX9_init 92 = .ok (.aload_n 0, 1) := by decide +kernel
theorem dX9_init_93 : decode cX9_init 93 = .ok (.iconst 0, 1) := by decide +kernel
theorem dX9_init_94 : decode cX9_init 94 = .ok (.putfield 53, 3) := by decide +kernel
theorem dX9_init_97 : decode cX9_init 97 = .ok (.return_, 1) := by decide +kernel
theorem dX9_region_0 : decode cX9_region 0 = .ok (.iload_n 1, 1) := by decide +kernel
theorem dX9_region_1 : decode cX9_region 1 = .ok (.bipush 8, 2) := by decide +kernel
theorem dX9_region_3 : decode cX9_region 3 = .ok (.if_icmp .lt 9, 3) := by decide +kernel
theorem dX9_region_6 : decode cX9_region 6 = .ok (.iload_n 1, 1) := by decide +kernel
theorem dX9_region_7 : decode cX9_region 7 = .ok (.bipush 120, 2) := by decide +kernel
theorem dX9_region_9 : decode cX9_region 9 = .ok (.if_icmp .le 5, 3) := by decide +kernel
theorem dX9_region_12 : decode cX9_region 12 = .ok (.iconst (-1), 1) := by decide +kernel
theorem dX9_region_13 : decode cX9_region 13 = .ok (.ireturn, 1) := by decide +kernel
theorem dX9_region_14 : decode cX9_region 14 = .ok (.iload_n 2, 1) := by decide +kernel
theorem dX9_region_15 : decode cX9_region 15 = .ok (.ifCond .eq 10, 3) := by decide +kernel
theorem dX9_region_18 : decode cX9_region 18 = .ok (.iload_n 2, 1) := by decide +kernel
theorem dX9_region_19 : decode cX9_region 19 = .ok (.iconst 1, 1) := by decide +kernel
theorem dX9_region_20 : decode cX9_region 20 = .ok (.if_icmp .eq 5, 3) := by decide +kernel
theorem dX9_region_23 : decode cX9_region 23 = .ok (.iconst (-1), 1) := by decide +kernel
theorem dX9_region_24 : decode cX9_region 24 = .ok (.ireturn, 1) := by decide +kernel
theorem dX9_region_25 : decode cX9_region 25 = .ok (.aload_n 0, 1) := by decide +kernel
theorem dX9_region_26 : decode cX9_region 26 = .ok (.getfield 10, 3) := by decide +kernel
theorem dX9_region_29 : decode cX9_region 29 = .ok (.getfield 57, 3) := by decide +kernel
theorem dX9_region_32 : decode cX9_region 32 = .ok (.iload_n 1, 1) := by decide +kernel
theorem dX9_region_33 : decode cX9_region 33 = .ok (.iload_n 2, 1) := by decide +kernel
theorem dX9_region_34 : decode cX9_region 34 = .ok (.invokevirtual 61, 3) := by decide +kernel
theorem dX9_region_37 : decode cX9_region 37 = .ok (.istore_n 3, 1) := by decide +kernel
theorem dX9_region_38 : decode cX9_region 38 = .ok (.iload_n 3, 1) := by decide +kernel
theorem dX9_region_39 : decode cX9_region 39 = .ok (.iconst (-1), 1) := by decide +kernel
theorem dX9_region_40 : decode cX9_region 40 = .ok (.if_icmp .ne 8, 3) := by decide +kernel
theorem dX9_region_43 : decode cX9_region 43 = .ok (.bipush (-3), 2) := by decide +kernel
theorem dX9_region_45 : decode cX9_region 45 = .ok (.goto 4, 3) := by decide +kernel
theorem dX9_region_48 : decode cX9_region 48 = .ok (.iload_n 3, 1) := by decide +kernel
theorem dX9_region_49 : decode cX9_region 49 = .ok (.ireturn, 1) := by decide +kernel
theorem dX9_block_0 : decode cX9_block 0 = .ok (.aload_n 0, 1) := by decide +kernel
theorem dX9_block_1 : decode cX9_block 1 = .ok (.getfield 10, 3) := by decide +kernel
theorem dX9_block_4 : decode cX9_block 4 = .ok (.getfield 57, 3) := by decide +kernel
theorem dX9_block_7 : decode cX9_block 7 = .ok (.iload_n 1, 1) := by decide +kernel
theorem dX9_block_8 : decode cX9_block 8 = .ok (.invokevirtual 67, 3) := by decide +kernel
theorem dX9_block_11 : decode cX9_block 11 = .ok (.ifCond .eq 17, 3) := by decide +kernel
theorem dX9_block_14 : decode cX9_block 14 = .ok (.iload_n 2, 1) := by decide +kernel
theorem dX9_block_15 : decode cX9_block 15 = .ok (.invokestatic 71, 3) := by decide +kernel
theorem dX9_block_18 : decode cX9_block 18 = .ok (.ifCond .eq 10, 3) := by decide +kernel
theorem dX9_block_21 : decode cX9_block 21 = .ok (.iload_n 3, 1) := by decide +kernel
theorem dX9_block_22 : decode cX9_block 22 = .ok (.invokestatic 74, 3) := by decide +kernel
theorem dX9_block_25 : decode cX9_block 25 = .ok (.ifCond .ne 5, 3) := by decide +kernel
theorem dX9_block_28 : decode cX9_block 28 = .ok (.iconst (-1), 1) := by decide +kernel
theorem dX9_block_29 : decode cX9_block 29 = .ok (.ireturn, 1) := by decide +kernel
theorem dX9_block_30 : decode cX9_block 30 = .ok (.aload_n 0, 1) := by decide +kernel
theorem dX9_block_31 : decode cX9_block 31 = .ok (.getfield 10, 3) := by decide +kernel
theorem dX9_block_34 : decode cX9_block 34 = .ok (.iload_n 3, 1) := by decide +kernel
theorem dX9_block_35 : decode cX9_block 35 = .ok (.iload_n 2, 1) := by decide +kernel
theorem dX9_block_36 : decode cX9_block 36 = .ok (.invokevirtual 77, 3) := by decide +kernel
theorem dX9_block_39 : decode cX9_block 39 = .ok (.ifCond .ne 6, 3) := by decide +kernel
theorem dX9_block_42 : decode cX9_block 42 = .ok (.bipush (-6), 2) := by decide +kernel
theorem dX9_block_44 : decode cX9_block 44 = .ok (.ireturn, 1) := by decide +kernel
theorem dX9_block_45 : decode cX9_block 45 = .ok (.aload_n 0, 1) := by decide +kernel
theorem dX9_block_46 : decode cX9_block 46 = .ok (.getfield 10, 3) := by decide +kernel
theorem dX9_block_49 : decode cX9_block 49 = .ok (.getfield 81, 3) := by decide +kernel
theorem dX9_block_52 : decode cX9_block 52 = .ok (.invokevirtual 85, 3) := by decide +kernel
theorem dX9_block_55 : decode cX9_block 55 = .ok (.istore 4, 2) := by decide +kernel
theorem dX9_block_57 : decode cX9_block 57 = .ok (.aload_n 0, 1) := by decide +kernel
theorem dX9_block_58 : decode cX9_block 58 = .ok (.getfield 10, 3) := by decide +kernel
theorem dX9_block_61 : decode cX9_block 61 = .ok (.iload_n 1, 1) := by decide +kernel
theorem dX9_block_62 : decode cX9_block 62 = .ok (.iload_n 2, 1) := by decide +kernel
theorem dX9_block_63 : decode cX9_block 63 = .ok (.invokevirtual 91, 3) := by decide +kernel
theorem dX9_block_66 : decode cX9_block 66 = .ok (.istore 5, 2) := by decide +kernel
theorem dX9_block_68 : decode cX9_block 68 = .ok (.iload 4, 2) := by decide +kernel
theorem dX9_block_70 : decode cX9_block 70 = .ok (.iconst (-1), 1) := by decide +kernel
theorem dX9_block_71 : decode cX9_block 71 = .ok (.if_icmp .eq 9, 3) := by decide +kernel
theorem dX9_block_74 : decode cX9_block 74 = .ok (.iload 5, 2) := by decide +kernel
theorem dX9_block_76 : decode cX9_block 76 = .ok (.iconst (-1), 1) := by decide +kernel
theorem dX9_block_77 : decode cX9_block 77 = .ok (.if_icmp .ne 6, 3) := by decide +kernel
theorem dX9_block_80 : decode cX9_block 80 = .ok (.bipush (-3), 2) := by decide +kernel
theorem dX9_block_82 : decode cX9_block 82 = .ok (.ireturn, 1) := by decide +kernel
theorem dX9_block_83 : decode cX9_block 83 = .ok (.aload_n 0, 1) := by decide +kernel
theorem dX9_block_84 : decode cX9_block 84 = .ok (.getfield 10, 3) := by decide +kernel
theorem dX9_block_87 : decode cX9_block 87 = .ok (.iload 4, 2) := by decide +kernel
theorem dX9_block_89 : decode cX9_block 89 = .ok (.iload_n 1, 1) := by decide +kernel
theorem dX9_block_90 : decode cX9_block 90 = .ok (.iload 5, 2) := by decide +kernel
theorem dX9_block_92 : decode cX9_block 92 = .ok (.iload_n 2, 1) := by decide +kernel
theorem dX9_block_93 : decode cX9_block 93 = .ok (.iload_n 3, 1) := by decide +kernel
theorem dX9_block_94 : decode cX9_block 94 = .ok (.invokevirtual 94, 3) := by decide +kernel
theorem dX9_block_97 : decode cX9_block 97 = .ok (.aload_n 0, 1) := by decide +kernel
theorem dX9_block_98 : decode cX9_block 98 = .ok (.getfield 10, 3) := by decide +kernel
theorem dX9_block_101 : decode cX9_block 101 = .ok (.getfield 81, 3) := by decide +kernel
theorem dX9_block_104 : decode cX9_block 104 = .ok (.iload 4, 2) := by decide +kernel
theorem dX9_block_106 : decode cX9_block 106 = .ok (.invokevirtual 98, 3) := by decide +kernel
theorem dX9_block_109 : decode cX9_block 109 = .ok (.ireturn, 1) := by decide +kernel
theorem dX9_free_0 : decode cX9_free 0 = .ok (.aload_n 0, 1) := by decide +kernel
theorem dX9_free_1 : decode cX9_free 1 = .ok (.getfield 10, 3) := by decide +kernel
theorem dX9_free_4 : decode cX9_free 4 = .ok (.getfield 81, 3) := by decide +kernel
theorem dX9_free_7 : decode cX9_free 7 = .ok (.iload_n 1, 1) := by decide +kernel
theorem dX9_free_8 : decode cX9_free 8 = .ok (.invokevirtual 102, 3) := by decide +kernel
theorem dX9_free_11 : decode cX9_free 11 = .ok (.istore_n 2, 1) := by decide +kernel
theorem dX9_free_12 : decode cX9_free 12 = .ok (.iload_n 2, 1) := by decide +kernel
theorem dX9_free_13 : decode cX9_free 13 = .ok (.iconst (-1), 1) := by decide +kernel
theorem dX9_free_14 : decode cX9_free 14 = .ok (.if_icmp .ne 6, 3) := by decide +kernel
theorem dX9_free_17 : decode cX9_free 17 = .ok (.bipush (-4), 2) := by decide +kernel
theorem dX9_free_19 : decode cX9_free 19 = .ok (.ireturn, 1) := by decide +kernel
theorem dX9_free_20 : decode cX9_free 20 = .ok (.aload_n 0, 1) := by decide +kernel
theorem dX9_free_21 : decode cX9_free 21 = .ok (.getfield 10, 3) := by decide +kernel
theorem dX9_free_24 : decode cX9_free 24 = .ok (.getfield 81, 3) := by decide +kernel
theorem dX9_free_27 : decode cX9_free 27 = .ok (.getfield 105, 3) := by decide +kernel
theorem dX9_free_30 : decode cX9_free 30 = .ok (.iload_n 2, 1) := by decide +kernel
theorem dX9_free_31 : decode cX9_free 31 = .ok (.iaload, 1) := by decide +kernel
theorem dX9_free_32 : decode cX9_free 32 = .ok (.ifCond .le 6, 3) := by decide +kernel
theorem dX9_free_35 : decode cX9_free 35 = .ok (.bipush (-5), 2) := by decide +kernel
theorem dX9_free_37 : decode cX9_free 37 = .ok (.ireturn, 1) := by decide +kernel
theorem dX9_free_38 : decode cX9_free 38 = .ok (.aload_n 0, 1) := by decide +kernel
theorem dX9_free_39 : decode cX9_free 39 = .ok (.getfield 10, 3) := by decide +kernel
theorem dX9_free_42 : decode cX9_free 42 = .ok (.iload_n 2, 1) := by decide +kernel
theorem dX9_free_43 : decode cX9_free 43 = .ok (.invokevirtual 109, 3) := by decide +kernel
theorem dX9_free_46 : decode cX9_free 46 = .ok (.aload_n 0, 1) := by decide +kernel
theorem dX9_free_47 : decode cX9_free 47 = .ok (.getfield 10, 3) := by decide +kernel
theorem dX9_free_50 : decode cX9_free 50 = .ok (.getfield 113, 3) := by decide +kernel
theorem dX9_free_53 : decode cX9_free 53 = .ok (.ireturn, 1) := by decide +kernel
theorem dX9_pin_0 : decode cX9_pin 0 = .ok (.iload_n 2, 1) := by decide +kernel
theorem dX9_pin_1 : decode cX9_pin 1 = .ok (.iconst 1, 1) := by decide +kernel
theorem dX9_pin_2 : decode cX9_pin 2 = .ok (.if_icmp .eq 10, 3) := by decide +kernel
theorem dX9_pin_5 : decode cX9_pin 5 = .ok (.iload_n 2, 1) := by decide +kernel
theorem dX9_pin_6 : decode cX9_pin 6 = .ok (.iconst (-1), 1) := by decide +kernel
theorem dX9_pin_7 : decode cX9_pin 7 = .ok (.if_icmp .eq 5, 3) := by decide +kernel
theorem dX9_pin_10 : decode cX9_pin 10 = .ok (.iconst (-1), 1) := by decide +kernel
theorem dX9_pin_11 : decode cX9_pin 11 = .ok (.ireturn, 1) := by decide +kernel
theorem dX9_pin_12 : decode cX9_pin 12 = .ok (.aload_n 0, 1) := by decide +kernel
theorem dX9_pin_13 : decode cX9_pin 13 = .ok (.getfield 10, 3) := by decide +kernel
theorem dX9_pin_16 : decode cX9_pin 16 = .ok (.getfield 81, 3) := by decide +kernel
theorem dX9_pin_19 : decode cX9_pin 19 = .ok (.iload_n 1, 1) := by decide +kernel
theorem dX9_pin_20 : decode cX9_pin 20 = .ok (.invokevirtual 102, 3) := by decide +kernel
theorem dX9_pin_23 : decode cX9_pin 23 = .ok (.istore_n 3, 1) := by decide +kernel
theorem dX9_pin_24 : decode cX9_pin 24 = .ok (.iload_n 3, 1) := by decide +kernel
theorem dX9_pin_25 : decode cX9_pin 25 = .ok (.iconst (-1), 1) := by decide +kernel
theorem dX9_pin_26 : decode cX9_pin 26 = .ok (.if_icmp .ne 6, 3) := by decide +kernel
theorem dX9_pin_29 : decode cX9_pin 29 = .ok (.bipush (-4), 2) := by decide +kernel
theorem dX9_pin_31 : decode cX9_pin 31 = .ok (.ireturn, 1) := by decide +kernel
theorem dX9_pin_32 : decode cX9_pin 32 = .ok (.aload_n 0, 1) := by decide +kernel
theorem dX9_pin_33 : decode cX9_pin 33 = .ok (.getfield 10, 3) := by decide +kernel
theorem dX9_pin_36 : decode cX9_pin 36 = .ok (.getfield 81, 3) := by decide +kernel
theorem dX9_pin_39 : decode cX9_pin 39 = .ok (.getfield 105, 3) := by decide +kernel
theorem dX9_pin_42 : decode cX9_pin 42 = .ok (.iload_n 3, 1) := by decide +kernel
theorem dX9_pin_43 : decode cX9_pin 43 = .ok (.iaload, 1) := by decide +kernel
theorem dX9_pin_44 : decode cX9_pin 44 = .ok (.iload_n 2, 1) := by decide +kernel
theorem dX9_pin_45 : decode cX9_pin 45 = .ok (.iadd, 1) := by decide +kernel
theorem dX9_pin_46 : decode cX9_pin 46 = .ok (.istore 4, 2) := by decide +kernel
theorem dX9_pin_48 : decode cX9_pin 48 = .ok (.iload 4, 2) := by decide +kernel
theorem dX9_pin_50 : decode cX9_pin 50 = .ok (.ifCond .lt 10, 3) := by decide +kernel
theorem dX9_pin_53 : decode cX9_pin 53 = .ok (.iload 4, 2) := by decide +kernel
theorem dX9_pin_55 : decode cX9_pin 55 = .ok (.bipush 9, 2) := by decide +kernel
theorem dX9_pin_57 : decode cX9_pin 57 = .ok (.if_icmp .le 6, 3) := by decide +kernel
theorem dX9_pin_60 : decode cX9_pin 60 = .ok (.bipush (-5), 2) := by decide +kernel
theorem dX9_pin_62 : decode cX9_pin 62 = .ok (.ireturn, 1) := by decide +kernel
theorem dX9_pin_63 : decode cX9_pin 63 = .ok (.aload_n 0, 1) := by decide +kernel
theorem dX9_pin_64 : decode cX9_pin 64 = .ok (.getfield 10, 3) := by decide +kernel
theorem dX9_pin_67 : decode cX9_pin 67 = .ok (.getfield 81, 3) := by decide +kernel
theorem dX9_pin_70 : decode cX9_pin 70 = .ok (.getfield 105, 3) := by decide +kernel
theorem dX9_pin_73 : decode cX9_pin 73 = .ok (.iload_n 3, 1) := by decide +kernel
theorem dX9_pin_74 : decode cX9_pin 74 = .ok (.iload 4, 2) := by decide +kernel
theorem dX9_pin_76 : decode cX9_pin 76 = .ok (.iastore, 1) := by decide +kernel
theorem dX9_pin_77 : decode cX9_pin 77 = .ok (.iload 4, 2) := by decide +kernel
theorem dX9_pin_79 : decode cX9_pin 79 = .ok (.ireturn, 1) := by decide +kernel
theorem dX9_grow_0 : decode cX9_grow 0 = .ok (.iload_n 2, 1) := by decide +kernel
theorem dX9_grow_1 : decode cX9_grow 1 = .ok (.iconst 1, 1) := by decide +kernel
theorem dX9_grow_2 : decode cX9_grow 2 = .ok (.if_icmp .lt 9, 3) := by decide +kernel
theorem dX9_grow_5 : decode cX9_grow 5 = .ok (.iload_n 2, 1) := by decide +kernel
theorem dX9_grow_6 : decode cX9_grow 6 = .ok (.bipush 40, 2) := by decide +kernel
theorem dX9_grow_8 : decode cX9_grow 8 = .ok (.if_icmp .lt 5, 3) := by decide +kernel
theorem dX9_grow_11 : decode cX9_grow 11 = .ok (.iconst (-1), 1) := by decide +kernel
theorem dX9_grow_12 : decode cX9_grow 12 = .ok (.ireturn, 1) := by decide +kernel
theorem dX9_grow_13 : decode cX9_grow 13 = .ok (.aload_n 0, 1) := by decide +kernel
theorem dX9_grow_14 : decode cX9_grow 14 = .ok (.getfield 10, 3) := by decide +kernel
theorem dX9_grow_17 : decode cX9_grow 17 = .ok (.getfield 81, 3) := by decide +kernel
theorem dX9_grow_20 : decode cX9_grow 20 = .ok (.iload_n 1, 1) := by decide +kernel
theorem dX9_grow_21 : decode cX9_grow 21 = .ok (.invokevirtual 102, 3) := by decide +kernel
theorem dX9_grow_24 : decode cX9_grow 24 = .ok (.istore_n 3, 1) := by decide +kernel
theorem dX9_grow_25 : decode cX9_grow 25 = .ok (.iload_n 3, 1) := by decide +kernel
theorem dX9_grow_26 : decode cX9_grow 26 = .ok (.iconst (-1), 1) := by decide +kernel
theorem dX9_grow_27 : decode cX9_grow 27 = .ok (.if_icmp .ne 6, 3) := by decide +kernel
theorem dX9_grow_30 : decode cX9_grow 30 = .ok (.bipush (-4), 2) := by decide +kernel
theorem dX9_grow_32 : decode cX9_grow 32 = .ok (.ireturn, 1) := by decide +kernel
theorem dX9_grow_33 : decode cX9_grow 33 = .ok (.aload_n 0, 1) := by decide +kernel
theorem dX9_grow_34 : decode cX9_grow 34 = .ok (.getfield 10, 3) := by decide +kernel
theorem dX9_grow_37 : decode cX9_grow 37 = .ok (.getfield 81, 3) := by decide +kernel
theorem dX9_grow_40 : decode cX9_grow 40 = .ok (.getfield 105, 3) := by decide +kernel
theorem dX9_grow_43 : decode cX9_grow 43 = .ok (.iload_n 3, 1) := by decide +kernel
theorem dX9_grow_44 : decode cX9_grow 44 = .ok (.iaload, 1) := by decide +kernel
theorem dX9_grow_45 : decode cX9_grow 45 = .ok (.ifCond .le 6, 3) := by decide +kernel
theorem dX9_grow_48 : decode cX9_grow 48 = .ok (.bipush (-5), 2) := by decide +kernel
theorem dX9_grow_50 : decode cX9_grow 50 = .ok (.ireturn, 1) := by decide +kernel
theorem dX9_grow_51 : decode cX9_grow 51 = .ok (.aload_n 0, 1) := by decide +kernel
theorem dX9_grow_52 : decode cX9_grow 52 = .ok (.getfield 10, 3) := by decide +kernel
theorem dX9_grow_55 : decode cX9_grow 55 = .ok (.aload_n 0, 1) := by decide +kernel
theorem dX9_grow_56 : decode cX9_grow 56 = .ok (.getfield 10, 3) := by decide +kernel
theorem dX9_grow_59 : decode cX9_grow 59 = .ok (.getfield 81, 3) := by decide +kernel
theorem dX9_grow_62 : decode cX9_grow 62 = .ok (.getfield 117, 3) := by decide +kernel
theorem dX9_grow_65 : decode cX9_grow 65 = .ok (.iload_n 3, 1) := by decide +kernel
theorem dX9_grow_66 : decode cX9_grow 66 = .ok (.iaload, 1) := by decide +kernel
theorem dX9_grow_67 : decode cX9_grow 67 = .ok (.iload_n 2, 1) := by decide +kernel
theorem dX9_grow_68 : decode cX9_grow 68 = .ok (.invokevirtual 77, 3) := by decide +kernel
theorem dX9_grow_71 : decode cX9_grow 71 = .ok (.ifCond .ne 6, 3) := by decide +kernel
theorem dX9_grow_74 : decode cX9_grow 74 = .ok (.bipush (-6), 2) := by decide +kernel
theorem dX9_grow_76 : decode cX9_grow 76 = .ok (.ireturn, 1) := by decide +kernel
theorem dX9_grow_77 : decode cX9_grow 77 = .ok (.aload_n 0, 1) := by decide +kernel
theorem dX9_grow_78 : decode cX9_grow 78 = .ok (.getfield 10, 3) := by decide +kernel
theorem dX9_grow_81 : decode cX9_grow 81 = .ok (.getfield 81, 3) := by decide +kernel
theorem dX9_grow_84 : decode cX9_grow 84 = .ok (.getfield 120, 3) := by decide +kernel
theorem dX9_grow_87 : decode cX9_grow 87 = .ok (.iload_n 3, 1) := by decide +kernel
theorem dX9_grow_88 : decode cX9_grow 88 = .ok (.iaload, 1) := by decide +kernel
theorem dX9_grow_89 : decode cX9_grow 89 = .ok (.iload_n 2, 1) := by decide +kernel
theorem dX9_grow_90 : decode cX9_grow 90 = .ok (.iadd, 1) := by decide +kernel
theorem dX9_grow_91 : decode cX9_grow 91 = .ok (.invokestatic 71, 3) := by decide +kernel
theorem dX9_grow_94 : decode cX9_grow 94 = .ok (.ifCond .ne 6, 3) := by decide +kernel
theorem dX9_grow_97 : decode cX9_grow 97 = .ok (.bipush (-3), 2) := by decide +kernel
theorem dX9_grow_99 : decode cX9_grow 99 = .ok (.ireturn, 1) := by decide +kernel
theorem dX9_grow_100 : decode cX9_grow 100 = .ok (.aload_n 0, 1) := by decide +kernel
theorem dX9_grow_101 : decode cX9_grow 101 = .ok (.getfield 10, 3) := by decide +kernel
theorem dX9_grow_104 : decode cX9_grow 104 = .ok (.iload_n 3, 1) := by decide +kernel
theorem dX9_grow_105 : decode cX9_grow 105 = .ok (.iload_n 2, 1) := by decide +kernel
theorem dX9_grow_106 : decode cX9_grow 106 = .ok (.invokevirtual 123, 3) := by decide +kernel
theorem dX9_grow_109 : decode cX9_grow 109 = .ok (.ifCond .ne 18, 3) := by decide +kernel
theorem dX9_grow_112 : decode cX9_grow 112 = .ok (.aload_n 0, 1) := by decide +kernel
theorem dX9_grow_113 : decode cX9_grow 113 = .ok (.getfield 10, 3) := by decide +kernel
theorem dX9_grow_116 : decode cX9_grow 116 = .ok (.iload_n 3, 1) := by decide +kernel
theorem dX9_grow_117 : decode cX9_grow 117 = .ok (.iload_n 2, 1) := by decide +kernel
theorem dX9_grow_118 : decode cX9_grow 118 = .ok (.invokevirtual 126, 3) := by decide +kernel
theorem dX9_grow_121 : decode cX9_grow 121 = .ok (.ifCond .ne 6, 3) := by decide +kernel
theorem dX9_grow_124 : decode cX9_grow 124 = .ok (.bipush (-3), 2) := by decide +kernel
theorem dX9_grow_126 : decode cX9_grow 126 = .ok (.ireturn, 1) := by decide +kernel
theorem dX9_grow_127 : decode cX9_grow 127 = .ok (.aload_n 0, 1) := by decide +kernel
theorem dX9_grow_128 : decode cX9_grow 128 = .ok (.getfield 10, 3) := by decide +kernel
theorem dX9_grow_131 : decode cX9_grow 131 = .ok (.getfield 81, 3) := by decide +kernel
theorem dX9_grow_134 : decode cX9_grow 134 = .ok (.getfield 120, 3) := by decide +kernel
theorem dX9_grow_137 : decode cX9_grow 137 = .ok (.iload_n 3, 1) := by decide +kernel
theorem dX9_grow_138 : decode cX9_grow 138 = .ok (.iaload, 1) := by decide +kernel
theorem dX9_grow_139 : decode cX9_grow 139 = .ok (.ireturn, 1) := by decide +kernel
theorem dX9_moves_0 : decode cX9_moves 0 = .ok (.aload_n 0, 1) := by decide +kernel
theorem dX9_moves_1 : decode cX9_moves 1 = .ok (.getfield 10, 3) := by decide +kernel
theorem dX9_moves_4 : decode cX9_moves 4 = .ok (.getfield 57, 3) := by decide +kernel
theorem dX9_moves_7 : decode cX9_moves 7 = .ok (.iload_n 1, 1) := by decide +kernel
theorem dX9_moves_8 : decode cX9_moves 8 = .ok (.invokevirtual 67, 3) := by decide +kernel
theorem dX9_moves_11 : decode cX9_moves 11 = .ok (.ifCond .eq 14, 3) := by decide +kernel
theorem dX9_moves_14 : decode cX9_moves 14 = .ok (.iload_n 2, 1) := by decide +kernel
theorem dX9_moves_15 : decode cX9_moves 15 = .ok (.ifCond .lt 10, 3) := by decide +kernel
theorem dX9_moves_18 : decode cX9_moves 18 = .ok (.iload_n 2, 1) := by decide +kernel
theorem dX9_moves_19 : decode cX9_moves 19 = .ok (.sipush 240, 3) := by decide +kernel
theorem dX9_moves_22 : decode cX9_moves 22 = .ok (.if_icmp .le 5, 3) := by decide +kernel
theorem dX9_moves_25 : decode cX9_moves 25 = .ok (.iconst (-1), 1) := by decide +kernel
theorem dX9_moves_26 : decode cX9_moves 26 = .ok (.ireturn, 1) := by decide +kernel
theorem dX9_moves_27 : decode cX9_moves 27 = .ok (.aload_n 0, 1) := by decide +kernel
theorem dX9_moves_28 : decode cX9_moves 28 = .ok (.getfield 10, 3) := by decide +kernel
theorem dX9_moves_31 : decode cX9_moves 31 = .ok (.iload_n 1, 1) := by decide +kernel
theorem dX9_moves_32 : decode cX9_moves 32 = .ok (.iload_n 2, 1) := by decide +kernel
theorem dX9_moves_33 : decode cX9_moves 33 = .ok (.invokevirtual 129, 3) := by decide +kernel
theorem dX9_moves_36 : decode cX9_moves 36 = .ok (.ireturn, 1) := by decide +kernel
theorem dX9_write_0 : decode cX9_write 0 = .ok (.aload_n 0, 1) := by decide +kernel
theorem dX9_write_1 : decode cX9_write 1 = .ok (.getfield 10, 3) := by decide +kernel
theorem dX9_write_4 : decode cX9_write 4 = .ok (.aload_n 0, 1) := by decide +kernel
theorem dX9_write_5 : decode cX9_write 5 = .ok (.getfield 10, 3) := by decide +kernel
theorem dX9_write_8 : decode cX9_write 8 = .ok (.getfield 81, 3) := by decide +kernel
theorem dX9_write_11 : decode cX9_write 11 = .ok (.iload_n 1, 1) := by decide +kernel
theorem dX9_write_12 : decode cX9_write 12 = .ok (.invokevirtual 102, 3) := by decide +kernel
theorem dX9_write_15 : decode cX9_write 15 = .ok (.iload_n 2, 1) := by decide +kernel
theorem dX9_write_16 : decode cX9_write 16 = .ok (.invokevirtual 132, 3) := by decide +kernel
theorem dX9_write_19 : decode cX9_write 19 = .ok (.istore 4, 2) := by decide +kernel
theorem dX9_write_21 : decode cX9_write 21 = .ok (.iload 4, 2) := by decide +kernel
theorem dX9_write_23 : decode cX9_write 23 = .ok (.iconst (-1), 1) := by decide +kernel
theorem dX9_write_24 : decode cX9_write 24 = .ok (.if_icmp .ne 6, 3) := by decide +kernel
theorem dX9_write_27 : decode cX9_write 27 = .ok (.ldc 135, 2) := by decide +kernel
theorem dX9_write_29 : decode cX9_write 29 = .ok (.ireturn, 1) := by decide +kernel
theorem dX9_write_30 : decode cX9_write 30 = .ok (.aload_n 0, 1) := by decide +kernel
theorem dX9_write_31 : decode cX9_write 31 = .ok (.getfield 10, 3) := by decide +kernel
theorem dX9_write_34 : decode cX9_write 34 = .ok (.getfield 136, 3) := by decide +kernel
theorem dX9_write_37 : decode cX9_write 37 = .ok (.iload 4, 2) := by decide +kernel
theorem dX9_write_39 : decode cX9_write 39 = .ok (.iaload, 1) := by decide +kernel
theorem dX9_write_40 : decode cX9_write 40 = .ok (.istore 5, 2) := by decide +kernel
theorem dX9_write_42 : decode cX9_write 42 = .ok (.aload_n 0, 1) := by decide +kernel
theorem dX9_write_43 : decode cX9_write 43 = .ok (.getfield 10, 3) := by decide +kernel
theorem dX9_write_46 : decode cX9_write 46 = .ok (.getfield 136, 3) := by decide +kernel
theorem dX9_write_49 : decode cX9_write 49 = .ok (.iload 4, 2) := by decide +kernel
theorem dX9_write_51 : decode cX9_write 51 = .ok (.iload_n 3, 1) := by decide +kernel
theorem dX9_write_52 : decode cX9_write 52 = .ok (.iastore, 1) := by decide +kernel
theorem dX9_write_53 : decode cX9_write 53 = .ok (.iload 5, 2) := by decide +kernel
theorem dX9_write_55 : decode cX9_write 55 = .ok (.ireturn, 1) := by decide +kernel
theorem dX9_read_0 : decode cX9_read 0 = .ok (.aload_n 0, 1) := by decide +kernel
theorem dX9_read_1 : decode cX9_read 1 = .ok (.getfield 10, 3) := by decide +kernel
theorem dX9_read_4 : decode cX9_read 4 = .ok (.aload_n 0, 1) := by decide +kernel
theorem dX9_read_5 : decode cX9_read 5 = .ok (.getfield 10, 3) := by decide +kernel
theorem dX9_read_8 : decode cX9_read 8 = .ok (.getfield 81, 3) := by decide +kernel
theorem dX9_read_11 : decode cX9_read 11 = .ok (.iload_n 1, 1) := by decide +kernel
theorem dX9_read_12 : decode cX9_read 12 = .ok (.invokevirtual 102, 3) := by decide +kernel
theorem dX9_read_15 : decode cX9_read 15 = .ok (.iload_n 2, 1) := by decide +kernel
theorem dX9_read_16 : decode cX9_read 16 = .ok (.invokevirtual 132, 3) := by decide +kernel
theorem dX9_read_19 : decode cX9_read 19 = .ok (.istore_n 3, 1) := by decide +kernel
theorem dX9_read_20 : decode cX9_read 20 = .ok (.iload_n 3, 1) := by decide +kernel
theorem dX9_read_21 : decode cX9_read 21 = .ok (.iconst (-1), 1) := by decide +kernel
theorem dX9_read_22 : decode cX9_read 22 = .ok (.if_icmp .ne 8, 3) := by decide +kernel
theorem dX9_read_25 : decode cX9_read 25 = .ok (.ldc 135, 2) := by decide +kernel
theorem dX9_read_27 : decode cX9_read 27 = .ok (.goto 12, 3) := by decide +kernel
theorem dX9_read_30 : decode cX9_read 30 = .ok (.aload_n 0, 1) := by decide +kernel
theorem dX9_read_31 : decode cX9_read 31 = .ok (.getfield 10, 3) := by decide +kernel
theorem dX9_read_34 : decode cX9_read 34 = .ok (.getfield 136, 3) := by decide +kernel
theorem dX9_read_37 : decode cX9_read 37 = .ok (.iload_n 3, 1) := by decide +kernel
theorem dX9_read_38 : decode cX9_read 38 = .ok (.iaload, 1) := by decide +kernel
theorem dX9_read_39 : decode cX9_read 39 = .ok (.ireturn, 1) := by decide +kernel
theorem dX9_peek_0 : decode cX9_peek 0 = .ok (.iload_n 1, 1) := by decide +kernel
theorem dX9_peek_1 : decode cX9_peek 1 = .ok (.invokestatic 139, 3) := by decide +kernel
theorem dX9_peek_4 : decode cX9_peek 4 = .ok (.ifCond .eq 16, 3) := by decide +kernel
theorem dX9_peek_7 : decode cX9_peek 7 = .ok (.aload_n 0, 1) := by decide +kernel
theorem dX9_peek_8 : decode cX9_peek 8 = .ok (.getfield 10, 3) := by decide +kernel
theorem dX9_peek_11 : decode cX9_peek 11 = .ok (.getfield 142, 3) := by decide +kernel
theorem dX9_peek_14 : decode cX9_peek 14 = .ok (.iload_n 1, 1) := by decide +kernel
theorem dX9_peek_15 : decode cX9_peek 15 = .ok (.iaload, 1) := by decide +kernel
theorem dX9_peek_16 : decode cX9_peek 16 = .ok (.iconst (-1), 1) := by decide +kernel
theorem dX9_peek_17 : decode cX9_peek 17 = .ok (.if_icmp .ne 6, 3) := by decide +kernel
theorem dX9_peek_20 : decode cX9_peek 20 = .ok (.ldc 135, 2) := by decide +kernel
theorem dX9_peek_22 : decode cX9_peek 22 = .ok (.ireturn, 1) := by decide +kernel
theorem dX9_peek_23 : decode cX9_peek 23 = .ok (.aload_n 0, 1) := by decide +kernel
theorem dX9_peek_24 : decode cX9_peek 24 = .ok (.getfield 10, 3) := by decide +kernel
theorem dX9_peek_27 : decode cX9_peek 27 = .ok (.getfield 81, 3) := by decide +kernel
theorem dX9_peek_30 : decode cX9_peek 30 = .ok (.iload_n 2, 1) := by decide +kernel
theorem dX9_peek_31 : decode cX9_peek 31 = .ok (.invokevirtual 145, 3) := by decide +kernel
theorem dX9_peek_34 : decode cX9_peek 34 = .ok (.istore 4, 2) := by decide +kernel
theorem dX9_peek_36 : decode cX9_peek 36 = .ok (.iload 4, 2) := by decide +kernel
theorem dX9_peek_38 : decode cX9_peek 38 = .ok (.iconst (-1), 1) := by decide +kernel
theorem dX9_peek_39 : decode cX9_peek 39 = .ok (.if_icmp .eq 24, 3) := by decide +kernel
theorem dX9_peek_42 : decode cX9_peek 42 = .ok (.aload_n 0, 1) := by decide +kernel
theorem dX9_peek_43 : decode cX9_peek 43 = .ok (.getfield 10, 3) := by decide +kernel
theorem dX9_peek_46 : decode cX9_peek 46 = .ok (.iload 4, 2) := by decide +kernel
theorem dX9_peek_48 : decode cX9_peek 48 = .ok (.aload_n 0, 1) := by decide +kernel
theorem dX9_peek_49 : decode cX9_peek 49 = .ok (.getfield 10, 3) := by decide +kernel
theorem dX9_peek_52 : decode cX9_peek 52 = .ok (.getfield 142, 3) := by decide +kernel
theorem dX9_peek_55 : decode cX9_peek 55 = .ok (.iload_n 1, 1) := by decide +kernel
theorem dX9_peek_56 : decode cX9_peek 56 = .ok (.iaload, 1) := by decide +kernel
theorem dX9_peek_57 : decode cX9_peek 57 = .ok (.invokevirtual 148, 3) := by decide +kernel
theorem dX9_peek_60 : decode cX9_peek 60 = .ok (.ifCond .ne 6, 3) := by decide +kernel
theorem dX9_peek_63 : decode cX9_peek 63 = .ok (.ldc 135, 2) := by decide +kernel
theorem dX9_peek_65 : decode cX9_peek 65 = .ok (.ireturn, 1) := by decide +kernel
theorem dX9_peek_66 : decode cX9_peek 66 = .ok (.aload_n 0, 1) := by decide +kernel
theorem dX9_peek_67 : decode cX9_peek 67 = .ok (.getfield 10, 3) := by decide +kernel
theorem dX9_peek_70 : decode cX9_peek 70 = .ok (.iload 4, 2) := by decide +kernel
theorem dX9_peek_72 : decode cX9_peek 72 = .ok (.iload_n 3, 1) := by decide +kernel
theorem dX9_peek_73 : decode cX9_peek 73 = .ok (.invokevirtual 132, 3) := by decide +kernel
theorem dX9_peek_76 : decode cX9_peek 76 = .ok (.istore 5, 2) := by decide +kernel
theorem dX9_peek_78 : decode cX9_peek 78 = .ok (.iload 5, 2) := by decide +kernel
theorem dX9_peek_80 : decode cX9_peek 80 = .ok (.iconst (-1), 1) := by decide +kernel
theorem dX9_peek_81 : decode cX9_peek 81 = .ok (.if_icmp .ne 8, 3) := by decide +kernel
theorem dX9_peek_84 : decode cX9_peek 84 = .ok (.ldc 135, 2) := by decide +kernel
theorem dX9_peek_86 : decode cX9_peek 86 = .ok (.goto 13, 3) := by decide +kernel
theorem dX9_peek_89 : decode cX9_peek 89 = .ok (.aload_n 0, 1) := by decide +kernel
theorem dX9_peek_90 : decode cX9_peek 90 = .ok (.getfield 10, 3) := by decide +kernel
theorem dX9_peek_93 : decode cX9_peek 93 = .ok (.getfield 136, 3) := by decide +kernel
theorem dX9_peek_96 : decode cX9_peek 96 = .ok (.iload 5, 2) := by decide +kernel
theorem dX9_peek_98 : decode cX9_peek 98 = .ok (.iaload, 1) := by decide +kernel
theorem dX9_peek_99 : decode cX9_peek 99 = .ok (.ireturn, 1) := by decide +kernel
theorem dX9_of_0 : decode cX9_of 0 = .ok (.iload_n 2, 1) := by decide +kernel
theorem dX9_of_1 : decode cX9_of 1 = .ok (.ifCond .lt 8, 3) := by decide +kernel
theorem dX9_of_4 : decode cX9_of 4 = .ok (.iload_n 2, 1) := by decide +kernel
theorem dX9_of_5 : decode cX9_of 5 = .ok (.iconst 5, 1) := by decide +kernel
theorem dX9_of_6 : decode cX9_of 6 = .ok (.if_icmp .le 5, 3) := by decide +kernel
theorem dX9_of_9 : decode cX9_of 9 = .ok (.iconst (-1), 1) := by decide +kernel
theorem dX9_of_10 : decode cX9_of 10 = .ok (.ireturn, 1) := by decide +kernel
theorem dX9_of_11 : decode cX9_of 11 = .ok (.aload_n 0, 1) := by decide +kernel
theorem dX9_of_12 : decode cX9_of 12 = .ok (.getfield 10, 3) := by decide +kernel
theorem dX9_of_15 : decode cX9_of 15 = .ok (.getfield 81, 3) := by decide +kernel
theorem dX9_of_18 : decode cX9_of 18 = .ok (.iload_n 1, 1) := by decide +kernel
theorem dX9_of_19 : decode cX9_of 19 = .ok (.invokevirtual 102, 3) := by decide +kernel
theorem dX9_of_22 : decode cX9_of 22 = .ok (.istore_n 3, 1) := by decide +kernel
theorem dX9_of_23 : decode cX9_of 23 = .ok (.iload_n 3, 1) := by decide +kernel
theorem dX9_of_24 : decode cX9_of 24 = .ok (.iconst (-1), 1) := by decide +kernel
theorem dX9_of_25 : decode cX9_of 25 = .ok (.if_icmp .ne 6, 3) := by decide +kernel
theorem dX9_of_28 : decode cX9_of 28 = .ok (.bipush (-4), 2) := by decide +kernel
theorem dX9_of_30 : decode cX9_of 30 = .ok (.ireturn, 1) := by decide +kernel
theorem dX9_of_31 : decode cX9_of 31 = .ok (.iload_n 2, 1) := by decide +kernel
theorem dX9_of_32 : decode cX9_of 32 = .ok (.tableswitch 101 0 4 #[36, 49, 62, 75, 88], 36) := by decide +kernel
theorem dX9_of_68 : decode cX9_of 68 = .ok (.aload_n 0, 1) := by decide +kernel
theorem dX9_of_69 : decode cX9_of 69 = .ok (.getfield 10, 3) := by decide +kernel
theorem dX9_of_72 : decode cX9_of 72 = .ok (.getfield 81, 3) := by decide +kernel
theorem dX9_of_75 : decode cX9_of 75 = .ok (.getfield 151, 3) := by decide +kernel
theorem dX9_of_78 : decode cX9_of 78 = .ok (.iload_n 3, 1) := by decide +kernel
theorem dX9_of_79 : decode cX9_of 79 = .ok (.iaload, 1) := by decide +kernel
theorem dX9_of_80 : decode cX9_of 80 = .ok (.ireturn, 1) := by decide +kernel
theorem dX9_of_81 : decode cX9_of 81 = .ok (.aload_n 0, 1) := by decide +kernel
theorem dX9_of_82 : decode cX9_of 82 = .ok (.getfield 10, 3) := by decide +kernel
theorem dX9_of_85 : decode cX9_of 85 = .ok (.getfield 81, 3) := by decide +kernel
theorem dX9_of_88 : decode cX9_of 88 = .ok (.getfield 120, 3) := by decide +kernel
theorem dX9_of_91 : decode cX9_of 91 = .ok (.iload_n 3, 1) := by decide +kernel
theorem dX9_of_92 : decode cX9_of 92 = .ok (.iaload, 1) := by decide +kernel
theorem dX9_of_93 : decode cX9_of 93 = .ok (.ireturn, 1) := by decide +kernel
theorem dX9_of_94 : decode cX9_of 94 = .ok (.aload_n 0, 1) := by decide +kernel
theorem dX9_of_95 : decode cX9_of 95 = .ok (.getfield 10, 3) := by decide +kernel
theorem dX9_of_98 : decode cX9_of 98 = .ok (.getfield 81, 3) := by decide +kernel
theorem dX9_of_101 : decode cX9_of 101 = .ok (.getfield 154, 3) := by decide +kernel
theorem dX9_of_104 : decode cX9_of 104 = .ok (.iload_n 3, 1) := by decide +kernel
theorem dX9_of_105 : decode cX9_of 105 = .ok (.iaload, 1) := by decide +kernel
theorem dX9_of_106 : decode cX9_of 106 = .ok (.ireturn, 1) := by decide +kernel
theorem dX9_of_107 : decode cX9_of 107 = .ok (.aload_n 0, 1) := by decide +kernel
theorem dX9_of_108 : decode cX9_of 108 = .ok (.getfield 10, 3) := by decide +kernel
theorem dX9_of_111 : decode cX9_of 111 = .ok (.getfield 81, 3) := by decide +kernel
theorem dX9_of_114 : decode cX9_of 114 = .ok (.getfield 117, 3) := by decide +kernel
theorem dX9_of_117 : decode cX9_of 117 = .ok (.iload_n 3, 1) := by decide +kernel
theorem dX9_of_118 : decode cX9_of 118 = .ok (.iaload, 1) := by decide +kernel
theorem dX9_of_119 : decode cX9_of 119 = .ok (.ireturn, 1) := by decide +kernel
theorem dX9_of_120 : decode cX9_of 120 = .ok (.aload_n 0, 1) := by decide +kernel
theorem dX9_of_121 : decode cX9_of 121 = .ok (.getfield 10, 3) := by decide +kernel
theorem dX9_of_124 : decode cX9_of 124 = .ok (.getfield 81, 3) := by decide +kernel
theorem dX9_of_127 : decode cX9_of 127 = .ok (.getfield 105, 3) := by decide +kernel
theorem dX9_of_130 : decode cX9_of 130 = .ok (.iload_n 3, 1) := by decide +kernel
theorem dX9_of_131 : decode cX9_of 131 = .ok (.iaload, 1) := by decide +kernel
theorem dX9_of_132 : decode cX9_of 132 = .ok (.ireturn, 1) := by decide +kernel
theorem dX9_of_133 : decode cX9_of 133 = .ok (.aload_n 0, 1) := by decide +kernel
theorem dX9_of_134 : decode cX9_of 134 = .ok (.getfield 10, 3) := by decide +kernel
theorem dX9_of_137 : decode cX9_of 137 = .ok (.getfield 81, 3) := by decide +kernel
theorem dX9_of_140 : decode cX9_of 140 = .ok (.getfield 157, 3) := by decide +kernel
theorem dX9_of_143 : decode cX9_of 143 = .ok (.iload_n 3, 1) := by decide +kernel
theorem dX9_of_144 : decode cX9_of 144 = .ok (.iaload, 1) := by decide +kernel
theorem dX9_of_145 : decode cX9_of 145 = .ok (.invokestatic 160, 3) := by decide +kernel
theorem dX9_of_148 : decode cX9_of 148 = .ok (.ireturn, 1) := by decide +kernel
theorem dX9_slot_0 : decode cX9_slot 0 = .ok (.iload_n 1, 1) := by decide +kernel
theorem dX9_slot_1 : decode cX9_slot 1 = .ok (.ifCond .lt 9, 3) := by decide +kernel
theorem dX9_slot_4 : decode cX9_slot 4 = .ok (.iload_n 1, 1) := by decide +kernel
theorem dX9_slot_5 : decode cX9_slot 5 = .ok (.bipush 30, 2) := by decide +kernel
theorem dX9_slot_7 : decode cX9_slot 7 = .ok (.if_icmp .lt 5, 3) := by decide +kernel
theorem dX9_slot_10 : decode cX9_slot 10 = .ok (.iconst (-1), 1) := by decide +kernel
theorem dX9_slot_11 : decode cX9_slot 11 = .ok (.ireturn, 1) := by decide +kernel
theorem dX9_slot_12 : decode cX9_slot 12 = .ok (.aload_n 0, 1) := by decide +kernel
theorem dX9_slot_13 : decode cX9_slot 13 = .ok (.getfield 10, 3) := by decide +kernel
theorem dX9_slot_16 : decode cX9_slot 16 = .ok (.getfield 81, 3) := by decide +kernel
theorem dX9_slot_19 : decode cX9_slot 19 = .ok (.getfield 163, 3) := by decide +kernel
theorem dX9_slot_22 : decode cX9_slot 22 = .ok (.iload_n 1, 1) := by decide +kernel
theorem dX9_slot_23 : decode cX9_slot 23 = .ok (.iaload, 1) := by decide +kernel
theorem dX9_slot_24 : decode cX9_slot 24 = .ok (.iconst 2, 1) := by decide +kernel
theorem dX9_slot_25 : decode cX9_slot 25 = .ok (.if_icmp .ne 7, 3) := by decide +kernel
theorem dX9_slot_28 : decode cX9_slot 28 = .ok (.iconst 1, 1) := by decide +kernel
theorem dX9_slot_29 : decode cX9_slot 29 = .ok (.goto 4, 3) := by decide +kernel
theorem dX9_slot_32 : decode cX9_slot 32 = .ok (.iconst 0, 1) := by decide +kernel
theorem dX9_slot_33 : decode cX9_slot 33 = .ok (.istore_n 3, 1) := by decide +kernel
theorem dX9_slot_34 : decode cX9_slot 34 = .ok (.iload_n 2, 1) := by decide +kernel
theorem dX9_slot_35 : decode cX9_slot 35 = .ok (.tableswitch 89 0 3 #[29, 44, 57, 67], 29) := by decide +kernel
theorem dX9_slot_64 : decode cX9_slot 64 = .ok (.aload_n 0, 1) := by decide +kernel
theorem dX9_slot_65 : decode cX9_slot 65 = .ok (.getfield 10, 3) := by decide +kernel
theorem dX9_slot_68 : decode cX9_slot 68 = .ok (.getfield 81, 3) := by decide +kernel
theorem dX9_slot_71 : decode cX9_slot 71 = .ok (.iload_n 1, 1) := by decide +kernel
theorem dX9_slot_72 : decode cX9_slot 72 = .ok (.invokevirtual 166, 3) := by decide +kernel
theorem dX9_slot_75 : decode cX9_slot 75 = .ok (.invokestatic 160, 3) := by decide +kernel
theorem dX9_slot_78 : decode cX9_slot 78 = .ok (.ireturn, 1) := by decide +kernel
theorem dX9_slot_79 : decode cX9_slot 79 = .ok (.aload_n 0, 1) := by decide +kernel
theorem dX9_slot_80 : decode cX9_slot 80 = .ok (.getfield 10, 3) := by decide +kernel
theorem dX9_slot_83 : decode cX9_slot 83 = .ok (.getfield 81, 3) := by decide +kernel
theorem dX9_slot_86 : decode cX9_slot 86 = .ok (.getfield 169, 3) := by decide +kernel
theorem dX9_slot_89 : decode cX9_slot 89 = .ok (.iload_n 1, 1) := by decide +kernel
theorem dX9_slot_90 : decode cX9_slot 90 = .ok (.iaload, 1) := by decide +kernel
theorem dX9_slot_91 : decode cX9_slot 91 = .ok (.ireturn, 1) := by decide +kernel
theorem dX9_slot_92 : decode cX9_slot 92 = .ok (.iload_n 3, 1) := by decide +kernel
theorem dX9_slot_93 : decode cX9_slot 93 = .ok (.ifCond .eq 7, 3) := by decide +kernel
theorem dX9_slot_96 : decode cX9_slot 96 = .ok (.iconst 1, 1) := by decide +kernel
theorem dX9_slot_97 : decode cX9_slot 97 = .ok (.goto 4, 3) := by decide +kernel
theorem dX9_slot_100 : decode cX9_slot 100 = .ok (.iconst 0, 1) := by decide +kernel
theorem dX9_slot_101 : decode cX9_slot 101 = .ok (.ireturn, 1) := by decide +kernel
theorem dX9_slot_102 : decode cX9_slot 102 = .ok (.iload_n 3, 1) := by decide +kernel
theorem dX9_slot_103 : decode cX9_slot 103 = .ok (.ifCond .eq 18, 3) := by decide +kernel
theorem dX9_slot_106 : decode cX9_slot 106 = .ok (.aload_n 0, 1) := by decide +kernel
theorem dX9_slot_107 : decode cX9_slot 107 = .ok (.getfield 10, 3) := by decide +kernel
theorem dX9_slot_110 : decode cX9_slot 110 = .ok (.getfield 81, 3) := by decide +kernel
theorem dX9_slot_113 : decode cX9_slot 113 = .ok (.getfield 172, 3) := by decide +kernel
theorem dX9_slot_116 : decode cX9_slot 116 = .ok (.iload_n 1, 1) := by decide +kernel
theorem dX9_slot_117 : decode cX9_slot 117 = .ok (.iaload, 1) := by decide +kernel
theorem dX9_slot_118 : decode cX9_slot 118 = .ok (.goto 5, 3) := by decide +kernel
theorem dX9_slot_121 : decode cX9_slot 121 = .ok (.bipush (-2), 2) := by decide +kernel
theorem dX9_slot_123 : decode cX9_slot 123 = .ok (.ireturn, 1) := by decide +kernel
theorem dX9_slot_124 : decode cX9_slot 124 = .ok (.iconst (-1), 1) := by decide +kernel
theorem dX9_slot_125 : decode cX9_slot 125 = .ok (.ireturn, 1) := by decide +kernel
theorem dX9_lies_0 : decode cX9_lies 0 = .ok (.iload_n 1, 1) := by decide +kernel
theorem dX9_lies_1 : decode cX9_lies 1 = .ok (.ifCond .lt 10, 3) := by decide +kernel
theorem dX9_lies_4 : decode cX9_lies 4 = .ok (.iload_n 1, 1) := by decide +kernel
theorem dX9_lies_5 : decode cX9_lies 5 = .ok (.sipush 240, 3) := by decide +kernel
theorem dX9_lies_8 : decode cX9_lies 8 = .ok (.if_icmp .lt 5, 3) := by decide +kernel
theorem dX9_lies_11 : decode cX9_lies 11 = .ok (.iconst (-1), 1) := by decide +kernel
theorem dX9_lies_12 : decode cX9_lies 12 = .ok (.ireturn, 1) := by decide +kernel
theorem dX9_lies_13 : decode cX9_lies 13 = .ok (.aload_n 0, 1) := by decide +kernel
theorem dX9_lies_14 : decode cX9_lies 14 = .ok (.getfield 10, 3) := by decide +kernel
theorem dX9_lies_17 : decode cX9_lies 17 = .ok (.getfield 175, 3) := by decide +kernel
theorem dX9_lies_20 : decode cX9_lies 20 = .ok (.getfield 179, 3) := by decide +kernel
theorem dX9_lies_23 : decode cX9_lies 23 = .ok (.iload_n 1, 1) := by decide +kernel
theorem dX9_lies_24 : decode cX9_lies 24 = .ok (.iaload, 1) := by decide +kernel
theorem dX9_lies_25 : decode cX9_lies 25 = .ok (.istore_n 2, 1) := by decide +kernel
theorem dX9_lies_26 : decode cX9_lies 26 = .ok (.iload_n 2, 1) := by decide +kernel
theorem dX9_lies_27 : decode cX9_lies 27 = .ok (.iconst (-1), 1) := by decide +kernel
theorem dX9_lies_28 : decode cX9_lies 28 = .ok (.if_icmp .eq 5, 3) := by decide +kernel
theorem dX9_lies_31 : decode cX9_lies 31 = .ok (.iload_n 2, 1) := by decide +kernel
theorem dX9_lies_32 : decode cX9_lies 32 = .ok (.ireturn, 1) := by decide +kernel
theorem dX9_lies_33 : decode cX9_lies 33 = .ok (.iload_n 1, 1) := by decide +kernel
theorem dX9_lies_34 : decode cX9_lies 34 = .ok (.aload_n 0, 1) := by decide +kernel
theorem dX9_lies_35 : decode cX9_lies 35 = .ok (.getfield 10, 3) := by decide +kernel
theorem dX9_lies_38 : decode cX9_lies 38 = .ok (.getfield 57, 3) := by decide +kernel
theorem dX9_lies_41 : decode cX9_lies 41 = .ok (.invokevirtual 184, 3) := by decide +kernel
theorem dX9_lies_44 : decode cX9_lies 44 = .ok (.if_icmp .ge 8, 3) := by decide +kernel
theorem dX9_lies_47 : decode cX9_lies 47 = .ok (.bipush 100, 2) := by decide +kernel
theorem dX9_lies_49 : decode cX9_lies 49 = .ok (.goto 5, 3) := by decide +kernel
theorem dX9_lies_52 : decode cX9_lies 52 = .ok (.bipush 101, 2) := by decide +kernel
theorem dX9_lies_54 : decode cX9_lies 54 = .ok (.ireturn, 1) := by decide +kernel
theorem dX9_tag_0 : decode cX9_tag 0 = .ok (.iload_n 2, 1) := by decide +kernel
theorem dX9_tag_1 : decode cX9_tag 1 = .ok (.invokestatic 187, 3) := by decide +kernel
theorem dX9_tag_4 : decode cX9_tag 4 = .ok (.ifCond .ne 5, 3) := by decide +kernel
theorem dX9_tag_7 : decode cX9_tag 7 = .ok (.iconst (-1), 1) := by decide +kernel
theorem dX9_tag_8 : decode cX9_tag 8 = .ok (.ireturn, 1) := by decide +kernel
theorem dX9_tag_9 : decode cX9_tag 9 = .ok (.aload_n 0, 1) := by decide +kernel
theorem dX9_tag_10 : decode cX9_tag 10 = .ok (.getfield 10, 3) := by decide +kernel
theorem dX9_tag_13 : decode cX9_tag 13 = .ok (.getfield 81, 3) := by decide +kernel
theorem dX9_tag_16 : decode cX9_tag 16 = .ok (.iload_n 1, 1) := by decide +kernel
theorem dX9_tag_17 : decode cX9_tag 17 = .ok (.invokevirtual 102, 3) := by decide +kernel
theorem dX9_tag_20 : decode cX9_tag 20 = .ok (.istore_n 3, 1) := by decide +kernel
theorem dX9_tag_21 : decode cX9_tag 21 = .ok (.iload_n 3, 1) := by decide +kernel
theorem dX9_tag_22 : decode cX9_tag 22 = .ok (.iconst (-1), 1) := by decide +kernel
theorem dX9_tag_23 : decode cX9_tag 23 = .ok (.if_icmp .ne 6, 3) := by decide +kernel
theorem dX9_tag_26 : decode cX9_tag 26 = .ok (.bipush (-4), 2) := by decide +kernel
theorem dX9_tag_28 : decode cX9_tag 28 = .ok (.ireturn, 1) := by decide +kernel
theorem dX9_tag_29 : decode cX9_tag 29 = .ok (.aload_n 0, 1) := by decide +kernel
theorem dX9_tag_30 : decode cX9_tag 30 = .ok (.getfield 10, 3) := by decide +kernel
theorem dX9_tag_33 : decode cX9_tag 33 = .ok (.iload_n 2, 1) := by decide +kernel
theorem dX9_tag_34 : decode cX9_tag 34 = .ok (.invokevirtual 190, 3) := by decide +kernel
theorem dX9_tag_37 : decode cX9_tag 37 = .ok (.istore 4, 2) := by decide +kernel
theorem dX9_tag_39 : decode cX9_tag 39 = .ok (.iload 4, 2) := by decide +kernel
theorem dX9_tag_41 : decode cX9_tag 41 = .ok (.iconst (-1), 1) := by decide +kernel
theorem dX9_tag_42 : decode cX9_tag 42 = .ok (.if_icmp .eq 12, 3) := by decide +kernel
theorem dX9_tag_45 : decode cX9_tag 45 = .ok (.iload 4, 2) := by decide +kernel
theorem dX9_tag_47 : decode cX9_tag 47 = .ok (.iload_n 3, 1) := by decide +kernel
theorem dX9_tag_48 : decode cX9_tag 48 = .ok (.if_icmp .eq 6, 3) := by decide +kernel
theorem dX9_tag_51 : decode cX9_tag 51 = .ok (.bipush (-5), 2) := by decide +kernel
theorem dX9_tag_53 : decode cX9_tag 53 = .ok (.ireturn, 1) := by decide +kernel
theorem dX9_tag_54 : decode cX9_tag 54 = .ok (.aload_n 0, 1) := by decide +kernel
theorem dX9_tag_55 : decode cX9_tag 55 = .ok (.getfield 10, 3) := by decide +kernel
theorem dX9_tag_58 : decode cX9_tag 58 = .ok (.iload_n 3, 1) := by decide +kernel
theorem dX9_tag_59 : decode cX9_tag 59 = .ok (.iload_n 2, 1) := by decide +kernel
theorem dX9_tag_60 : decode cX9_tag 60 = .ok (.invokevirtual 193, 3) := by decide +kernel
theorem dX9_tag_63 : decode cX9_tag 63 = .ok (.aload_n 0, 1) := by decide +kernel
theorem dX9_tag_64 : decode cX9_tag 64 = .ok (.getfield 10, 3) := by decide +kernel
theorem dX9_tag_67 : decode cX9_tag 67 = .ok (.getfield 197, 3) := by decide +kernel
theorem dX9_tag_70 : decode cX9_tag 70 = .ok (.getfield 201, 3) := by decide +kernel
theorem dX9_tag_73 : decode cX9_tag 73 = .ok (.ireturn, 1) := by decide +kernel
theorem dX9_find_0 : decode cX9_find 0 = .ok (.iload_n 1, 1) := by decide +kernel
theorem dX9_find_1 : decode cX9_find 1 = .ok (.invokestatic 187, 3) := by decide +kernel
theorem dX9_find_4 : decode cX9_find 4 = .ok (.ifCond .ne 5, 3) := by decide +kernel
theorem dX9_find_7 : decode cX9_find 7 = .ok (.iconst (-1), 1) := by decide +kernel
theorem dX9_find_8 : decode cX9_find 8 = .ok (.ireturn, 1) := by decide +kernel
theorem dX9_find_9 : decode cX9_find 9 = .ok (.aload_n 0, 1) := by decide +kernel
theorem dX9_find_10 : decode cX9_find 10 = .ok (.getfield 10, 3) := by decide +kernel
theorem dX9_find_13 : decode cX9_find 13 = .ok (.iload_n 1, 1) := by decide +kernel
theorem dX9_find_14 : decode cX9_find 14 = .ok (.invokevirtual 190, 3) := by decide +kernel
theorem dX9_find_17 : decode cX9_find 17 = .ok (.istore_n 2, 1) := by decide +kernel
theorem dX9_find_18 : decode cX9_find 18 = .ok (.iload_n 2, 1) := by decide +kernel
theorem dX9_find_19 : decode cX9_find 19 = .ok (.iconst (-1), 1) := by decide +kernel
theorem dX9_find_20 : decode cX9_find 20 = .ok (.if_icmp .ne 8, 3) := by decide +kernel
theorem dX9_find_23 : decode cX9_find 23 = .ok (.bipush (-2), 2) := by decide +kernel
theorem dX9_find_25 : decode cX9_find 25 = .ok (.goto 14, 3) := by decide +kernel
theorem dX9_find_28 : decode cX9_find 28 = .ok (.aload_n 0, 1) := by decide +kernel
theorem dX9_find_29 : decode cX9_find 29 = .ok (.getfield 10, 3) := by decide +kernel
theorem dX9_find_32 : decode cX9_find 32 = .ok (.getfield 81, 3) := by decide +kernel
theorem dX9_find_35 : decode cX9_find 35 = .ok (.iload_n 2, 1) := by decide +kernel
theorem dX9_find_36 : decode cX9_find 36 = .ok (.invokevirtual 98, 3) := by decide +kernel
theorem dX9_find_39 : decode cX9_find 39 = .ok (.ireturn, 1) := by decide +kernel
theorem dX9_tagged_0 : decode cX9_tagged 0 = .ok (.iload_n 1, 1) := by decide +kernel
theorem dX9_tagged_1 : decode cX9_tagged 1 = .ok (.ifCond .ge 5, 3) := by decide +kernel
theorem dX9_tagged_4 : decode cX9_tagged 4 = .ok (.iconst (-1), 1) := by decide +kernel
theorem dX9_tagged_5 : decode cX9_tagged 5 = .ok (.ireturn, 1) := by decide +kernel
theorem dX9_tagged_6 : decode cX9_tagged 6 = .ok (.aload_n 0, 1) := by decide +kernel
theorem dX9_tagged_7 : decode cX9_tagged 7 = .ok (.getfield 10, 3) := by decide +kernel
theorem dX9_tagged_10 : decode cX9_tagged 10 = .ok (.getfield 197, 3) := by decide +kernel
theorem dX9_tagged_13 : decode cX9_tagged 13 = .ok (.iload_n 1, 1) := by decide +kernel
theorem dX9_tagged_14 : decode cX9_tagged 14 = .ok (.invokevirtual 206, 3) := by decide +kernel
theorem dX9_tagged_17 : decode cX9_tagged 17 = .ok (.istore_n 2, 1) := by decide +kernel
theorem dX9_tagged_18 : decode cX9_tagged 18 = .ok (.iload_n 2, 1) := by decide +kernel
theorem dX9_tagged_19 : decode cX9_tagged 19 = .ok (.iconst (-1), 1) := by decide +kernel
theorem dX9_tagged_20 : decode cX9_tagged 20 = .ok (.if_icmp .ne 8, 3) := by decide +kernel
theorem dX9_tagged_23 : decode cX9_tagged 23 = .ok (.bipush (-2), 2) := by decide +kernel
theorem dX9_tagged_25 : decode cX9_tagged 25 = .ok (.goto 15, 3) := by decide +kernel
theorem dX9_tagged_28 : decode cX9_tagged 28 = .ok (.aload_n 0, 1) := by decide +kernel
theorem dX9_tagged_29 : decode cX9_tagged 29 = .ok (.getfield 10, 3) := by decide +kernel
theorem dX9_tagged_32 : decode cX9_tagged 32 = .ok (.getfield 81, 3) := by decide +kernel
theorem dX9_tagged_35 : decode cX9_tagged 35 = .ok (.getfield 157, 3) := by decide +kernel
theorem dX9_tagged_38 : decode cX9_tagged 38 = .ok (.iload_n 2, 1) := by decide +kernel
theorem dX9_tagged_39 : decode cX9_tagged 39 = .ok (.iaload, 1) := by decide +kernel
theorem dX9_tagged_40 : decode cX9_tagged 40 = .ok (.ireturn, 1) := by decide +kernel
theorem dX9_quota_0 : decode cX9_quota 0 = .ok (.iload_n 1, 1) := by decide +kernel
theorem dX9_quota_1 : decode cX9_quota 1 = .ok (.invokestatic 74, 3) := by decide +kernel
theorem dX9_quota_4 : decode cX9_quota 4 = .ok (.ifCond .eq 14, 3) := by decide +kernel
theorem dX9_quota_7 : decode cX9_quota 7 = .ok (.iload_n 2, 1) := by decide +kernel
theorem dX9_quota_8 : decode cX9_quota 8 = .ok (.ifCond .lt 10, 3) := by decide +kernel
theorem dX9_quota_11 : decode cX9_quota 11 = .ok (.iload_n 2, 1) := by decide +kernel
theorem dX9_quota_12 : decode cX9_quota 12 = .ok (.sipush 240, 3) := by decide +kernel
theorem dX9_quota_15 : decode cX9_quota 15 = .ok (.if_icmp .le 5, 3) := by decide +kernel
theorem dX9_quota_18 : decode cX9_quota 18 = .ok (.iconst (-1), 1) := by decide +kernel
theorem dX9_quota_19 : decode cX9_quota 19 = .ok (.ireturn, 1) := by decide +kernel
theorem dX9_quota_20 : decode cX9_quota 20 = .ok (.aload_n 0, 1) := by decide +kernel
theorem dX9_quota_21 : decode cX9_quota 21 = .ok (.getfield 10, 3) := by decide +kernel
theorem dX9_quota_24 : decode cX9_quota 24 = .ok (.getfield 81, 3) := by decide +kernel
theorem dX9_quota_27 : decode cX9_quota 27 = .ok (.iload_n 1, 1) := by decide +kernel
theorem dX9_quota_28 : decode cX9_quota 28 = .ok (.invokevirtual 208, 3) := by decide +kernel
theorem dX9_quota_31 : decode cX9_quota 31 = .ok (.iload_n 2, 1) := by decide +kernel
theorem dX9_quota_32 : decode cX9_quota 32 = .ok (.if_icmp .le 6, 3) := by decide +kernel
theorem dX9_quota_35 : decode cX9_quota 35 = .ok (.bipush (-5), 2) := by decide +kernel
theorem dX9_quota_37 : decode cX9_quota 37 = .ok (.ireturn, 1) := by decide +kernel
theorem dX9_quota_38 : decode cX9_quota 38 = .ok (.aload_n 0, 1) := by decide +kernel
theorem dX9_quota_39 : decode cX9_quota 39 = .ok (.getfield 10, 3) := by decide +kernel
theorem dX9_quota_42 : decode cX9_quota 42 = .ok (.getfield 211, 3) := by decide +kernel
theorem dX9_quota_45 : decode cX9_quota 45 = .ok (.iload_n 1, 1) := by decide +kernel
theorem dX9_quota_46 : decode cX9_quota 46 = .ok (.iaload, 1) := by decide +kernel
theorem dX9_quota_47 : decode cX9_quota 47 = .ok (.istore_n 3, 1) := by decide +kernel
theorem dX9_quota_48 : decode cX9_quota 48 = .ok (.aload_n 0, 1) := by decide +kernel
theorem dX9_quota_49 : decode cX9_quota 49 = .ok (.getfield 10, 3) := by decide +kernel
theorem dX9_quota_52 : decode cX9_quota 52 = .ok (.getfield 211, 3) := by decide +kernel
theorem dX9_quota_55 : decode cX9_quota 55 = .ok (.iload_n 1, 1) := by decide +kernel
theorem dX9_quota_56 : decode cX9_quota 56 = .ok (.iload_n 2, 1) := by decide +kernel
theorem dX9_quota_57 : decode cX9_quota 57 = .ok (.iastore, 1) := by decide +kernel
theorem dX9_quota_58 : decode cX9_quota 58 = .ok (.iload_n 3, 1) := by decide +kernel
theorem dX9_quota_59 : decode cX9_quota 59 = .ok (.ireturn, 1) := by decide +kernel
theorem dX9_owner_0 : decode cX9_owner 0 = .ok (.iload_n 1, 1) := by decide +kernel
theorem dX9_owner_1 : decode cX9_owner 1 = .ok (.invokestatic 74, 3) := by decide +kernel
theorem dX9_owner_4 : decode cX9_owner 4 = .ok (.ifCond .ne 5, 3) := by decide +kernel
theorem dX9_owner_7 : decode cX9_owner 7 = .ok (.iconst (-1), 1) := by decide +kernel
theorem dX9_owner_8 : decode cX9_owner 8 = .ok (.ireturn, 1) := by decide +kernel
theorem dX9_owner_9 : decode cX9_owner 9 = .ok (.iload_n 2, 1) := by decide +kernel
theorem dX9_owner_10 : decode cX9_owner 10 = .ok (.tableswitch 70 0 3 #[30, 42, 52, 58], 30) := by decide +kernel
theorem dX9_owner_40 : decode cX9_owner 40 = .ok (.aload_n 0, 1) := by decide +kernel
theorem dX9_owner_41 : decode cX9_owner 41 = .ok (.getfield 10, 3) := by decide +kernel
theorem dX9_owner_44 : decode cX9_owner 44 = .ok (.getfield 81, 3) := by decide +kernel
theorem dX9_owner_47 : decode cX9_owner 47 = .ok (.iload_n 1, 1) := by decide +kernel
theorem dX9_owner_48 : decode cX9_owner 48 = .ok (.invokevirtual 208, 3) := by decide +kernel
theorem dX9_owner_51 : decode cX9_owner 51 = .ok (.ireturn, 1) := by decide +kernel
theorem dX9_owner_52 : decode cX9_owner 52 = .ok (.aload_n 0, 1) := by decide +kernel
theorem dX9_owner_53 : decode cX9_owner 53 = .ok (.getfield 10, 3) := by decide +kernel
theorem dX9_owner_56 : decode cX9_owner 56 = .ok (.getfield 211, 3) := by decide +kernel
theorem dX9_owner_59 : decode cX9_owner 59 = .ok (.iload_n 1, 1) := by decide +kernel
theorem dX9_owner_60 : decode cX9_owner 60 = .ok (.iaload, 1) := by decide +kernel
theorem dX9_owner_61 : decode cX9_owner 61 = .ok (.ireturn, 1) := by decide +kernel
theorem dX9_owner_62 : decode cX9_owner 62 = .ok (.aload_n 0, 1) := by decide +kernel
theorem dX9_owner_63 : decode cX9_owner 63 = .ok (.iload_n 1, 1) := by decide +kernel
theorem dX9_owner_64 : decode cX9_owner 64 = .ok (.invokevirtual 214, 3) := by decide +kernel
theorem dX9_owner_67 : decode cX9_owner 67 = .ok (.ireturn, 1) := by decide +kernel
theorem dX9_owner_68 : decode cX9_owner 68 = .ok (.aload_n 0, 1) := by decide +kernel
theorem dX9_owner_69 : decode cX9_owner 69 = .ok (.getfield 10, 3) := by decide +kernel
theorem dX9_owner_72 : decode cX9_owner 72 = .ok (.getfield 81, 3) := by decide +kernel
theorem dX9_owner_75 : decode cX9_owner 75 = .ok (.iload_n 1, 1) := by decide +kernel
theorem dX9_owner_76 : decode cX9_owner 76 = .ok (.invokevirtual 217, 3) := by decide +kernel
theorem dX9_owner_79 : decode cX9_owner 79 = .ok (.ireturn, 1) := by decide +kernel
theorem dX9_owner_80 : decode cX9_owner 80 = .ok (.iconst (-1), 1) := by decide +kernel
theorem dX9_owner_81 : decode cX9_owner 81 = .ok (.ireturn, 1) := by decide +kernel
theorem dX9_enter_0 : decode cX9_enter 0 = .ok (.iload_n 1, 1) := by decide +kernel
theorem dX9_enter_1 : decode cX9_enter 1 = .ok (.invokestatic 139, 3) := by decide +kernel
theorem dX9_enter_4 : decode cX9_enter 4 = .ok (.ifCond .ne 5, 3) := by decide +kernel
theorem dX9_enter_7 : decode cX9_enter 7 = .ok (.iconst (-1), 1) := by decide +kernel
theorem dX9_enter_8 : decode cX9_enter 8 = .ok (.ireturn, 1) := by decide +kernel
theorem dX9_enter_9 : decode cX9_enter 9 = .ok (.aload_n 0, 1) := by decide +kernel
theorem dX9_enter_10 : decode cX9_enter 10 = .ok (.getfield 10, 3) := by decide +kernel
theorem dX9_enter_13 : decode cX9_enter 13 = .ok (.getfield 142, 3) := by decide +kernel
theorem dX9_enter_16 : decode cX9_enter 16 = .ok (.iload_n 1, 1) := by decide +kernel
theorem dX9_enter_17 : decode cX9_enter 17 = .ok (.iaload, 1) := by decide +kernel
theorem dX9_enter_18 : decode cX9_enter 18 = .ok (.iconst (-1), 1) := by decide +kernel
theorem dX9_enter_19 : decode cX9_enter 19 = .ok (.if_icmp .eq 6, 3) := by decide +kernel
theorem dX9_enter_22 : decode cX9_enter 22 = .ok (.bipush (-5), 2) := by decide +kernel
theorem dX9_enter_24 : decode cX9_enter 24 = .ok (.ireturn, 1) := by decide +kernel
theorem dX9_enter_25 : decode cX9_enter 25 = .ok (.aload_n 0, 1) := by decide +kernel
theorem dX9_enter_26 : decode cX9_enter 26 = .ok (.getfield 10, 3) := by decide +kernel
theorem dX9_enter_29 : decode cX9_enter 29 = .ok (.getfield 142, 3) := by decide +kernel
theorem dX9_enter_32 : decode cX9_enter 32 = .ok (.iload_n 1, 1) := by decide +kernel
theorem dX9_enter_33 : decode cX9_enter 33 = .ok (.aload_n 0, 1) := by decide +kernel
theorem dX9_enter_34 : decode cX9_enter 34 = .ok (.getfield 10, 3) := by decide +kernel
theorem dX9_enter_37 : decode cX9_enter 37 = .ok (.getfield 113, 3) := by decide +kernel
theorem dX9_enter_40 : decode cX9_enter 40 = .ok (.iastore, 1) := by decide +kernel
theorem dX9_enter_41 : decode cX9_enter 41 = .ok (.aload_n 0, 1) := by decide +kernel
theorem dX9_enter_42 : decode cX9_enter 42 = .ok (.getfield 10, 3) := by decide +kernel
theorem dX9_enter_45 : decode cX9_enter 45 = .ok (.getfield 113, 3) := by decide +kernel
theorem dX9_enter_48 : decode cX9_enter 48 = .ok (.ireturn, 1) := by decide +kernel
theorem dX9_leave_0 : decode cX9_leave 0 = .ok (.iload_n 1, 1) := by decide +kernel
theorem dX9_leave_1 : decode cX9_leave 1 = .ok (.invokestatic 139, 3) := by decide +kernel
theorem dX9_leave_4 : decode cX9_leave 4 = .ok (.ifCond .ne 5, 3) := by decide +kernel
theorem dX9_leave_7 : decode cX9_leave 7 = .ok (.iconst (-1), 1) := by decide +kernel
theorem dX9_leave_8 : decode cX9_leave 8 = .ok (.ireturn, 1) := by decide +kernel
theorem dX9_leave_9 : decode cX9_leave 9 = .ok (.aload_n 0, 1) := by decide +kernel
theorem dX9_leave_10 : decode cX9_leave 10 = .ok (.getfield 10, 3) := by decide +kernel
theorem dX9_leave_13 : decode cX9_leave 13 = .ok (.getfield 142, 3) := by decide +kernel
theorem dX9_leave_16 : decode cX9_leave 16 = .ok (.iload_n 1, 1) := by decide +kernel
theorem dX9_leave_17 : decode cX9_leave 17 = .ok (.iaload, 1) := by decide +kernel
theorem dX9_leave_18 : decode cX9_leave 18 = .ok (.istore_n 2, 1) := by decide +kernel
theorem dX9_leave_19 : decode cX9_leave 19 = .ok (.iload_n 2, 1) := by decide +kernel
theorem dX9_leave_20 : decode cX9_leave 20 = .ok (.iconst (-1), 1) := by decide +kernel
theorem dX9_leave_21 : decode cX9_leave 21 = .ok (.if_icmp .ne 6, 3) := by decide +kernel
theorem dX9_leave_24 : decode cX9_leave 24 = .ok (.bipush (-5), 2) := by decide +kernel
theorem dX9_leave_26 : decode cX9_leave 26 = .ok (.ireturn, 1) := by decide +kernel
theorem dX9_leave_27 : decode cX9_leave 27 = .ok (.aload_n 0, 1) := by decide +kernel
theorem dX9_leave_28 : decode cX9_leave 28 = .ok (.getfield 10, 3) := by decide +kernel
theorem dX9_leave_31 : decode cX9_leave 31 = .ok (.getfield 142, 3) := by decide +kernel
theorem dX9_leave_34 : decode cX9_leave 34 = .ok (.iload_n 1, 1) := by decide +kernel
theorem dX9_leave_35 : decode cX9_leave 35 = .ok (.iconst (-1), 1) := by decide +kernel
theorem dX9_leave_36 : decode cX9_leave 36 = .ok (.iastore, 1) := by decide +kernel
theorem dX9_leave_37 : decode cX9_leave 37 = .ok (.iload_n 2, 1) := by decide +kernel
theorem dX9_leave_38 : decode cX9_leave 38 = .ok (.ireturn, 1) := by decide +kernel
theorem dX9_advance_0 : decode cX9_advance 0 = .ok (.aload_n 0, 1) := by decide +kernel
theorem dX9_advance_1 : decode cX9_advance 1 = .ok (.getfield 10, 3) := by decide +kernel
theorem dX9_advance_4 : decode cX9_advance 4 = .ok (.dup, 1) := by decide +kernel
theorem dX9_advance_5 : decode cX9_advance 5 = .ok (.getfield 113, 3) := by decide +kernel
theorem dX9_advance_8 : decode cX9_advance 8 = .ok (.iconst 1, 1) := by decide +kernel
theorem dX9_advance_9 : decode cX9_advance 9 = .ok (.iadd, 1) := by decide +kernel
theorem dX9_advance_10 : decode cX9_advance 10 = .ok (.putfield 113, 3) := by decide +kernel
theorem dX9_advance_13 : decode cX9_advance 13 = .ok (.aload_n 0, 1) := by decide +kernel
theorem dX9_advance_14 : decode cX9_advance 14 = .ok (.getfield 10, 3) := by decide +kernel
theorem dX9_advance_17 : decode cX9_advance 17 = .ok (.invokevirtual 220, 3) := by decide +kernel
theorem dX9_advance_20 : decode cX9_advance 20 = .ok (.ireturn, 1) := by decide +kernel
theorem dX9_would_0 : decode cX9_would 0 = .ok (.aload_n 0, 1) := by decide +kernel
theorem dX9_would_1 : decode cX9_would 1 = .ok (.getfield 10, 3) := by decide +kernel
theorem dX9_would_4 : decode cX9_would 4 = .ok (.getfield 57, 3) := by decide +kernel
theorem dX9_would_7 : decode cX9_would 7 = .ok (.iload_n 1, 1) := by decide +kernel
theorem dX9_would_8 : decode cX9_would 8 = .ok (.invokevirtual 67, 3) := by decide +kernel
theorem dX9_would_11 : decode cX9_would 11 = .ok (.ifCond .ne 5, 3) := by decide +kernel
theorem dX9_would_14 : decode cX9_would 14 = .ok (.iconst (-1), 1) := by decide +kernel
theorem dX9_would_15 : decode cX9_would 15 = .ok (.ireturn, 1) := by decide +kernel
theorem dX9_would_16 : decode cX9_would 16 = .ok (.aload_n 0, 1) := by decide +kernel
theorem dX9_would_17 : decode cX9_would 17 = .ok (.getfield 10, 3) := by decide +kernel
theorem dX9_would_20 : decode cX9_would 20 = .ok (.getfield 57, 3) := by decide +kernel
theorem dX9_would_23 : decode cX9_would 23 = .ok (.getfield 223, 3) := by decide +kernel
theorem dX9_would_26 : decode cX9_would 26 = .ok (.iload_n 1, 1) := by decide +kernel
theorem dX9_would_27 : decode cX9_would 27 = .ok (.iaload, 1) := by decide +kernel
theorem dX9_would_28 : decode cX9_would 28 = .ok (.istore 4, 2) := by decide +kernel
theorem dX9_would_30 : decode cX9_would 30 = .ok (.aload_n 0, 1) := by decide +kernel
theorem dX9_would_31 : decode cX9_would 31 = .ok (.getfield 10, 3) := by decide +kernel
theorem dX9_would_34 : decode cX9_would 34 = .ok (.getfield 57, 3) := by decide +kernel
theorem dX9_would_37 : decode cX9_would 37 = .ok (.iload_n 1, 1) := by decide +kernel
theorem dX9_would_38 : decode cX9_would 38 = .ok (.invokevirtual 224, 3) := by decide +kernel
theorem dX9_would_41 : decode cX9_would 41 = .ok (.istore 5, 2) := by decide +kernel
theorem dX9_would_43 : decode cX9_would 43 = .ok (.iload_n 3, 1) := by decide +kernel
theorem dX9_would_44 : decode cX9_would 44 = .ok (.tableswitch 101 0 3 #[32, 56, 71, 86], 32) := by decide +kernel
theorem dX9_would_76 : decode cX9_would 76 = .ok (.iload_n 2, 1) := by decide +kernel
theorem dX9_would_77 : decode cX9_would 77 = .ok (.invokestatic 71, 3) := by decide +kernel
theorem dX9_would_80 : decode cX9_would 80 = .ok (.ifCond .eq 18, 3) := by decide +kernel
theorem dX9_would_83 : decode cX9_would 83 = .ok (.aload_n 0, 1) := by decide +kernel
theorem dX9_would_84 : decode cX9_would 84 = .ok (.getfield 10, 3) := by decide +kernel
theorem dX9_would_87 : decode cX9_would 87 = .ok (.iload_n 1, 1) := by decide +kernel
theorem dX9_would_88 : decode cX9_would 88 = .ok (.iload_n 2, 1) := by decide +kernel
theorem dX9_would_89 : decode cX9_would 89 = .ok (.invokevirtual 91, 3) := by decide +kernel
theorem dX9_would_92 : decode cX9_would 92 = .ok (.invokestatic 160, 3) := by decide +kernel
theorem dX9_would_95 : decode cX9_would 95 = .ok (.goto 4, 3) := by decide +kernel
theorem dX9_would_98 : decode cX9_would 98 = .ok (.iconst (-1), 1) := by decide +kernel
theorem dX9_would_99 : decode cX9_would 99 = .ok (.ireturn, 1) := by decide +kernel
theorem dX9_would_100 : decode cX9_would 100 = .ok (.aload_n 0, 1) := by decide +kernel
theorem dX9_would_101 : decode cX9_would 101 = .ok (.getfield 10, 3) := by decide +kernel
theorem dX9_would_104 : decode cX9_would 104 = .ok (.getfield 175, 3) := by decide +kernel
theorem dX9_would_107 : decode cX9_would 107 = .ok (.iload 4, 2) := by decide +kernel
theorem dX9_would_109 : decode cX9_would 109 = .ok (.iload 5, 2) := by decide +kernel
theorem dX9_would_111 : decode cX9_would 111 = .ok (.invokevirtual 227, 3) := by decide +kernel
theorem dX9_would_114 : decode cX9_would 114 = .ok (.ireturn, 1) := by decide +kernel
theorem dX9_would_115 : decode cX9_would 115 = .ok (.aload_n 0, 1) := by decide +kernel
theorem dX9_would_116 : decode cX9_would 116 = .ok (.getfield 10, 3) := by decide +kernel
theorem dX9_would_119 : decode cX9_would 119 = .ok (.getfield 175, 3) := by decide +kernel
theorem dX9_would_122 : decode cX9_would 122 = .ok (.iload 4, 2) := by decide +kernel
theorem dX9_would_124 : decode cX9_would 124 = .ok (.iload 5, 2) := by decide +kernel
theorem dX9_would_126 : decode cX9_would 126 = .ok (.invokevirtual 230, 3) := by decide +kernel
theorem dX9_would_129 : decode cX9_would 129 = .ok (.ireturn, 1) := by decide +kernel
theorem dX9_would_130 : decode cX9_would 130 = .ok (.aload_n 0, 1) := by decide +kernel
theorem dX9_would_131 : decode cX9_would 131 = .ok (.getfield 10, 3) := by decide +kernel
theorem dX9_would_134 : decode cX9_would 134 = .ok (.getfield 175, 3) := by decide +kernel
theorem dX9_would_137 : decode cX9_would 137 = .ok (.iload 4, 2) := by decide +kernel
theorem dX9_would_139 : decode cX9_would 139 = .ok (.iload 5, 2) := by decide +kernel
theorem dX9_would_141 : decode cX9_would 141 = .ok (.invokevirtual 233, 3) := by decide +kernel
theorem dX9_would_144 : decode cX9_would 144 = .ok (.ireturn, 1) := by decide +kernel
theorem dX9_would_145 : decode cX9_would 145 = .ok (.iconst (-1), 1) := by decide +kernel
theorem dX9_would_146 : decode cX9_would 146 = .ok (.ireturn, 1) := by decide +kernel
theorem dX9_least_0 : decode cX9_least 0 = .ok (.aload_n 0, 1) := by decide +kernel
theorem dX9_least_1 : decode cX9_least 1 = .ok (.getfield 10, 3) := by decide +kernel
theorem dX9_least_4 : decode cX9_least 4 = .ok (.getfield 57, 3) := by decide +kernel
theorem dX9_least_7 : decode cX9_least 7 = .ok (.iload_n 1, 1) := by decide +kernel
theorem dX9_least_8 : decode cX9_least 8 = .ok (.invokevirtual 67, 3) := by decide +kernel
theorem dX9_least_11 : decode cX9_least 11 = .ok (.ifCond .eq 10, 3) := by decide +kernel
theorem dX9_least_14 : decode cX9_least 14 = .ok (.iload_n 2, 1) := by decide +kernel
theorem dX9_least_15 : decode cX9_least 15 = .ok (.invokestatic 71, 3) := by decide +kernel
theorem dX9_least_18 : decode cX9_least 18 = .ok (.ifCond .ne 5, 3) := by decide +kernel
theorem dX9_least_21 : decode cX9_least 21 = .ok (.iconst (-1), 1) := by decide +kernel
theorem dX9_least_22 : decode cX9_least 22 = .ok (.ireturn, 1) := by decide +kernel
theorem dX9_least_23 : decode cX9_least 23 = .ok (.aload_n 0, 1) := by decide +kernel
theorem dX9_least_24 : decode cX9_least 24 = .ok (.getfield 22, 3) := by decide +kernel
theorem dX9_least_27 : decode cX9_least 27 = .ok (.aload_n 0, 1) := by decide +kernel
theorem dX9_least_28 : decode cX9_least 28 = .ok (.getfield 10, 3) := by decide +kernel
theorem dX9_least_31 : decode cX9_least 31 = .ok (.invokevirtual 236, 3) := by decide +kernel
theorem dX9_least_34 : decode cX9_least 34 = .ok (.aload_n 0, 1) := by decide +kernel
theorem dX9_least_35 : decode cX9_least 35 = .ok (.getfield 22, 3) := by decide +kernel
theorem dX9_least_38 : decode cX9_least 38 = .ok (.iload_n 1, 1) := by decide +kernel
theorem dX9_least_39 : decode cX9_least 39 = .ok (.iload_n 2, 1) := by decide +kernel
theorem dX9_least_40 : decode cX9_least 40 = .ok (.invokevirtual 240, 3) := by decide +kernel
theorem dX9_least_43 : decode cX9_least 43 = .ok (.invokestatic 160, 3) := by decide +kernel
theorem dX9_least_46 : decode cX9_least 46 = .ok (.ireturn, 1) := by decide +kernel
theorem dX9_leaked_0 : decode cX9_leaked 0 = .ok (.iload_n 1, 1) := by decide +kernel
theorem dX9_leaked_1 : decode cX9_leaked 1 = .ok (.iconst (-1), 1) := by decide +kernel
theorem dX9_leaked_2 : decode cX9_leaked 2 = .ok (.if_icmp .ge 5, 3) := by decide +kernel
theorem dX9_leaked_5 : decode cX9_leaked 5 = .ok (.iconst (-1), 1) := by decide +kernel
theorem dX9_leaked_6 : decode cX9_leaked 6 = .ok (.ireturn, 1) := by decide +kernel
theorem dX9_leaked_7 : decode cX9_leaked 7 = .ok (.aload_n 0, 1) := by decide +kernel
theorem dX9_leaked_8 : decode cX9_leaked 8 = .ok (.getfield 28, 3) := by decide +kernel
theorem dX9_leaked_11 : decode cX9_leaked 11 = .ok (.aload_n 0, 1) := by decide +kernel
theorem dX9_leaked_12 : decode cX9_leaked 12 = .ok (.getfield 10, 3) := by decide +kernel
theorem dX9_leaked_15 : decode cX9_leaked 15 = .ok (.invokevirtual 243, 3) := by decide +kernel
theorem dX9_leaked_18 : decode cX9_leaked 18 = .ok (.iconst 0, 1) := by decide +kernel
theorem dX9_leaked_19 : decode cX9_leaked 19 = .ok (.istore_n 2, 1) := by decide +kernel
theorem dX9_leaked_20 : decode cX9_leaked 20 = .ok (.iconst 0, 1) := by decide +kernel
theorem dX9_leaked_21 : decode cX9_leaked 21 = .ok (.istore_n 3, 1) := by decide +kernel
theorem dX9_leaked_22 : decode cX9_leaked 22 = .ok (.iload_n 3, 1) := by decide +kernel
theorem dX9_leaked_23 : decode cX9_leaked 23 = .ok (.bipush 30, 2) := by decide +kernel
theorem dX9_leaked_25 : decode cX9_leaked 25 = .ok (.if_icmp .ge 30, 3) := by decide +kernel
theorem dX9_leaked_28 : decode cX9_leaked 28 = .ok (.aload_n 0, 1) := by decide +kernel
theorem dX9_leaked_29 : decode cX9_leaked 29 = .ok (.iload_n 3, 1) := by decide +kernel
theorem dX9_leaked_30 : decode cX9_leaked 30 = .ok (.invokevirtual 246, 3) := by decide +kernel
theorem dX9_leaked_33 : decode cX9_leaked 33 = .ok (.ifCond .ne 6, 3) := by decide +kernel
theorem dX9_leaked_36 : decode cX9_leaked 36 = .ok (.goto 13, 3) := by decide +kernel
theorem dX9_leaked_39 : decode cX9_leaked 39 = .ok (.iload_n 2, 1) := by decide +kernel
theorem dX9_leaked_40 : decode cX9_leaked 40 = .ok (.iload_n 1, 1) := by decide +kernel
theorem dX9_leaked_41 : decode cX9_leaked 41 = .ok (.if_icmp .ne 5, 3) := by decide +kernel
theorem dX9_leaked_44 : decode cX9_leaked 44 = .ok (.iload_n 3, 1) := by decide +kernel
theorem dX9_leaked_45 : decode cX9_leaked 45 = .ok (.ireturn, 1) := by decide +kernel
theorem dX9_leaked_46 : decode cX9_leaked 46 = .ok (.iinc 2 1, 3) := by decide +kernel
theorem dX9_leaked_49 : decode cX9_leaked 49 = .ok (.iinc 3 1, 3) := by decide +kernel
theorem dX9_leaked_52 : decode cX9_leaked 52 = .ok (.goto (-30), 3) := by decide +kernel
theorem dX9_leaked_55 : decode cX9_leaked 55 = .ok (.iload_n 1, 1) := by decide +kernel
theorem dX9_leaked_56 : decode cX9_leaked 56 = .ok (.iconst (-1), 1) := by decide +kernel
theorem dX9_leaked_57 : decode cX9_leaked 57 = .ok (.if_icmp .ne 7, 3) := by decide +kernel
theorem dX9_leaked_60 : decode cX9_leaked 60 = .ok (.iload_n 2, 1) := by decide +kernel
theorem dX9_leaked_61 : decode cX9_leaked 61 = .ok (.goto 5, 3) := by decide +kernel
theorem dX9_leaked_64 : decode cX9_leaked 64 = .ok (.bipush (-2), 2) := by decide +kernel
theorem dX9_leaked_66 : decode cX9_leaked 66 = .ok (.ireturn, 1) := by decide +kernel
theorem dX9_path_0 : decode cX9_path 0 = .ok (.aload_n 0, 1) := by decide +kernel
theorem dX9_path_1 : decode cX9_path 1 = .ok (.getfield 10, 3) := by decide +kernel
theorem dX9_path_4 : decode cX9_path 4 = .ok (.getfield 81, 3) := by decide +kernel
theorem dX9_path_7 : decode cX9_path 7 = .ok (.iload_n 1, 1) := by decide +kernel
theorem dX9_path_8 : decode cX9_path 8 = .ok (.invokevirtual 102, 3) := by decide +kernel
theorem dX9_path_11 : decode cX9_path 11 = .ok (.istore_n 3, 1) := by decide +kernel
theorem dX9_path_12 : decode cX9_path 12 = .ok (.aload_n 0, 1) := by decide +kernel
theorem dX9_path_13 : decode cX9_path 13 = .ok (.getfield 10, 3) := by decide +kernel
theorem dX9_path_16 : decode cX9_path 16 = .ok (.getfield 81, 3) := by decide +kernel
theorem dX9_path_19 : decode cX9_path 19 = .ok (.iload_n 2, 1) := by decide +kernel
theorem dX9_path_20 : decode cX9_path 20 = .ok (.invokevirtual 102, 3) := by decide +kernel
theorem dX9_path_23 : decode cX9_path 23 = .ok (.istore 4, 2) := by decide +kernel
theorem dX9_path_25 : decode cX9_path 25 = .ok (.iload_n 3, 1) := by decide +kernel
theorem dX9_path_26 : decode cX9_path 26 = .ok (.iconst (-1), 1) := by decide +kernel
theorem dX9_path_27 : decode cX9_path 27 = .ok (.if_icmp .eq 9, 3) := by decide +kernel
theorem dX9_path_30 : decode cX9_path 30 = .ok (.iload 4, 2) := by decide +kernel
theorem dX9_path_32 : decode cX9_path 32 = .ok (.iconst (-1), 1) := by decide +kernel
theorem dX9_path_33 : decode cX9_path 33 = .ok (.if_icmp .ne 6, 3) := by decide +kernel
theorem dX9_path_36 : decode cX9_path 36 = .ok (.bipush (-4), 2) := by decide +kernel
theorem dX9_path_38 : decode cX9_path 38 = .ok (.ireturn, 1) := by decide +kernel
theorem dX9_path_39 : decode cX9_path 39 = .ok (.aload_n 0, 1) := by decide +kernel
theorem dX9_path_40 : decode cX9_path 40 = .ok (.getfield 28, 3) := by decide +kernel
theorem dX9_path_43 : decode cX9_path 43 = .ok (.aload_n 0, 1) := by decide +kernel
theorem dX9_path_44 : decode cX9_path 44 = .ok (.getfield 10, 3) := by decide +kernel
theorem dX9_path_47 : decode cX9_path 47 = .ok (.iload_n 3, 1) := by decide +kernel
theorem dX9_path_48 : decode cX9_path 48 = .ok (.invokevirtual 249, 3) := by decide +kernel
theorem dX9_path_51 : decode cX9_path 51 = .ok (.aload_n 0, 1) := by decide +kernel
theorem dX9_path_52 : decode cX9_path 52 = .ok (.getfield 28, 3) := by decide +kernel
theorem dX9_path_55 : decode cX9_path 55 = .ok (.getfield 253, 3) := by decide +kernel
theorem dX9_path_58 : decode cX9_path 58 = .ok (.iload 4, 2) := by decide +kernel
theorem dX9_path_60 : decode cX9_path 60 = .ok (.iaload, 1) := by decide +kernel
theorem dX9_path_61 : decode cX9_path 61 = .ok (.invokestatic 160, 3) := by decide +kernel
theorem dX9_path_64 : decode cX9_path 64 = .ok (.ireturn, 1) := by decide +kernel
theorem dX9_epochs_0 : decode cX9_epochs 0 = .ok (.iload_n 1, 1) := by decide +kernel
theorem dX9_epochs_1 : decode cX9_epochs 1 = .ok (.tableswitch 54 0 2 #[27, 35, 46], 27) := by decide +kernel
theorem dX9_epochs_28 : decode cX9_epochs 28 = .ok (.aload_n 0, 1) := by decide +kernel
theorem dX9_epochs_29 : decode cX9_epochs 29 = .ok (.getfield 10, 3) := by decide +kernel
theorem dX9_epochs_32 : decode cX9_epochs 32 = .ok (.invokevirtual 256, 3) := by decide +kernel
theorem dX9_epochs_35 : decode cX9_epochs 35 = .ok (.ireturn, 1) := by decide +kernel
theorem dX9_epochs_36 : decode cX9_epochs 36 = .ok (.aload_n 0, 1) := by decide +kernel
theorem dX9_epochs_37 : decode cX9_epochs 37 = .ok (.getfield 10, 3) := by decide +kernel
theorem dX9_epochs_40 : decode cX9_epochs 40 = .ok (.invokevirtual 259, 3) := by decide +kernel
theorem dX9_epochs_43 : decode cX9_epochs 43 = .ok (.invokestatic 160, 3) := by decide +kernel
theorem dX9_epochs_46 : decode cX9_epochs 46 = .ok (.ireturn, 1) := by decide +kernel
theorem dX9_epochs_47 : decode cX9_epochs 47 = .ok (.aload_n 0, 1) := by decide +kernel
theorem dX9_epochs_48 : decode cX9_epochs 48 = .ok (.getfield 10, 3) := by decide +kernel
theorem dX9_epochs_51 : decode cX9_epochs 51 = .ok (.invokevirtual 262, 3) := by decide +kernel
theorem dX9_epochs_54 : decode cX9_epochs 54 = .ok (.ireturn, 1) := by decide +kernel
theorem dX9_epochs_55 : decode cX9_epochs 55 = .ok (.iconst (-1), 1) := by decide +kernel
theorem dX9_epochs_56 : decode cX9_epochs 56 = .ok (.ireturn, 1) := by decide +kernel
theorem dX9_plan_0 : decode cX9_plan 0 = .ok (.iload_n 1, 1) := by decide +kernel
theorem dX9_plan_1 : decode cX9_plan 1 = .ok (.invokestatic 265, 3) := by decide +kernel
theorem dX9_plan_4 : decode cX9_plan 4 = .ok (.ifCond .eq 17, 3) := by decide +kernel
theorem dX9_plan_7 : decode cX9_plan 7 = .ok (.aload_n 0, 1) := by decide +kernel
theorem dX9_plan_8 : decode cX9_plan 8 = .ok (.getfield 10, 3) := by decide +kernel
theorem dX9_plan_11 : decode cX9_plan 11 = .ok (.getfield 57, 3) := by decide +kernel
theorem dX9_plan_14 : decode cX9_plan 14 = .ok (.iload_n 2, 1) := by decide +kernel
theorem dX9_plan_15 : decode cX9_plan 15 = .ok (.invokevirtual 67, 3) := by decide +kernel
theorem dX9_plan_18 : decode cX9_plan 18 = .ok (.ifCond .ne 5, 3) := by decide +kernel
theorem dX9_plan_21 : decode cX9_plan 21 = .ok (.iconst (-1), 1) := by decide +kernel
theorem dX9_plan_22 : decode cX9_plan 22 = .ok (.ireturn, 1) := by decide +kernel
theorem dX9_plan_23 : decode cX9_plan 23 = .ok (.aload_n 0, 1) := by decide +kernel
theorem dX9_plan_24 : decode cX9_plan 24 = .ok (.getfield 49, 3) := by decide +kernel
theorem dX9_plan_27 : decode cX9_plan 27 = .ok (.iload_n 1, 1) := by decide +kernel
theorem dX9_plan_28 : decode cX9_plan 28 = .ok (.invokevirtual 268, 3) := by decide +kernel
theorem dX9_plan_31 : decode cX9_plan 31 = .ok (.istore_n 3, 1) := by decide +kernel
theorem dX9_plan_32 : decode cX9_plan 32 = .ok (.iload_n 3, 1) := by decide +kernel
theorem dX9_plan_33 : decode cX9_plan 33 = .ok (.ifCond .eq 5, 3) := by decide +kernel
theorem dX9_plan_36 : decode cX9_plan 36 = .ok (.iload_n 3, 1) := by decide +kernel
theorem dX9_plan_37 : decode cX9_plan 37 = .ok (.ireturn, 1) := by decide +kernel
theorem dX9_plan_38 : decode cX9_plan 38 = .ok (.aload_n 0, 1) := by decide +kernel
theorem dX9_plan_39 : decode cX9_plan 39 = .ok (.getfield 22, 3) := by decide +kernel
theorem dX9_plan_42 : decode cX9_plan 42 = .ok (.getfield 175, 3) := by decide +kernel
theorem dX9_plan_45 : decode cX9_plan 45 = .ok (.aload_n 0, 1) := by decide +kernel
theorem dX9_plan_46 : decode cX9_plan 46 = .ok (.getfield 10, 3) := by decide +kernel
theorem dX9_plan_49 : decode cX9_plan 49 = .ok (.getfield 175, 3) := by decide +kernel
theorem dX9_plan_52 : decode cX9_plan 52 = .ok (.invokevirtual 271, 3) := by decide +kernel
theorem dX9_plan_55 : decode cX9_plan 55 = .ok (.aload_n 0, 1) := by decide +kernel
theorem dX9_plan_56 : decode cX9_plan 56 = .ok (.getfield 35, 3) := by decide +kernel
theorem dX9_plan_59 : decode cX9_plan 59 = .ok (.iconst 0, 1) := by decide +kernel
theorem dX9_plan_60 : decode cX9_plan 60 = .ok (.putfield 274, 3) := by decide +kernel
theorem dX9_plan_63 : decode cX9_plan 63 = .ok (.iconst 0, 1) := by decide +kernel
theorem dX9_plan_64 : decode cX9_plan 64 = .ok (.istore 4, 2) := by decide +kernel
theorem dX9_plan_66 : decode cX9_plan 66 = .ok (.iload 4, 2) := by decide +kernel
theorem dX9_plan_68 : decode cX9_plan 68 = .ok (.aload_n 0, 1) := by decide +kernel
theorem dX9_plan_69 : decode cX9_plan 69 = .ok (.getfield 49, 3) := by decide +kernel
theorem dX9_plan_72 : decode cX9_plan 72 = .ok (.getfield 275, 3) := by decide +kernel
theorem dX9_plan_75 : decode cX9_plan 75 = .ok (.iload_n 1, 1) := by decide +kernel
theorem dX9_plan_76 : decode cX9_plan 76 = .ok (.iaload, 1) := by decide +kernel
theorem dX9_plan_77 : decode cX9_plan 77 = .ok (.if_icmp .ge 30, 3) := by decide +kernel
theorem dX9_plan_80 : decode cX9_plan 80 = .ok (.aload_n 0, 1) := by decide +kernel
theorem dX9_plan_81 : decode cX9_plan 81 = .ok (.aload_n 0, 1) := by decide +kernel
theorem dX9_plan_82 : decode cX9_plan 82 = .ok (.getfield 49, 3) := by decide +kernel
theorem dX9_plan_85 : decode cX9_plan 85 = .ok (.iload_n 1, 1) := by decide +kernel
theorem dX9_plan_86 : decode cX9_plan 86 = .ok (.iload 4, 2) := by decide +kernel
theorem dX9_plan_88 : decode cX9_plan 88 = .ok (.invokevirtual 276, 3) := by decide +kernel
theorem dX9_plan_91 : decode cX9_plan 91 = .ok (.iload_n 2, 1) := by decide +kernel
theorem dX9_plan_92 : decode cX9_plan 92 = .ok (.invokevirtual 279, 3) := by decide +kernel
theorem dX9_plan_95 : decode cX9_plan 95 = .ok (.ifCond .ne 6, 3) := by decide +kernel
theorem dX9_plan_98 : decode cX9_plan 98 = .ok (.iload 4, 2) := by decide +kernel
theorem dX9_plan_100 : decode cX9_plan 100 = .ok (.ireturn, 1) := by decide +kernel
theorem dX9_plan_101 : decode cX9_plan 101 = .ok (.iinc 4 1, 3) := by decide +kernel
theorem dX9_plan_104 : decode cX9_plan 104 = .ok (.goto (-38), 3) := by decide +kernel
theorem dX9_plan_107 : decode cX9_plan 107 = .ok (.bipush (-2), 2) := by decide +kernel
theorem dX9_plan_109 : decode cX9_plan 109 = .ok (.ireturn, 1) := by decide +kernel
theorem dX9_told_0 : decode cX9_told 0 = .ok (.iload_n 1, 1) := by decide +kernel
theorem dX9_told_1 : decode cX9_told 1 = .ok (.invokestatic 265, 3) := by decide +kernel
theorem dX9_told_4 : decode cX9_told 4 = .ok (.ifCond .ne 5, 3) := by decide +kernel
theorem dX9_told_7 : decode cX9_told 7 = .ok (.iconst (-1), 1) := by decide +kernel
theorem dX9_told_8 : decode cX9_told 8 = .ok (.ireturn, 1) := by decide +kernel
theorem dX9_told_9 : decode cX9_told 9 = .ok (.aload_n 0, 1) := by decide +kernel
theorem dX9_told_10 : decode cX9_told 10 = .ok (.getfield 49, 3) := by decide +kernel
theorem dX9_told_13 : decode cX9_told 13 = .ok (.iload_n 1, 1) := by decide +kernel
theorem dX9_told_14 : decode cX9_told 14 = .ok (.invokevirtual 268, 3) := by decide +kernel
theorem dX9_told_17 : decode cX9_told 17 = .ok (.istore_n 3, 1) := by decide +kernel
theorem dX9_told_18 : decode cX9_told 18 = .ok (.iload_n 3, 1) := by decide +kernel
theorem dX9_told_19 : decode cX9_told 19 = .ok (.ifCond .eq 5, 3) := by decide +kernel
theorem dX9_told_22 : decode cX9_told 22 = .ok (.iload_n 3, 1) := by decide +kernel
theorem dX9_told_23 : decode cX9_told 23 = .ok (.ireturn, 1) := by decide +kernel
theorem dX9_told_24 : decode cX9_told 24 = .ok (.aload_n 0, 1) := by decide +kernel
theorem dX9_told_25 : decode cX9_told 25 = .ok (.getfield 10, 3) := by decide +kernel
theorem dX9_told_28 : decode cX9_told 28 = .ok (.getfield 81, 3) := by decide +kernel
theorem dX9_told_31 : decode cX9_told 31 = .ok (.iload_n 2, 1) := by decide +kernel
theorem dX9_told_32 : decode cX9_told 32 = .ok (.invokevirtual 102, 3) := by decide +kernel
theorem dX9_told_35 : decode cX9_told 35 = .ok (.istore 4, 2) := by decide +kernel
theorem dX9_told_37 : decode cX9_told 37 = .ok (.iload 4, 2) := by decide +kernel
theorem dX9_told_39 : decode cX9_told 39 = .ok (.iconst (-1), 1) := by decide +kernel
theorem dX9_told_40 : decode cX9_told 40 = .ok (.if_icmp .ne 6, 3) := by decide +kernel
theorem dX9_told_43 : decode cX9_told 43 = .ok (.bipush (-4), 2) := by decide +kernel
theorem dX9_told_45 : decode cX9_told 45 = .ok (.ireturn, 1) := by decide +kernel
theorem dX9_told_46 : decode cX9_told 46 = .ok (.aload_n 0, 1) := by decide +kernel
theorem dX9_told_47 : decode cX9_told 47 = .ok (.getfield 49, 3) := by decide +kernel
theorem dX9_told_50 : decode cX9_told 50 = .ok (.getfield 275, 3) := by decide +kernel
theorem dX9_told_53 : decode cX9_told 53 = .ok (.iload_n 1, 1) := by decide +kernel
theorem dX9_told_54 : decode cX9_told 54 = .ok (.iaload, 1) := by decide +kernel
theorem dX9_told_55 : decode cX9_told 55 = .ok (.istore 5, 2) := by decide +kernel
theorem dX9_told_57 : decode cX9_told 57 = .ok (.iconst 0, 1) := by decide +kernel
theorem dX9_told_58 : decode cX9_told 58 = .ok (.istore 6, 2) := by decide +kernel
theorem dX9_told_60 : decode cX9_told 60 = .ok (.iload 6, 2) := by decide +kernel
theorem dX9_told_62 : decode cX9_told 62 = .ok (.iload 5, 2) := by decide +kernel
theorem dX9_told_64 : decode cX9_told 64 = .ok (.if_icmp .ge 54, 3) := by decide +kernel
theorem dX9_told_67 : decode cX9_told 67 = .ok (.aload_n 0, 1) := by decide +kernel
theorem dX9_told_68 : decode cX9_told 68 = .ok (.getfield 10, 3) := by decide +kernel
theorem dX9_told_71 : decode cX9_told 71 = .ok (.iload 4, 2) := by decide +kernel
theorem dX9_told_73 : decode cX9_told 73 = .ok (.iload 6, 2) := by decide +kernel
theorem dX9_told_75 : decode cX9_told 75 = .ok (.invokevirtual 132, 3) := by decide +kernel
theorem dX9_told_78 : decode cX9_told 78 = .ok (.istore 7, 2) := by decide +kernel
theorem dX9_told_80 : decode cX9_told 80 = .ok (.iload 7, 2) := by decide +kernel
theorem dX9_told_82 : decode cX9_told 82 = .ok (.iconst (-1), 1) := by decide +kernel
theorem dX9_told_83 : decode cX9_told 83 = .ok (.if_icmp .eq 26, 3) := by decide +kernel
theorem dX9_told_86 : decode cX9_told 86 = .ok (.aload_n 0, 1) := by decide +kernel
theorem dX9_told_87 : decode cX9_told 87 = .ok (.getfield 10, 3) := by decide +kernel
theorem dX9_told_90 : decode cX9_told 90 = .ok (.getfield 136, 3) := by decide +kernel
theorem dX9_told_93 : decode cX9_told 93 = .ok (.iload 7, 2) := by decide +kernel
theorem dX9_told_95 : decode cX9_told 95 = .ok (.iaload, 1) := by decide +kernel
theorem dX9_told_96 : decode cX9_told 96 = .ok (.aload_n 0, 1) := by decide +kernel
theorem dX9_told_97 : decode cX9_told 97 = .ok (.getfield 49, 3) := by decide +kernel
theorem dX9_told_100 : decode cX9_told 100 = .ok (.iload_n 1, 1) := by decide +kernel
theorem dX9_told_101 : decode cX9_told 101 = .ok (.iload 6, 2) := by decide +kernel
theorem dX9_told_103 : decode cX9_told 103 = .ok (.invokevirtual 276, 3) := by decide +kernel
theorem dX9_told_106 : decode cX9_told 106 = .ok (.if_icmp .eq 6, 3) := by decide +kernel
theorem dX9_told_109 : decode cX9_told 109 = .ok (.iload 6, 2) := by decide +kernel
theorem dX9_told_111 : decode cX9_told 111 = .ok (.ireturn, 1) := by decide +kernel
theorem dX9_told_112 : decode cX9_told 112 = .ok (.iinc 6 1, 3) := by decide +kernel
theorem dX9_told_115 : decode cX9_told 115 = .ok (.goto (-55), 3) := by decide +kernel
theorem dX9_told_118 : decode cX9_told 118 = .ok (.iload 5, 2) := by decide +kernel
theorem dX9_told_120 : decode cX9_told 120 = .ok (.aload_n 0, 1) := by decide +kernel
theorem dX9_told_121 : decode cX9_told 121 = .ok (.getfield 10, 3) := by decide +kernel
theorem dX9_told_124 : decode cX9_told 124 = .ok (.getfield 81, 3) := by decide +kernel
theorem dX9_told_127 : decode cX9_told 127 = .ok (.getfield 120, 3) := by decide +kernel
theorem dX9_told_130 : decode cX9_told 130 = .ok (.iload 4, 2) := by decide +kernel
theorem dX9_told_132 : decode cX9_told 132 = .ok (.iaload, 1) := by decide +kernel
theorem dX9_told_133 : decode cX9_told 133 = .ok (.if_icmp .ge 8, 3) := by decide +kernel
theorem dX9_told_136 : decode cX9_told 136 = .ok (.iload 5, 2) := by decide +kernel
theorem dX9_told_138 : decode cX9_told 138 = .ok (.goto 5, 3) := by decide +kernel
theorem dX9_told_141 : decode cX9_told 141 = .ok (.bipush (-2), 2) := by decide +kernel
theorem dX9_told_143 : decode cX9_told 143 = .ok (.ireturn, 1) := by decide +kernel
theorem dX9_feed_0 : decode cX9_feed 0 = .ok (.iload_n 1, 1) := by decide +kernel
theorem dX9_feed_1 : decode cX9_feed 1 = .ok (.ifCond .lt 10, 3) := by decide +kernel
theorem dX9_feed_4 : decode cX9_feed 4 = .ok (.iload_n 1, 1) := by decide +kernel
theorem dX9_feed_5 : decode cX9_feed 5 = .ok (.sipush 255, 3) := by decide +kernel
theorem dX9_feed_8 : decode cX9_feed 8 = .ok (.if_icmp .le 5, 3) := by decide +kernel
theorem dX9_feed_11 : decode cX9_feed 11 = .ok (.iconst (-1), 1) := by decide +kernel
theorem dX9_feed_12 : decode cX9_feed 12 = .ok (.ireturn, 1) := by decide +kernel
theorem dX9_feed_13 : decode cX9_feed 13 = .ok (.aload_n 0, 1) := by decide +kernel
theorem dX9_feed_14 : decode cX9_feed 14 = .ok (.getfield 42, 3) := by decide +kernel
theorem dX9_feed_17 : decode cX9_feed 17 = .ok (.iload_n 1, 1) := by decide +kernel
theorem dX9_feed_18 : decode cX9_feed 18 = .ok (.invokevirtual 282, 3) := by decide +kernel
theorem dX9_feed_21 : decode cX9_feed 21 = .ok (.ifCond .eq 13, 3) := by decide +kernel
theorem dX9_feed_24 : decode cX9_feed 24 = .ok (.aload_n 0, 1) := by decide +kernel
theorem dX9_feed_25 : decode cX9_feed 25 = .ok (.getfield 42, 3) := by decide +kernel
theorem dX9_feed_28 : decode cX9_feed 28 = .ok (.getfield 285, 3) := by decide +kernel
theorem dX9_feed_31 : decode cX9_feed 31 = .ok (.goto 5, 3) := by decide +kernel
theorem dX9_feed_34 : decode cX9_feed 34 = .ok (.bipush (-3), 2) := by decide +kernel
theorem dX9_feed_36 : decode cX9_feed 36 = .ok (.ireturn, 1) := by decide +kernel
theorem dX9_script_0 : decode cX9_script 0 = .ok (.aload_n 0, 1) := by decide +kernel
theorem dX9_script_1 : decode cX9_script 1 = .ok (.getfield 42, 3) := by decide +kernel
theorem dX9_script_4 : decode cX9_script 4 = .ok (.invokevirtual 286, 3) := by decide +kernel
theorem dX9_script_7 : decode cX9_script 7 = .ok (.istore_n 1, 1) := by decide +kernel
theorem dX9_script_8 : decode cX9_script 8 = .ok (.aload_n 0, 1) := by decide +kernel
theorem dX9_script_9 : decode cX9_script 9 = .ok (.getfield 42, 3) := by decide +kernel
theorem dX9_script_12 : decode cX9_script 12 = .ok (.iconst 0, 1) := by decide +kernel
theorem dX9_script_13 : decode cX9_script 13 = .ok (.putfield 285, 3) := by decide +kernel
theorem dX9_script_16 : decode cX9_script 16 = .ok (.iload_n 1, 1) := by decide +kernel
theorem dX9_script_17 : decode cX9_script 17 = .ok (.ifCond .ne 15, 3) := by decide +kernel
theorem dX9_script_20 : decode cX9_script 20 = .ok (.sipush (-1000), 3) := by decide +kernel
theorem dX9_script_23 : decode cX9_script 23 = .ok (.aload_n 0, 1) := by decide +kernel
theorem dX9_script_24 : decode cX9_script 24 = .ok (.getfield 42, 3) := by decide +kernel
theorem dX9_script_27 : decode cX9_script 27 = .ok (.getfield 290, 3) := by decide +kernel
theorem dX9_script_30 : decode cX9_script 30 = .ok (.isub, 1) := by decide +kernel
theorem dX9_script_31 : decode cX9_script 31 = .ok (.ireturn, 1) := by decide +kernel
theorem dX9_script_32 : decode cX9_script 32 = .ok (.aload_n 0, 1) := by decide +kernel
theorem dX9_script_33 : decode cX9_script 33 = .ok (.getfield 19, 3) := by decide +kernel
theorem dX9_script_36 : decode cX9_script 36 = .ok (.aload_n 0, 1) := by decide +kernel
theorem dX9_script_37 : decode cX9_script 37 = .ok (.getfield 10, 3) := by decide +kernel
theorem dX9_script_40 : decode cX9_script 40 = .ok (.invokevirtual 236, 3) := by decide +kernel
theorem dX9_script_43 : decode cX9_script 43 = .ok (.iconst 0, 1) := by decide +kernel
theorem dX9_script_44 : decode cX9_script 44 = .ok (.istore_n 2, 1) := by decide +kernel
theorem dX9_script_45 : decode cX9_script 45 = .ok (.iload_n 2, 1) := by decide +kernel
theorem dX9_script_46 : decode cX9_script 46 = .ok (.aload_n 0, 1) := by decide +kernel
theorem dX9_script_47 : decode cX9_script 47 = .ok (.getfield 42, 3) := by decide +kernel
theorem dX9_script_50 : decode cX9_script 50 = .ok (.getfield 293, 3) := by decide +kernel
theorem dX9_script_53 : decode cX9_script 53 = .ok (.if_icmp .ge 34, 3) := by decide +kernel
theorem dX9_script_56 : decode cX9_script 56 = .ok (.aload_n 0, 1) := by decide +kernel
theorem dX9_script_57 : decode cX9_script 57 = .ok (.iload_n 2, 1) := by decide +kernel
theorem dX9_script_58 : decode cX9_script 58 = .ok (.invokevirtual 296, 3) := by decide +kernel
theorem dX9_script_61 : decode cX9_script 61 = .ok (.ifCond .ge 20, 3) := by decide +kernel
theorem dX9_script_64 : decode cX9_script 64 = .ok (.aload_n 0, 1) := by decide +kernel
theorem dX9_script_65 : decode cX9_script 65 = .ok (.getfield 10, 3) := by decide +kernel
theorem dX9_script_68 : decode cX9_script 68 = .ok (.aload_n 0, 1) := by decide +kernel
theorem dX9_script_69 : decode cX9_script 69 = .ok (.getfield 19, 3) := by decide +kernel
theorem dX9_script_72 : decode cX9_script 72 = .ok (.invokevirtual 236, 3) := by decide +kernel
theorem dX9_script_75 : decode cX9_script 75 = .ok (.sipush (-2000), 3) := by decide +kernel
theorem dX9_script_78 : decode cX9_script 78 = .ok (.iload_n 2, 1) := by decide +kernel
theorem dX9_script_79 : decode cX9_script 79 = .ok (.isub, 1) := by decide +kernel
theorem dX9_script_80 : decode cX9_script 80 = .ok (.ireturn, 1) := by decide +kernel
theorem dX9_script_81 : decode cX9_script 81 = .ok (.iinc 2 1, 3) := by decide +kernel
theorem dX9_script_84 : decode cX9_script 84 = .ok (.goto (-39), 3) := by decide +kernel
theorem dX9_script_87 : decode cX9_script 87 = .ok (.aload_n 0, 1) := by decide +kernel
theorem dX9_script_88 : decode cX9_script 88 = .ok (.getfield 42, 3) := by decide +kernel
theorem dX9_script_91 : decode cX9_script 91 = .ok (.getfield 293, 3) := by decide +kernel
theorem dX9_script_94 : decode cX9_script 94 = .ok (.ireturn, 1) := by decide +kernel
theorem dX9_image_0 : decode cX9_image 0 = .ok (.aload_n 0, 1) := by decide +kernel
theorem dX9_image_1 : decode cX9_image 1 = .ok (.getfield 16, 3) := by decide +kernel
theorem dX9_image_4 : decode cX9_image 4 = .ok (.aload_n 0, 1) := by decide +kernel
theorem dX9_image_5 : decode cX9_image 5 = .ok (.getfield 10, 3) := by decide +kernel
theorem dX9_image_8 : decode cX9_image 8 = .ok (.invokevirtual 236, 3) := by decide +kernel
theorem dX9_image_11 : decode cX9_image 11 = .ok (.aload_n 0, 1) := by decide +kernel
theorem dX9_image_12 : decode cX9_image 12 = .ok (.iconst 1, 1) := by decide +kernel
theorem dX9_image_13 : decode cX9_image 13 = .ok (.putfield 53, 3) := by decide +kernel
theorem dX9_image_16 : decode cX9_image 16 = .ok (.aload_n 0, 1) := by decide +kernel
theorem dX9_image_17 : decode cX9_image 17 = .ok (.getfield 10, 3) := by decide +kernel
theorem dX9_image_20 : decode cX9_image 20 = .ok (.getfield 81, 3) := by decide +kernel
theorem dX9_image_23 : decode cX9_image 23 = .ok (.iconst 1, 1) := by decide +kernel
theorem dX9_image_24 : decode cX9_image 24 = .ok (.invokevirtual 299, 3) := by decide +kernel
theorem dX9_image_27 : decode cX9_image 27 = .ok (.ireturn, 1) := by decide +kernel
theorem dX9_back_0 : decode cX9_back 0 = .ok (.aload_n 0, 1) := by decide +kernel
theorem dX9_back_1 : decode cX9_back 1 = .ok (.getfield 53, 3) := by decide +kernel
theorem dX9_back_4 : decode cX9_back 4 = .ok (.ifCond .ne 6, 3) := by decide +kernel
theorem dX9_back_7 : decode cX9_back 7 = .ok (.bipush (-5), 2) := by decide +kernel
theorem dX9_back_9 : decode cX9_back 9 = .ok (.ireturn, 1) := by decide +kernel
theorem dX9_back_10 : decode cX9_back 10 = .ok (.aload_n 0, 1) := by decide +kernel
theorem dX9_back_11 : decode cX9_back 11 = .ok (.getfield 10, 3) := by decide +kernel
theorem dX9_back_14 : decode cX9_back 14 = .ok (.aload_n 0, 1) := by decide +kernel
theorem dX9_back_15 : decode cX9_back 15 = .ok (.getfield 16, 3) := by decide +kernel
theorem dX9_back_18 : decode cX9_back 18 = .ok (.invokevirtual 236, 3) := by decide +kernel
theorem dX9_back_21 : decode cX9_back 21 = .ok (.aload_n 0, 1) := by decide +kernel
theorem dX9_back_22 : decode cX9_back 22 = .ok (.getfield 10, 3) := by decide +kernel
theorem dX9_back_25 : decode cX9_back 25 = .ok (.getfield 81, 3) := by decide +kernel
theorem dX9_back_28 : decode cX9_back 28 = .ok (.iconst 1, 1) := by decide +kernel
theorem dX9_back_29 : decode cX9_back 29 = .ok (.invokevirtual 299, 3) := by decide +kernel
theorem dX9_back_32 : decode cX9_back 32 = .ok (.ireturn, 1) := by decide +kernel
theorem dX9_hold_0 : decode cX9_hold 0 = .ok (.iload_n 1, 1) := by decide +kernel
theorem dX9_hold_1 : decode cX9_hold 1 = .ok (.invokestatic 265, 3) := by decide +kernel
theorem dX9_hold_4 : decode cX9_hold 4 = .ok (.ifCond .ne 5, 3) := by decide +kernel
theorem dX9_hold_7 : decode cX9_hold 7 = .ok (.iconst (-1), 1) := by decide +kernel
theorem dX9_hold_8 : decode cX9_hold 8 = .ok (.ireturn, 1) := by decide +kernel
theorem dX9_hold_9 : decode cX9_hold 9 = .ok (.iload_n 2, 1) := by decide +kernel
theorem dX9_hold_10 : decode cX9_hold 10 = .ok (.iconst (-1), 1) := by decide +kernel
theorem dX9_hold_11 : decode cX9_hold 11 = .ok (.if_icmp .ne 15, 3) := by decide +kernel
theorem dX9_hold_14 : decode cX9_hold 14 = .ok (.aload_n 0, 1) := by decide +kernel
theorem dX9_hold_15 : decode cX9_hold 15 = .ok (.getfield 49, 3) := by decide +kernel
theorem dX9_hold_18 : decode cX9_hold 18 = .ok (.getfield 302, 3) := by decide +kernel
theorem dX9_hold_21 : decode cX9_hold 21 = .ok (.iload_n 1, 1) := by decide +kernel
theorem dX9_hold_22 : decode cX9_hold 22 = .ok (.iconst 0, 1) := by decide +kernel
theorem dX9_hold_23 : decode cX9_hold 23 = .ok (.iastore, 1) := by decide +kernel
theorem dX9_hold_24 : decode cX9_hold 24 = .ok (.iconst 1, 1) := by decide +kernel
theorem dX9_hold_25 : decode cX9_hold 25 = .ok (.ireturn, 1) := by decide +kernel
theorem dX9_hold_26 : decode cX9_hold 26 = .ok (.aload_n 0, 1) := by decide +kernel
theorem dX9_hold_27 : decode cX9_hold 27 = .ok (.getfield 10, 3) := by decide +kernel
theorem dX9_hold_30 : decode cX9_hold 30 = .ok (.getfield 81, 3) := by decide +kernel
theorem dX9_hold_33 : decode cX9_hold 33 = .ok (.iload_n 2, 1) := by decide +kernel
theorem dX9_hold_34 : decode cX9_hold 34 = .ok (.invokevirtual 102, 3) := by decide +kernel
theorem dX9_hold_37 : decode cX9_hold 37 = .ok (.iconst (-1), 1) := by decide +kernel
theorem dX9_hold_38 : decode cX9_hold 38 = .ok (.if_icmp .ne 6, 3) := by decide +kernel
theorem dX9_hold_41 : decode cX9_hold 41 = .ok (.bipush (-4), 2) := by decide +kernel
theorem dX9_hold_43 : decode cX9_hold 43 = .ok (.ireturn, 1) := by decide +kernel
theorem dX9_hold_44 : decode cX9_hold 44 = .ok (.aload_n 0, 1) := by decide +kernel
theorem dX9_hold_45 : decode cX9_hold 45 = .ok (.getfield 49, 3) := by decide +kernel
theorem dX9_hold_48 : decode cX9_hold 48 = .ok (.getfield 302, 3) := by decide +kernel
theorem dX9_hold_51 : decode cX9_hold 51 = .ok (.iload_n 1, 1) := by decide +kernel
theorem dX9_hold_52 : decode cX9_hold 52 = .ok (.iconst 1, 1) := by decide +kernel
theorem dX9_hold_53 : decode cX9_hold 53 = .ok (.iastore, 1) := by decide +kernel
theorem dX9_hold_54 : decode cX9_hold 54 = .ok (.aload_n 0, 1) := by decide +kernel
theorem dX9_hold_55 : decode cX9_hold 55 = .ok (.getfield 49, 3) := by decide +kernel
theorem dX9_hold_58 : decode cX9_hold 58 = .ok (.getfield 305, 3) := by decide +kernel
theorem dX9_hold_61 : decode cX9_hold 61 = .ok (.iload_n 1, 1) := by decide +kernel
theorem dX9_hold_62 : decode cX9_hold 62 = .ok (.iload_n 2, 1) := by decide +kernel
theorem dX9_hold_63 : decode cX9_hold 63 = .ok (.iastore, 1) := by decide +kernel
theorem dX9_hold_64 : decode cX9_hold 64 = .ok (.iconst 1, 1) := by decide +kernel
theorem dX9_hold_65 : decode cX9_hold 65 = .ok (.ireturn, 1) := by decide +kernel
theorem dX9_row_0 : decode cX9_row 0 = .ok (.iload_n 1, 1) := by decide +kernel
theorem dX9_row_1 : decode cX9_row 1 = .ok (.invokestatic 265, 3) := by decide +kernel
theorem dX9_row_4 : decode cX9_row 4 = .ok (.ifCond .eq 9, 3) := by decide +kernel
theorem dX9_row_7 : decode cX9_row 7 = .ok (.iload_n 2, 1) := by decide +kernel
theorem dX9_row_8 : decode cX9_row 8 = .ok (.bipush 60, 2) := by decide +kernel
theorem dX9_row_10 : decode cX9_row 10 = .ok (.if_icmp .le 5, 3) := by decide +kernel
theorem dX9_row_13 : decode cX9_row 13 = .ok (.iconst (-1), 1) := by decide +kernel
theorem dX9_row_14 : decode cX9_row 14 = .ok (.ireturn, 1) := by decide +kernel
theorem dX9_row_15 : decode cX9_row 15 = .ok (.iload_n 2, 1) := by decide +kernel
theorem dX9_row_16 : decode cX9_row 16 = .ok (.ifCond .ge 6, 3) := by decide +kernel
theorem dX9_row_19 : decode cX9_row 19 = .ok (.bipush (-14), 2) := by decide +kernel
theorem dX9_row_21 : decode cX9_row 21 = .ok (.ireturn, 1) := by decide +kernel
theorem dX9_row_22 : decode cX9_row 22 = .ok (.aload_n 0, 1) := by decide +kernel
theorem dX9_row_23 : decode cX9_row 23 = .ok (.getfield 49, 3) := by decide +kernel
theorem dX9_row_26 : decode cX9_row 26 = .ok (.iload_n 1, 1) := by decide +kernel
theorem dX9_row_27 : decode cX9_row 27 = .ok (.iload_n 2, 1) := by decide +kernel
theorem dX9_row_28 : decode cX9_row 28 = .ok (.invokevirtual 308, 3) := by decide +kernel
theorem dX9_row_31 : decode cX9_row 31 = .ok (.iconst 1, 1) := by decide +kernel
theorem dX9_row_32 : decode cX9_row 32 = .ok (.ireturn, 1) := by decide +kernel
theorem dX9_put_0 : decode cX9_put 0 = .ok (.iload_n 1, 1) := by decide +kernel
theorem dX9_put_1 : decode cX9_put 1 = .ok (.invokestatic 265, 3) := by decide +kernel
theorem dX9_put_4 : decode cX9_put 4 = .ok (.ifCond .eq 15, 3) := by decide +kernel
theorem dX9_put_7 : decode cX9_put 7 = .ok (.aload_n 0, 1) := by decide +kernel
theorem dX9_put_8 : decode cX9_put 8 = .ok (.getfield 49, 3) := by decide +kernel
theorem dX9_put_11 : decode cX9_put 11 = .ok (.iload_n 1, 1) := by decide +kernel
theorem dX9_put_12 : decode cX9_put 12 = .ok (.iload_n 2, 1) := by decide +kernel
theorem dX9_put_13 : decode cX9_put 13 = .ok (.invokevirtual 311, 3) := by decide +kernel
theorem dX9_put_16 : decode cX9_put 16 = .ok (.ifCond .ne 6, 3) := by decide +kernel
theorem dX9_put_19 : decode cX9_put 19 = .ok (.ldc 135, 2) := by decide +kernel
theorem dX9_put_21 : decode cX9_put 21 = .ok (.ireturn, 1) := by decide +kernel
theorem dX9_put_22 : decode cX9_put 22 = .ok (.aload_n 0, 1) := by decide +kernel
theorem dX9_put_23 : decode cX9_put 23 = .ok (.getfield 49, 3) := by decide +kernel
theorem dX9_put_26 : decode cX9_put 26 = .ok (.iload_n 1, 1) := by decide +kernel
theorem dX9_put_27 : decode cX9_put 27 = .ok (.iload_n 2, 1) := by decide +kernel
theorem dX9_put_28 : decode cX9_put 28 = .ok (.invokevirtual 276, 3) := by decide +kernel
theorem dX9_put_31 : decode cX9_put 31 = .ok (.istore 4, 2) := by decide +kernel
theorem dX9_put_33 : decode cX9_put 33 = .ok (.aload_n 0, 1) := by decide +kernel
theorem dX9_put_34 : decode cX9_put 34 = .ok (.getfield 49, 3) := by decide +kernel
theorem dX9_put_37 : decode cX9_put 37 = .ok (.iload_n 1, 1) := by decide +kernel
theorem dX9_put_38 : decode cX9_put 38 = .ok (.iload_n 2, 1) := by decide +kernel
theorem dX9_put_39 : decode cX9_put 39 = .ok (.iload_n 3, 1) := by decide +kernel
theorem dX9_put_40 : decode cX9_put 40 = .ok (.invokevirtual 314, 3) := by decide +kernel
theorem dX9_put_43 : decode cX9_put 43 = .ok (.iload 4, 2) := by decide +kernel
theorem dX9_put_45 : decode cX9_put 45 = .ok (.ireturn, 1) := by decide +kernel
theorem dX9_tells_0 : decode cX9_tells 0 = .ok (.iload_n 1, 1) := by decide +kernel
theorem dX9_tells_1 : decode cX9_tells 1 = .ok (.invokestatic 265, 3) := by decide +kernel
theorem dX9_tells_4 : decode cX9_tells 4 = .ok (.ifCond .eq 12, 3) := by decide +kernel
theorem dX9_tells_7 : decode cX9_tells 7 = .ok (.iload_n 2, 1) := by decide +kernel
theorem dX9_tells_8 : decode cX9_tells 8 = .ok (.ifCond .lt 8, 3) := by decide +kernel
theorem dX9_tells_11 : decode cX9_tells 11 = .ok (.iload_n 2, 1) := by decide +kernel
theorem dX9_tells_12 : decode cX9_tells 12 = .ok (.iconst 3, 1) := by decide +kernel
theorem dX9_tells_13 : decode cX9_tells 13 = .ok (.if_icmp .le 5, 3) := by decide +kernel
theorem dX9_tells_16 : decode cX9_tells 16 = .ok (.iconst (-1), 1) := by decide +kernel
theorem dX9_tells_17 : decode cX9_tells 17 = .ok (.ireturn, 1) := by decide +kernel
theorem dX9_tells_18 : decode cX9_tells 18 = .ok (.aload_n 0, 1) := by decide +kernel
theorem dX9_tells_19 : decode cX9_tells 19 = .ok (.getfield 49, 3) := by decide +kernel
theorem dX9_tells_22 : decode cX9_tells 22 = .ok (.getfield 302, 3) := by decide +kernel
theorem dX9_tells_25 : decode cX9_tells 25 = .ok (.iload_n 1, 1) := by decide +kernel
theorem dX9_tells_26 : decode cX9_tells 26 = .ok (.iaload, 1) := by decide +kernel
theorem dX9_tells_27 : decode cX9_tells 27 = .ok (.ifCond .ne 6, 3) := by decide +kernel
theorem dX9_tells_30 : decode cX9_tells 30 = .ok (.bipush (-11), 2) := by decide +kernel
theorem dX9_tells_32 : decode cX9_tells 32 = .ok (.ireturn, 1) := by decide +kernel
theorem dX9_tells_33 : decode cX9_tells 33 = .ok (.aload_n 0, 1) := by decide +kernel
theorem dX9_tells_34 : decode cX9_tells 34 = .ok (.getfield 49, 3) := by decide +kernel
theorem dX9_tells_37 : decode cX9_tells 37 = .ok (.getfield 302, 3) := by decide +kernel
theorem dX9_tells_40 : decode cX9_tells 40 = .ok (.iload_n 1, 1) := by decide +kernel
theorem dX9_tells_41 : decode cX9_tells 41 = .ok (.iaload, 1) := by decide +kernel
theorem dX9_tells_42 : decode cX9_tells 42 = .ok (.iconst 2, 1) := by decide +kernel
theorem dX9_tells_43 : decode cX9_tells 43 = .ok (.if_icmp .ne 6, 3) := by decide +kernel
theorem dX9_tells_46 : decode cX9_tells 46 = .ok (.bipush (-12), 2) := by decide +kernel
theorem dX9_tells_48 : decode cX9_tells 48 = .ok (.ireturn, 1) := by decide +kernel
theorem dX9_tells_49 : decode cX9_tells 49 = .ok (.aload_n 0, 1) := by decide +kernel
theorem dX9_tells_50 : decode cX9_tells 50 = .ok (.aload_n 0, 1) := by decide +kernel
theorem dX9_tells_51 : decode cX9_tells 51 = .ok (.getfield 49, 3) := by decide +kernel
theorem dX9_tells_54 : decode cX9_tells 54 = .ok (.getfield 305, 3) := by decide +kernel
theorem dX9_tells_57 : decode cX9_tells 57 = .ok (.iload_n 1, 1) := by decide +kernel
theorem dX9_tells_58 : decode cX9_tells 58 = .ok (.iaload, 1) := by decide +kernel
theorem dX9_tells_59 : decode cX9_tells 59 = .ok (.iload_n 2, 1) := by decide +kernel
theorem dX9_tells_60 : decode cX9_tells 60 = .ok (.invokevirtual 318, 3) := by decide +kernel
theorem dX9_tells_63 : decode cX9_tells 63 = .ok (.ireturn, 1) := by decide +kernel
theorem dX9_count_0 : decode cX9_count 0 = .ok (.iload_n 1, 1) := by decide +kernel
theorem dX9_count_1 : decode cX9_count 1 = .ok (.tableswitch 128 0 7 #[47, 58, 70, 82, 93, 101, 112, 120], 47) := by decide +kernel
theorem dX9_count_48 : decode cX9_count 48 = .ok (.aload_n 0, 1) := by decide +kernel
theorem dX9_count_49 : decode cX9_count 49 = .ok (.getfield 10, 3) := by decide +kernel
theorem dX9_count_52 : decode cX9_count 52 = .ok (.getfield 57, 3) := by decide +kernel
theorem dX9_count_55 : decode cX9_count 55 = .ok (.getfield 321, 3) := by decide +kernel
theorem dX9_count_58 : decode cX9_count 58 = .ok (.ireturn, 1) := by decide +kernel
theorem dX9_count_59 : decode cX9_count 59 = .ok (.aload_n 0, 1) := by decide +kernel
theorem dX9_count_60 : decode cX9_count 60 = .ok (.getfield 10, 3) := by decide +kernel
theorem dX9_count_63 : decode cX9_count 63 = .ok (.getfield 81, 3) := by decide +kernel
theorem dX9_count_66 : decode cX9_count 66 = .ok (.iconst 1, 1) := by decide +kernel
theorem dX9_count_67 : decode cX9_count 67 = .ok (.invokevirtual 299, 3) := by decide +kernel
theorem dX9_count_70 : decode cX9_count 70 = .ok (.ireturn, 1) := by decide +kernel
theorem dX9_count_71 : decode cX9_count 71 = .ok (.aload_n 0, 1) := by decide +kernel
theorem dX9_count_72 : decode cX9_count 72 = .ok (.getfield 10, 3) := by decide +kernel
theorem dX9_count_75 : decode cX9_count 75 = .ok (.getfield 81, 3) := by decide +kernel
theorem dX9_count_78 : decode cX9_count 78 = .ok (.iconst 2, 1) := by decide +kernel
theorem dX9_count_79 : decode cX9_count 79 = .ok (.invokevirtual 299, 3) := by decide +kernel
theorem dX9_count_82 : decode cX9_count 82 = .ok (.ireturn, 1) := by decide +kernel
theorem dX9_count_83 : decode cX9_count 83 = .ok (.aload_n 0, 1) := by decide +kernel
theorem dX9_count_84 : decode cX9_count 84 = .ok (.getfield 10, 3) := by decide +kernel
theorem dX9_count_87 : decode cX9_count 87 = .ok (.getfield 197, 3) := by decide +kernel
theorem dX9_count_90 : decode cX9_count 90 = .ok (.getfield 201, 3) := by decide +kernel
theorem dX9_count_93 : decode cX9_count 93 = .ok (.ireturn, 1) := by decide +kernel
theorem dX9_count_94 : decode cX9_count 94 = .ok (.aload_n 0, 1) := by decide +kernel
theorem dX9_count_95 : decode cX9_count 95 = .ok (.getfield 10, 3) := by decide +kernel
theorem dX9_count_98 : decode cX9_count 98 = .ok (.getfield 113, 3) := by decide +kernel
theorem dX9_count_101 : decode cX9_count 101 = .ok (.ireturn, 1) := by decide +kernel
theorem dX9_count_102 : decode cX9_count 102 = .ok (.aload_n 0, 1) := by decide +kernel
theorem dX9_count_103 : decode cX9_count 103 = .ok (.getfield 10, 3) := by decide +kernel
theorem dX9_count_106 : decode cX9_count 106 = .ok (.getfield 81, 3) := by decide +kernel
theorem dX9_count_109 : decode cX9_count 109 = .ok (.invokevirtual 322, 3) := by decide +kernel
theorem dX9_count_112 : decode cX9_count 112 = .ok (.ireturn, 1) := by decide +kernel
theorem dX9_count_113 : decode cX9_count 113 = .ok (.aload_n 0, 1) := by decide +kernel
theorem dX9_count_114 : decode cX9_count 114 = .ok (.getfield 42, 3) := by decide +kernel
theorem dX9_count_117 : decode cX9_count 117 = .ok (.getfield 285, 3) := by decide +kernel
theorem dX9_count_120 : decode cX9_count 120 = .ok (.ireturn, 1) := by decide +kernel
theorem dX9_count_121 : decode cX9_count 121 = .ok (.aload_n 0, 1) := by decide +kernel
theorem dX9_count_122 : decode cX9_count 122 = .ok (.getfield 49, 3) := by decide +kernel
theorem dX9_count_125 : decode cX9_count 125 = .ok (.invokevirtual 325, 3) := by decide +kernel
theorem dX9_count_128 : decode cX9_count 128 = .ok (.ireturn, 1) := by decide +kernel
theorem dX9_count_129 : decode cX9_count 129 = .ok (.iconst (-1), 1) := by decide +kernel
theorem dX9_count_130 : decode cX9_count 130 = .ok (.ireturn, 1) := by decide +kernel
theorem dX9_isBlockLength_0 : decode cX9_isBlockLength 0 = .ok (.iload_n 0, 1) := by decide +kernel
theorem dX9_isBlockLength_1 : decode cX9_isBlockLength 1 = .ok (.iconst 1, 1) := by decide +kernel
theorem dX9_isBlockLength_2 : decode cX9_isBlockLength 2 = .ok (.if_icmp .lt 13, 3) := by decide +kernel
theorem dX9_isBlockLength_5 : decode cX9_isBlockLength 5 = .ok (.iload_n 0, 1) := by decide +kernel
theorem dX9_isBlockLength_6 : decode cX9_isBlockLength 6 = .ok (.bipush 40, 2) := by decide +kernel
theorem dX9_isBlockLength_8 : decode cX9_isBlockLength 8 = .ok (.if_icmp .gt 7, 3) := by decide +kernel
theorem dX9_isBlockLength_11 : decode cX9_isBlockLength 11 = .ok (.iconst 1, 1) := by decide +kernel
theorem dX9_isBlockLength_12 : decode cX9_isBlockLength 12 = .ok (.goto 4, 3) := by decide +kernel
theorem dX9_isBlockLength_15 : decode cX9_isBlockLength 15 = .ok (.iconst 0, 1) := by decide +kernel
theorem dX9_isBlockLength_16 : decode cX9_isBlockLength 16 = .ok (.ireturn, 1) := by decide +kernel
theorem dX9_isOwner_0 : decode cX9_isOwner 0 = .ok (.iload_n 0, 1) := by decide +kernel
theorem dX9_isOwner_1 : decode cX9_isOwner 1 = .ok (.ifCond .lt 13, 3) := by decide +kernel
theorem dX9_isOwner_4 : decode cX9_isOwner 4 = .ok (.iload_n 0, 1) := by decide +kernel
theorem dX9_isOwner_5 : decode cX9_isOwner 5 = .ok (.bipush 10, 2) := by decide +kernel
theorem dX9_isOwner_7 : decode cX9_isOwner 7 = .ok (.if_icmp .ge 7, 3) := by decide +kernel
theorem dX9_isOwner_10 : decode cX9_isOwner 10 = .ok (.iconst 1, 1) := by decide +kernel
theorem dX9_isOwner_11 : decode cX9_isOwner 11 = .ok (.goto 4, 3) := by decide +kernel
theorem dX9_isOwner_14 : decode cX9_isOwner 14 = .ok (.iconst 0, 1) := by decide +kernel
theorem dX9_isOwner_15 : decode cX9_isOwner 15 = .ok (.ireturn, 1) := by decide +kernel
theorem dX9_isReader_0 : decode cX9_isReader 0 = .ok (.iload_n 0, 1) := by decide +kernel
theorem dX9_isReader_1 : decode cX9_isReader 1 = .ok (.ifCond .lt 13, 3) := by decide +kernel
theorem dX9_isReader_4 : decode cX9_isReader 4 = .ok (.iload_n 0, 1) := by decide +kernel
theorem dX9_isReader_5 : decode cX9_isReader 5 = .ok (.bipush 6, 2) := by decide +kernel
theorem dX9_isReader_7 : decode cX9_isReader 7 = .ok (.if_icmp .ge 7, 3) := by decide +kernel
theorem dX9_isReader_10 : decode cX9_isReader 10 = .ok (.iconst 1, 1) := by decide +kernel
theorem dX9_isReader_11 : decode cX9_isReader 11 = .ok (.goto 4, 3) := by decide +kernel
theorem dX9_isReader_14 : decode cX9_isReader 14 = .ok (.iconst 0, 1) := by decide +kernel
theorem dX9_isReader_15 : decode cX9_isReader 15 = .ok (.ireturn, 1) := by decide +kernel
theorem dX9_isHolder_0 : decode cX9_isHolder 0 = .ok (.iload_n 0, 1) := by decide +kernel
theorem dX9_isHolder_1 : decode cX9_isHolder 1 = .ok (.ifCond .lt 13, 3) := by decide +kernel
theorem dX9_isHolder_4 : decode cX9_isHolder 4 = .ok (.iload_n 0, 1) := by decide +kernel
theorem dX9_isHolder_5 : decode cX9_isHolder 5 = .ok (.bipush 6, 2) := by decide +kernel
theorem dX9_isHolder_7 : decode cX9_isHolder 7 = .ok (.if_icmp .ge 7, 3) := by decide +kernel
theorem dX9_isHolder_10 : decode cX9_isHolder 10 = .ok (.iconst 1, 1) := by decide +kernel
theorem dX9_isHolder_11 : decode cX9_isHolder 11 = .ok (.goto 4, 3) := by decide +kernel
theorem dX9_isHolder_14 : decode cX9_isHolder 14 = .ok (.iconst 0, 1) := by decide +kernel
theorem dX9_isHolder_15 : decode cX9_isHolder 15 = .ok (.ireturn, 1) := by decide +kernel
theorem dX9_isTag_0 : decode cX9_isTag 0 = .ok (.iload_n 0, 1) := by decide +kernel
theorem dX9_isTag_1 : decode cX9_isTag 1 = .ok (.ifCond .lt 14, 3) := by decide +kernel
theorem dX9_isTag_4 : decode cX9_isTag 4 = .ok (.iload_n 0, 1) := by decide +kernel
theorem dX9_isTag_5 : decode cX9_isTag 5 = .ok (.sipush 500, 3) := by decide +kernel
theorem dX9_isTag_8 : decode cX9_isTag 8 = .ok (.if_icmp .ge 7, 3) := by decide +kernel
theorem dX9_isTag_11 : decode cX9_isTag 11 = .ok (.iconst 1, 1) := by decide +kernel
theorem dX9_isTag_12 : decode cX9_isTag 12 = .ok (.goto 4, 3) := by decide +kernel
theorem dX9_isTag_15 : decode cX9_isTag 15 = .ok (.iconst 0, 1) := by decide +kernel
theorem dX9_isTag_16 : decode cX9_isTag 16 = .ok (.ireturn, 1) := by decide +kernel
theorem dX9_notIfNone_0 : decode cX9_notIfNone 0 = .ok (.iload_n 0, 1) := by decide +kernel
theorem dX9_notIfNone_1 : decode cX9_notIfNone 1 = .ok (.iconst (-1), 1) := by decide +kernel
theorem dX9_notIfNone_2 : decode cX9_notIfNone 2 = .ok (.if_icmp .ne 8, 3) := by decide +kernel
theorem dX9_notIfNone_5 : decode cX9_notIfNone 5 = .ok (.bipush (-2), 2) := by decide +kernel
theorem dX9_notIfNone_7 : decode cX9_notIfNone 7 = .ok (.goto 4, 3) := by decide +kernel
theorem dX9_notIfNone_10 : decode cX9_notIfNone 10 = .ok (.iload_n 0, 1) := by decide +kernel
theorem dX9_notIfNone_11 : decode cX9_notIfNone 11 = .ok (.ireturn, 1) := by decide +kernel
theorem dX9_copyAll_0 : decode cX9_copyAll 0 = .ok (.aload_n 0, 1) := by decide +kernel
theorem dX9_copyAll_1 : decode cX9_copyAll 1 = .ok (.iconst 0, 1) := by decide +kernel
theorem dX9_copyAll_2 : decode cX9_copyAll 2 = .ok (.aload_n 1, 1) := by decide +kernel
theorem dX9_copyAll_3 : decode cX9_copyAll 3 = .ok (.iconst 0, 1) := by decide +kernel
theorem dX9_copyAll_4 : decode cX9_copyAll 4 = .ok (.aload_n 0, 1) := by decide +kernel
theorem dX9_copyAll_5 : decode cX9_copyAll 5 = .ok (.arraylength, 1) := by decide +kernel
theorem dX9_copyAll_6 : decode cX9_copyAll 6 = .ok (.aload_n 1, 1) := by decide +kernel
theorem dX9_copyAll_7 : decode cX9_copyAll 7 = .ok (.arraylength, 1) := by decide +kernel
theorem dX9_copyAll_8 : decode cX9_copyAll 8 = .ok (.invokestatic 328, 3) := by decide +kernel
theorem dX9_copyAll_11 : decode cX9_copyAll 11 = .ok (.invokestatic 333, 3) := by decide +kernel
theorem dX9_copyAll_14 : decode cX9_copyAll 14 = .ok (.return_, 1) := by decide +kernel
theorem dX9_fill_0 : decode cX9_fill 0 = .ok (.iload_n 1, 1) := by decide +kernel
theorem dX9_fill_1 : decode cX9_fill 1 = .ok (.ifCond .ge 4, 3) := by decide +kernel
theorem dX9_fill_4 : decode cX9_fill 4 = .ok (.return_, 1) := by decide +kernel
theorem dX9_fill_5 : decode cX9_fill 5 = .ok (.iload_n 1, 1) := by decide +kernel
theorem dX9_fill_6 : decode cX9_fill 6 = .ok (.istore 4, 2) := by decide +kernel
theorem dX9_fill_8 : decode cX9_fill 8 = .ok (.iload 4, 2) := by decide +kernel
theorem dX9_fill_10 : decode cX9_fill 10 = .ok (.iload_n 1, 1) := by decide +kernel
theorem dX9_fill_11 : decode cX9_fill 11 = .ok (.iload_n 2, 1) := by decide +kernel
theorem dX9_fill_12 : decode cX9_fill 12 = .ok (.iadd, 1) := by decide +kernel
theorem dX9_fill_13 : decode cX9_fill 13 = .ok (.if_icmp .ge 21, 3) := by decide +kernel
theorem dX9_fill_16 : decode cX9_fill 16 = .ok (.iload 4, 2) := by decide +kernel
theorem dX9_fill_18 : decode cX9_fill 18 = .ok (.aload_n 0, 1) := by decide +kernel
theorem dX9_fill_19 : decode cX9_fill 19 = .ok (.arraylength, 1) := by decide +kernel
theorem dX9_fill_20 : decode cX9_fill 20 = .ok (.if_icmp .ge 14, 3) := by decide +kernel
theorem dX9_fill_23 : decode cX9_fill 23 = .ok (.aload_n 0, 1) := by decide +kernel
theorem dX9_fill_24 : decode cX9_fill 24 = .ok (.iload 4, 2) := by decide +kernel
theorem dX9_fill_26 : decode cX9_fill 26 = .ok (.iload_n 3, 1) := by decide +kernel
theorem dX9_fill_27 : decode cX9_fill 27 = .ok (.iastore, 1) := by decide +kernel
theorem dX9_fill_28 : decode cX9_fill 28 = .ok (.iinc 4 1, 3) := by decide +kernel
theorem dX9_fill_31 : decode cX9_fill 31 = .ok (.goto (-23), 3) := by decide +kernel
theorem dX9_fill_34 : decode cX9_fill 34 = .ok (.return_, 1) := by decide +kernel
theorem dX9_isLeaked_0 : decode cX9_isLeaked 0 = .ok (.aload_n 0, 1) := by decide +kernel
theorem dX9_isLeaked_1 : decode cX9_isLeaked 1 = .ok (.getfield 10, 3) := by decide +kernel
theorem dX9_isLeaked_4 : decode cX9_isLeaked 4 = .ok (.getfield 81, 3) := by decide +kernel
theorem dX9_isLeaked_7 : decode cX9_isLeaked 7 = .ok (.getfield 163, 3) := by decide +kernel
theorem dX9_isLeaked_10 : decode cX9_isLeaked 10 = .ok (.iload_n 1, 1) := by decide +kernel
theorem dX9_isLeaked_11 : decode cX9_isLeaked 11 = .ok (.iaload, 1) := by decide +kernel
theorem dX9_isLeaked_12 : decode cX9_isLeaked 12 = .ok (.iconst 1, 1) := by decide +kernel
theorem dX9_isLeaked_13 : decode cX9_isLeaked 13 = .ok (.if_icmp .ne 20, 3) := by decide +kernel
theorem dX9_isLeaked_16 : decode cX9_isLeaked 16 = .ok (.aload_n 0, 1) := by decide +kernel
theorem dX9_isLeaked_17 : decode cX9_isLeaked 17 = .ok (.getfield 28, 3) := by decide +kernel
theorem dX9_isLeaked_20 : decode cX9_isLeaked 20 = .ok (.getfield 253, 3) := by decide +kernel
theorem dX9_isLeaked_23 : decode cX9_isLeaked 23 = .ok (.iload_n 1, 1) := by decide +kernel
theorem dX9_isLeaked_24 : decode cX9_isLeaked 24 = .ok (.iaload, 1) := by decide +kernel
theorem dX9_isLeaked_25 : decode cX9_isLeaked 25 = .ok (.iconst (-1), 1) := by decide +kernel
theorem dX9_isLeaked_26 : decode cX9_isLeaked 26 = .ok (.if_icmp .ne 7, 3) := by decide +kernel
theorem dX9_isLeaked_29 : decode cX9_isLeaked 29 = .ok (.iconst 1, 1) := by decide +kernel
theorem dX9_isLeaked_30 : decode cX9_isLeaked 30 = .ok (.goto 4, 3) := by decide +kernel
theorem dX9_isLeaked_33 : decode cX9_isLeaked 33 = .ok (.iconst 0, 1) := by decide +kernel
theorem dX9_isLeaked_34 : decode cX9_isLeaked 34 = .ok (.ireturn, 1) := by decide +kernel
theorem dX9_leakedCellsOf_0 : decode cX9_leakedCellsOf 0 = .ok (.aload_n 0, 1) := by decide +kernel
theorem dX9_leakedCellsOf_1 : decode cX9_leakedCellsOf 1 = .ok (.getfield 28, 3) := by decide +kernel
theorem dX9_leakedCellsOf_4 : decode cX9_leakedCellsOf 4 = .ok (.aload_n 0, 1) := by decide +kernel
theorem dX9_leakedCellsOf_5 : decode cX9_leakedCellsOf 5 = .ok (.getfield 10, 3) := by decide +kernel
theorem dX9_leakedCellsOf_8 : decode cX9_leakedCellsOf 8 = .ok (.invokevirtual 243, 3) := by decide +kernel
theorem dX9_leakedCellsOf_11 : decode cX9_leakedCellsOf 11 = .ok (.iconst 0, 1) := by decide +kernel
theorem dX9_leakedCellsOf_12 : decode cX9_leakedCellsOf 12 = .ok (.istore_n 2, 1) := by decide +kernel
theorem dX9_leakedCellsOf_13 : decode cX9_leakedCellsOf 13 = .ok (.iconst 0, 1) := by decide +kernel
theorem dX9_leakedCellsOf_14 : decode cX9_leakedCellsOf 14 = .ok (.istore_n 3, 1) := by decide +kernel
theorem dX9_leakedCellsOf_15 : decode cX9_leakedCellsOf 15 = .ok (.iload_n 3, 1) := by decide +kernel
theorem dX9_leakedCellsOf_16 : decode cX9_leakedCellsOf 16 = .ok (.bipush 30, 2) := by decide +kernel
theorem dX9_leakedCellsOf_18 : decode cX9_leakedCellsOf 18 = .ok (.if_icmp .ge 48, 3) := by decide +kernel
theorem dX9_leakedCellsOf_21 : decode cX9_leakedCellsOf 21 = .ok (.aload_n 0, 1) := by decide +kernel
theorem dX9_leakedCellsOf_22 : decode cX9_leakedCellsOf 22 = .ok (.getfield 10, 3) := by decide +kernel
theorem dX9_leakedCellsOf_25 : decode cX9_leakedCellsOf 25 = .ok (.getfield 81, 3) := by decide +kernel
theorem dX9_leakedCellsOf_28 : decode cX9_leakedCellsOf 28 = .ok (.getfield 117, 3) := by decide +kernel
theorem dX9_leakedCellsOf_31 : decode cX9_leakedCellsOf 31 = .ok (.iload_n 3, 1) := by decide +kernel
theorem dX9_leakedCellsOf_32 : decode cX9_leakedCellsOf 32 = .ok (.iaload, 1) := by decide +kernel
theorem dX9_leakedCellsOf_33 : decode cX9_leakedCellsOf 33 = .ok (.iload_n 1, 1) := by decide +kernel
theorem dX9_leakedCellsOf_34 : decode cX9_leakedCellsOf 34 = .ok (.if_icmp .ne 26, 3) := by decide +kernel
theorem dX9_leakedCellsOf_37 : decode cX9_leakedCellsOf 37 = .ok (.aload_n 0, 1) := by decide +kernel
theorem dX9_leakedCellsOf_38 : decode cX9_leakedCellsOf 38 = .ok (.iload_n 3, 1) := by decide +kernel
theorem dX9_leakedCellsOf_39 : decode cX9_leakedCellsOf 39 = .ok (.invokevirtual 246, 3) := by decide +kernel
theorem dX9_leakedCellsOf_42 : decode cX9_leakedCellsOf 42 = .ok (.ifCond .eq 18, 3) := by decide +kernel
theorem dX9_leakedCellsOf_45 : decode cX9_leakedCellsOf 45 = .ok (.iload_n 2, 1) := by decide +kernel
theorem dX9_leakedCellsOf_46 : decode cX9_leakedCellsOf 46 = .ok (.aload_n 0, 1) := by decide +kernel
theorem dX9_leakedCellsOf_47 : decode cX9_leakedCellsOf 47 = .ok (.getfield 10, 3) := by decide +kernel
theorem dX9_leakedCellsOf_50 : decode cX9_leakedCellsOf 50 = .ok (.getfield 81, 3) := by decide +kernel
theorem dX9_leakedCellsOf_53 : decode cX9_leakedCellsOf 53 = .ok (.getfield 120, 3) := by decide +kernel
theorem dX9_leakedCellsOf_56 : decode cX9_leakedCellsOf 56 = .ok (.iload_n 3, 1) := by decide +kernel
theorem dX9_leakedCellsOf_57 : decode cX9_leakedCellsOf 57 = .ok (.iaload, 1) := by decide +kernel
theorem dX9_leakedCellsOf_58 : decode cX9_leakedCellsOf 58 = .ok (.iadd, 1) := by decide +kernel
theorem dX9_leakedCellsOf_59 : decode cX9_leakedCellsOf 59 = .ok (.istore_n 2, 1) := by decide +kernel
theorem dX9_leakedCellsOf_60 : decode cX9_leakedCellsOf 60 = .ok (.iinc 3 1, 3) := by decide +kernel
theorem dX9_leakedCellsOf_63 : decode cX9_leakedCellsOf 63 = .ok (.goto (-48), 3) := by decide +kernel
theorem dX9_leakedCellsOf_66 : decode cX9_leakedCellsOf 66 = .ok (.iload_n 2, 1) := by decide +kernel
theorem dX9_leakedCellsOf_67 : decode cX9_leakedCellsOf 67 = .ok (.ireturn, 1) := by decide +kernel
theorem dX9_takenFor_0 : decode cX9_takenFor 0 = .ok (.iload_n 2, 1) := by decide +kernel
theorem dX9_takenFor_1 : decode cX9_takenFor 1 = .ok (.ifCond .ne 8, 3) := by decide +kernel
theorem dX9_takenFor_4 : decode cX9_takenFor 4 = .ok (.iload_n 1, 1) := by decide +kernel
theorem dX9_takenFor_5 : decode cX9_takenFor 5 = .ok (.bipush 100, 2) := by decide +kernel
theorem dX9_takenFor_7 : decode cX9_takenFor 7 = .ok (.idiv, 1) := by decide +kernel
theorem dX9_takenFor_8 : decode cX9_takenFor 8 = .ok (.ireturn, 1) := by decide +kernel
theorem dX9_takenFor_9 : decode cX9_takenFor 9 = .ok (.aload_n 0, 1) := by decide +kernel
theorem dX9_takenFor_10 : decode cX9_takenFor 10 = .ok (.getfield 10, 3) := by decide +kernel
theorem dX9_takenFor_13 : decode cX9_takenFor 13 = .ok (.getfield 81, 3) := by decide +kernel
theorem dX9_takenFor_16 : decode cX9_takenFor 16 = .ok (.iload_n 1, 1) := by decide +kernel
theorem dX9_takenFor_17 : decode cX9_takenFor 17 = .ok (.invokevirtual 102, 3) := by decide +kernel
theorem dX9_takenFor_20 : decode cX9_takenFor 20 = .ok (.istore_n 3, 1) := by decide +kernel
theorem dX9_takenFor_21 : decode cX9_takenFor 21 = .ok (.iload_n 3, 1) := by decide +kernel
theorem dX9_takenFor_22 : decode cX9_takenFor 22 = .ok (.iconst (-1), 1) := by decide +kernel
theorem dX9_takenFor_23 : decode cX9_takenFor 23 = .ok (.if_icmp .ne 6, 3) := by decide +kernel
theorem dX9_takenFor_26 : decode cX9_takenFor 26 = .ok (.bipush (-12), 2) := by decide +kernel
theorem dX9_takenFor_28 : decode cX9_takenFor 28 = .ok (.ireturn, 1) := by decide +kernel
theorem dX9_takenFor_29 : decode cX9_takenFor 29 = .ok (.iload_n 2, 1) := by decide +kernel
theorem dX9_takenFor_30 : decode cX9_takenFor 30 = .ok (.iconst 1, 1) := by decide +kernel
theorem dX9_takenFor_31 : decode cX9_takenFor 31 = .ok (.if_icmp .ne 16, 3) := by decide +kernel
theorem dX9_takenFor_34 : decode cX9_takenFor 34 = .ok (.aload_n 0, 1) := by decide +kernel
theorem dX9_takenFor_35 : decode cX9_takenFor 35 = .ok (.getfield 10, 3) := by decide +kernel
theorem dX9_takenFor_38 : decode cX9_takenFor 38 = .ok (.getfield 81, 3) := by decide +kernel
theorem dX9_takenFor_41 : decode cX9_takenFor 41 = .ok (.getfield 120, 3) := by decide +kernel
theorem dX9_takenFor_44 : decode cX9_takenFor 44 = .ok (.iload_n 3, 1) := by decide +kernel
theorem dX9_takenFor_45 : decode cX9_takenFor 45 = .ok (.iaload, 1) := by decide +kernel
theorem dX9_takenFor_46 : decode cX9_takenFor 46 = .ok (.ireturn, 1) := by decide +kernel
theorem dX9_takenFor_47 : decode cX9_takenFor 47 = .ok (.iload_n 2, 1) := by decide +kernel
theorem dX9_takenFor_48 : decode cX9_takenFor 48 = .ok (.iconst 2, 1) := by decide +kernel
theorem dX9_takenFor_49 : decode cX9_takenFor 49 = .ok (.if_icmp .ne 36, 3) := by decide +kernel
theorem dX9_takenFor_52 : decode cX9_takenFor 52 = .ok (.aload_n 0, 1) := by decide +kernel
theorem dX9_takenFor_53 : decode cX9_takenFor 53 = .ok (.getfield 10, 3) := by decide +kernel
theorem dX9_takenFor_56 : decode cX9_takenFor 56 = .ok (.getfield 81, 3) := by decide +kernel
theorem dX9_takenFor_59 : decode cX9_takenFor 59 = .ok (.getfield 105, 3) := by decide +kernel
theorem dX9_takenFor_62 : decode cX9_takenFor 62 = .ok (.iload_n 3, 1) := by decide +kernel
theorem dX9_takenFor_63 : decode cX9_takenFor 63 = .ok (.iaload, 1) := by decide +kernel
theorem dX9_takenFor_64 : decode cX9_takenFor 64 = .ok (.ifCond .le 18, 3) := by decide +kernel
theorem dX9_takenFor_67 : decode cX9_takenFor 67 = .ok (.aload_n 0, 1) := by decide +kernel
theorem dX9_takenFor_68 : decode cX9_takenFor 68 = .ok (.getfield 10, 3) := by decide +kernel
theorem dX9_takenFor_71 : decode cX9_takenFor 71 = .ok (.getfield 81, 3) := by decide +kernel
theorem dX9_takenFor_74 : decode cX9_takenFor 74 = .ok (.getfield 105, 3) := by decide +kernel
theorem dX9_takenFor_77 : decode cX9_takenFor 77 = .ok (.iload_n 3, 1) := by decide +kernel
theorem dX9_takenFor_78 : decode cX9_takenFor 78 = .ok (.iaload, 1) := by decide +kernel
theorem dX9_takenFor_79 : decode cX9_takenFor 79 = .ok (.goto 5, 3) := by decide +kernel
theorem dX9_takenFor_82 : decode cX9_takenFor 82 = .ok (.bipush (-12), 2) := by decide +kernel
theorem dX9_takenFor_84 : decode cX9_takenFor 84 = .ok (.ireturn, 1) := by decide +kernel
theorem dX9_takenFor_85 : decode cX9_takenFor 85 = .ok (.aload_n 0, 1) := by decide +kernel
theorem dX9_takenFor_86 : decode cX9_takenFor 86 = .ok (.getfield 10, 3) := by decide +kernel
theorem dX9_takenFor_89 : decode cX9_takenFor 89 = .ok (.getfield 81, 3) := by decide +kernel
theorem dX9_takenFor_92 : decode cX9_takenFor 92 = .ok (.getfield 157, 3) := by decide +kernel
theorem dX9_takenFor_95 : decode cX9_takenFor 95 = .ok (.iload_n 3, 1) := by decide +kernel
theorem dX9_takenFor_96 : decode cX9_takenFor 96 = .ok (.iaload, 1) := by decide +kernel
theorem dX9_takenFor_97 : decode cX9_takenFor 97 = .ok (.iconst (-1), 1) := by decide +kernel
theorem dX9_takenFor_98 : decode cX9_takenFor 98 = .ok (.if_icmp .ne 8, 3) := by decide +kernel
theorem dX9_takenFor_101 : decode cX9_takenFor 101 = .ok (.bipush (-12), 2) := by decide +kernel
theorem dX9_takenFor_103 : decode cX9_takenFor 103 = .ok (.goto 15, 3) := by decide +kernel
theorem dX9_takenFor_106 : decode cX9_takenFor 106 = .ok (.aload_n 0, 1) := by decide +kernel
theorem dX9_takenFor_107 : decode cX9_takenFor 107 = .ok (.getfield 10, 3) := by decide +kernel
theorem dX9_takenFor_110 : decode cX9_takenFor 110 = .ok (.getfield 81, 3) := by decide +kernel
theorem dX9_takenFor_113 : decode cX9_takenFor 113 = .ok (.getfield 157, 3) := by decide +kernel
theorem dX9_takenFor_116 : decode cX9_takenFor 116 = .ok (.iload_n 3, 1) := by decide +kernel
theorem dX9_takenFor_117 : decode cX9_takenFor 117 = .ok (.iaload, 1) := by decide +kernel
theorem dX9_takenFor_118 : decode cX9_takenFor 118 = .ok (.ireturn, 1) := by decide +kernel
theorem dX9_planElement_0 : decode cX9_planElement 0 = .ok (.iload_n 1, 1) := by decide +kernel
theorem dX9_planElement_1 : decode cX9_planElement 1 = .ok (.ifCond .ge 19, 3) := by decide +kernel
theorem dX9_planElement_4 : decode cX9_planElement 4 = .ok (.aload_n 0, 1) := by decide +kernel
theorem dX9_planElement_5 : decode cX9_planElement 5 = .ok (.getfield 35, 3) := by decide +kernel
theorem dX9_planElement_8 : decode cX9_planElement 8 = .ok (.aload_n 0, 1) := by decide +kernel
theorem dX9_planElement_9 : decode cX9_planElement 9 = .ok (.getfield 22, 3) := by decide +kernel
theorem dX9_planElement_12 : decode cX9_planElement 12 = .ok (.getfield 175, 3) := by decide +kernel
theorem dX9_planElement_15 : decode cX9_planElement 15 = .ok (.iload_n 1, 1) := by decide +kernel
theorem dX9_planElement_16 : decode cX9_planElement 16 = .ok (.invokevirtual 339, 3) := by decide +kernel
theorem dX9_planElement_19 : decode cX9_planElement 19 = .ok (.ireturn, 1) := by decide +kernel
theorem dX9_planElement_20 : decode cX9_planElement 20 = .ok (.iload_n 1, 1) := by decide +kernel
theorem dX9_planElement_21 : decode cX9_planElement 21 = .ok (.invokestatic 71, 3) := by decide +kernel
theorem dX9_planElement_24 : decode cX9_planElement 24 = .ok (.ifCond .ne 5, 3) := by decide +kernel
theorem dX9_planElement_27 : decode cX9_planElement 27 = .ok (.iconst 0, 1) := by decide +kernel
theorem dX9_planElement_28 : decode cX9_planElement 28 = .ok (.ireturn, 1) := by decide +kernel
theorem dX9_planElement_29 : decode cX9_planElement 29 = .ok (.aload_n 0, 1) := by decide +kernel
theorem dX9_planElement_30 : decode cX9_planElement 30 = .ok (.getfield 22, 3) := by decide +kernel
theorem dX9_planElement_33 : decode cX9_planElement 33 = .ok (.getfield 175, 3) := by decide +kernel
theorem dX9_planElement_36 : decode cX9_planElement 36 = .ok (.aload_n 0, 1) := by decide +kernel
theorem dX9_planElement_37 : decode cX9_planElement 37 = .ok (.getfield 10, 3) := by decide +kernel
theorem dX9_planElement_40 : decode cX9_planElement 40 = .ok (.getfield 57, 3) := by decide +kernel
theorem dX9_planElement_43 : decode cX9_planElement 43 = .ok (.iload_n 2, 1) := by decide +kernel
theorem dX9_planElement_44 : decode cX9_planElement 44 = .ok (.iload_n 1, 1) := by decide +kernel
theorem dX9_planElement_45 : decode cX9_planElement 45 = .ok (.invokevirtual 343, 3) := by decide +kernel
theorem dX9_planElement_48 : decode cX9_planElement 48 = .ok (.istore_n 3, 1) := by decide +kernel
theorem dX9_planElement_49 : decode cX9_planElement 49 = .ok (.iload_n 3, 1) := by decide +kernel
theorem dX9_planElement_50 : decode cX9_planElement 50 = .ok (.iconst (-1), 1) := by decide +kernel
theorem dX9_planElement_51 : decode cX9_planElement 51 = .ok (.if_icmp .eq 26, 3) := by decide +kernel
theorem dX9_planElement_54 : decode cX9_planElement 54 = .ok (.aload_n 0, 1) := by decide +kernel
theorem dX9_planElement_55 : decode cX9_planElement 55 = .ok (.getfield 35, 3) := by decide +kernel
theorem dX9_planElement_58 : decode cX9_planElement 58 = .ok (.aload_n 0, 1) := by decide +kernel
theorem dX9_planElement_59 : decode cX9_planElement 59 = .ok (.getfield 22, 3) := by decide +kernel
theorem dX9_planElement_62 : decode cX9_planElement 62 = .ok (.getfield 175, 3) := by decide +kernel
theorem dX9_planElement_65 : decode cX9_planElement 65 = .ok (.iload_n 3, 1) := by decide +kernel
theorem dX9_planElement_66 : decode cX9_planElement 66 = .ok (.iload_n 1, 1) := by decide +kernel
theorem dX9_planElement_67 : decode cX9_planElement 67 = .ok (.invokevirtual 347, 3) := by decide +kernel
theorem dX9_planElement_70 : decode cX9_planElement 70 = .ok (.ifCond .eq 7, 3) := by decide +kernel
theorem dX9_planElement_73 : decode cX9_planElement 73 = .ok (.iconst 1, 1) := by decide +kernel
theorem dX9_planElement_74 : decode cX9_planElement 74 = .ok (.goto 4, 3) := by decide +kernel
theorem dX9_planElement_77 : decode cX9_planElement 77 = .ok (.iconst 0, 1) := by decide +kernel
theorem dX9_planElement_78 : decode cX9_planElement 78 = .ok (.ireturn, 1) := by decide +kernel
theorem dX9_doLine_0 : decode cX9_doLine 0 = .ok (.aload_n 0, 1) := by decide +kernel
theorem dX9_doLine_1 : decode cX9_doLine 1 = .ok (.getfield 42, 3) := by decide +kernel
theorem dX9_doLine_4 : decode cX9_doLine 4 = .ok (.iload_n 1, 1) := by decide +kernel
theorem dX9_doLine_5 : decode cX9_doLine 5 = .ok (.iconst 0, 1) := by decide +kernel
theorem dX9_doLine_6 : decode cX9_doLine 6 = .ok (.invokevirtual 351, 3) := by decide +kernel
theorem dX9_doLine_9 : decode cX9_doLine 9 = .ok (.istore_n 2, 1) := by decide +kernel
theorem dX9_doLine_10 : decode cX9_doLine 10 = .ok (.aload_n 0, 1) := by decide +kernel
theorem dX9_doLine_11 : decode cX9_doLine 11 = .ok (.getfield 42, 3) := by decide +kernel
theorem dX9_doLine_14 : decode cX9_doLine 14 = .ok (.iload_n 1, 1) := by decide +kernel
theorem dX9_doLine_15 : decode cX9_doLine 15 = .ok (.iconst 1, 1) := by decide +kernel
theorem dX9_doLine_16 : decode cX9_doLine 16 = .ok (.invokevirtual 351, 3) := by decide +kernel
theorem dX9_doLine_19 : decode cX9_doLine 19 = .ok (.istore_n 3, 1) := by decide +kernel
theorem dX9_doLine_20 : decode cX9_doLine 20 = .ok (.aload_n 0, 1) := by decide +kernel
theorem dX9_doLine_21 : decode cX9_doLine 21 = .ok (.getfield 42, 3) := by decide +kernel
theorem dX9_doLine_24 : decode cX9_doLine 24 = .ok (.iload_n 1, 1) := by decide +kernel
theorem dX9_doLine_25 : decode cX9_doLine 25 = .ok (.iconst 2, 1) := by decide +kernel
theorem dX9_doLine_26 : decode cX9_doLine 26 = .ok (.invokevirtual 351, 3) := by decide +kernel
theorem dX9_doLine_29 : decode cX9_doLine 29 = .ok (.istore 4, 2) := by decide +kernel
theorem dX9_doLine_31 : decode cX9_doLine 31 = .ok (.aload_n 0, 1) := by decide +kernel
theorem dX9_doLine_32 : decode cX9_doLine 32 = .ok (.getfield 42, 3) := by decide +kernel
theorem dX9_doLine_35 : decode cX9_doLine 35 = .ok (.getfield 354, 3) := by decide +kernel
theorem dX9_doLine_38 : decode cX9_doLine 38 = .ok (.iload_n 1, 1) := by decide +kernel
theorem dX9_doLine_39 : decode cX9_doLine 39 = .ok (.iaload, 1) := by decide +kernel
theorem dX9_doLine_40 : decode cX9_doLine 40 = .ok (.tableswitch 200 98 117 #[103, 200, 200, 200, 112, 200, 200, 188, 200, 200, 200, 181, 200, 194, 128, 200, 96, 200, 162, 145], 96) := by decide +kernel
theorem dX9_doLine_136 : decode cX9_doLine 136 = .ok (.aload_n 0, 1) := by decide +kernel
theorem dX9_doLine_137 : decode cX9_doLine 137 = .ok (.iload_n 2, 1) := by decide +kernel
theorem dX9_doLine_138 : decode cX9_doLine 138 = .ok (.iload_n 3, 1) := by decide +kernel
theorem dX9_doLine_139 : decode cX9_doLine 139 = .ok (.invokevirtual 357, 3) := by decide +kernel
theorem dX9_doLine_142 : decode cX9_doLine 142 = .ok (.ireturn, 1) := by decide +kernel
theorem dX9_doLine_143 : decode cX9_doLine 143 = .ok (.aload_n 0, 1) := by decide +kernel
theorem dX9_doLine_144 : decode cX9_doLine 144 = .ok (.iload_n 2, 1) := by decide +kernel
theorem dX9_doLine_145 : decode cX9_doLine 145 = .ok (.iload_n 3, 1) := by decide +kernel
theorem dX9_doLine_146 : decode cX9_doLine 146 = .ok (.iload 4, 2) := by decide +kernel
theorem dX9_doLine_148 : decode cX9_doLine 148 = .ok (.invokevirtual 359, 3) := by decide +kernel
theorem dX9_doLine_151 : decode cX9_doLine 151 = .ok (.ireturn, 1) := by decide +kernel
theorem dX9_doLine_152 : decode cX9_doLine 152 = .ok (.aload_n 0, 1) := by decide +kernel
theorem dX9_doLine_153 : decode cX9_doLine 153 = .ok (.aload_n 0, 1) := by decide +kernel
theorem dX9_doLine_154 : decode cX9_doLine 154 = .ok (.getfield 10, 3) := by decide +kernel
theorem dX9_doLine_157 : decode cX9_doLine 157 = .ok (.getfield 81, 3) := by decide +kernel
theorem dX9_doLine_160 : decode cX9_doLine 160 = .ok (.iload_n 2, 1) := by decide +kernel
theorem dX9_doLine_161 : decode cX9_doLine 161 = .ok (.invokevirtual 166, 3) := by decide +kernel
theorem dX9_doLine_164 : decode cX9_doLine 164 = .ok (.invokevirtual 363, 3) := by decide +kernel
theorem dX9_doLine_167 : decode cX9_doLine 167 = .ok (.ireturn, 1) := by decide +kernel
theorem dX9_doLine_168 : decode cX9_doLine 168 = .ok (.aload_n 0, 1) := by decide +kernel
theorem dX9_doLine_169 : decode cX9_doLine 169 = .ok (.aload_n 0, 1) := by decide +kernel
theorem dX9_doLine_170 : decode cX9_doLine 170 = .ok (.getfield 10, 3) := by decide +kernel
theorem dX9_doLine_173 : decode cX9_doLine 173 = .ok (.getfield 81, 3) := by decide +kernel
theorem dX9_doLine_176 : decode cX9_doLine 176 = .ok (.iload_n 2, 1) := by decide +kernel
theorem dX9_doLine_177 : decode cX9_doLine 177 = .ok (.invokevirtual 166, 3) := by decide +kernel
theorem dX9_doLine_180 : decode cX9_doLine 180 = .ok (.iconst 1, 1) := by decide +kernel
theorem dX9_doLine_181 : decode cX9_doLine 181 = .ok (.invokevirtual 366, 3) := by decide +kernel
theorem dX9_doLine_184 : decode cX9_doLine 184 = .ok (.ireturn, 1) := by decide +kernel
theorem dX9_doLine_185 : decode cX9_doLine 185 = .ok (.aload_n 0, 1) := by decide +kernel
theorem dX9_doLine_186 : decode cX9_doLine 186 = .ok (.aload_n 0, 1) := by decide +kernel
theorem dX9_doLine_187 : decode cX9_doLine 187 = .ok (.getfield 10, 3) := by decide +kernel
theorem dX9_doLine_190 : decode cX9_doLine 190 = .ok (.getfield 81, 3) := by decide +kernel
theorem dX9_doLine_193 : decode cX9_doLine 193 = .ok (.iload_n 2, 1) := by decide +kernel
theorem dX9_doLine_194 : decode cX9_doLine 194 = .ok (.invokevirtual 166, 3) := by decide +kernel
theorem dX9_doLine_197 : decode cX9_doLine 197 = .ok (.iconst (-1), 1) := by decide +kernel
theorem dX9_doLine_198 : decode cX9_doLine 198 = .ok (.invokevirtual 366, 3) := by decide +kernel
theorem dX9_doLine_201 : decode cX9_doLine 201 = .ok (.ireturn, 1) := by decide +kernel
theorem dX9_doLine_202 : decode cX9_doLine 202 = .ok (.aload_n 0, 1) := by decide +kernel
theorem dX9_doLine_203 : decode cX9_doLine 203 = .ok (.aload_n 0, 1) := by decide +kernel
theorem dX9_doLine_204 : decode cX9_doLine 204 = .ok (.getfield 10, 3) := by decide +kernel
theorem dX9_doLine_207 : decode cX9_doLine 207 = .ok (.getfield 81, 3) := by decide +kernel
theorem dX9_doLine_210 : decode cX9_doLine 210 = .ok (.iload_n 2, 1) := by decide +kernel
theorem dX9_doLine_211 : decode cX9_doLine 211 = .ok (.invokevirtual 166, 3) := by decide +kernel
theorem dX9_doLine_214 : decode cX9_doLine 214 = .ok (.iload_n 3, 1) := by decide +kernel
theorem dX9_doLine_215 : decode cX9_doLine 215 = .ok (.iload 4, 2) := by decide +kernel
theorem dX9_doLine_217 : decode cX9_doLine 217 = .ok (.invokevirtual 369, 3) := by decide +kernel
theorem dX9_doLine_220 : decode cX9_doLine 220 = .ok (.ireturn, 1) := by decide +kernel
theorem dX9_doLine_221 : decode cX9_doLine 221 = .ok (.aload_n 0, 1) := by decide +kernel
theorem dX9_doLine_222 : decode cX9_doLine 222 = .ok (.iload_n 2, 1) := by decide +kernel
theorem dX9_doLine_223 : decode cX9_doLine 223 = .ok (.iload_n 3, 1) := by decide +kernel
theorem dX9_doLine_224 : decode cX9_doLine 224 = .ok (.invokevirtual 372, 3) := by decide +kernel
theorem dX9_doLine_227 : decode cX9_doLine 227 = .ok (.ireturn, 1) := by decide +kernel
theorem dX9_doLine_228 : decode cX9_doLine 228 = .ok (.aload_n 0, 1) := by decide +kernel
theorem dX9_doLine_229 : decode cX9_doLine 229 = .ok (.iload_n 2, 1) := by decide +kernel
theorem dX9_doLine_230 : decode cX9_doLine 230 = .ok (.invokevirtual 375, 3) := by decide +kernel
theorem dX9_doLine_233 : decode cX9_doLine 233 = .ok (.ireturn, 1) := by decide +kernel
theorem dX9_doLine_234 : decode cX9_doLine 234 = .ok (.aload_n 0, 1) := by decide +kernel
theorem dX9_doLine_235 : decode cX9_doLine 235 = .ok (.iload_n 2, 1) := by decide +kernel
theorem dX9_doLine_236 : decode cX9_doLine 236 = .ok (.invokevirtual 378, 3) := by decide +kernel
theorem dX9_doLine_239 : decode cX9_doLine 239 = .ok (.ireturn, 1) := by decide +kernel
theorem dX9_doLine_240 : decode cX9_doLine 240 = .ok (.aload_n 0, 1) := by decide +kernel
theorem dX9_doLine_241 : decode cX9_doLine 241 = .ok (.invokevirtual 381, 3) := by decide +kernel
theorem dX9_doLine_244 : decode cX9_doLine 244 = .ok (.ireturn, 1) := by decide +kernel
theorem dX9_tagByLine_0 : decode cX9_tagByLine 0 = .ok (.iload_n 2, 1) := by decide +kernel
theorem dX9_tagByLine_1 : decode cX9_tagByLine 1 = .ok (.iconst 5, 1) := by decide +kernel
theorem dX9_tagByLine_2 : decode cX9_tagByLine 2 = .ok (.if_icmp .ge 9, 3) := by decide +kernel
theorem dX9_tagByLine_5 : decode cX9_tagByLine 5 = .ok (.iload_n 3, 1) := by decide +kernel
theorem dX9_tagByLine_6 : decode cX9_tagByLine 6 = .ok (.bipush 100, 2) := by decide +kernel
theorem dX9_tagByLine_8 : decode cX9_tagByLine 8 = .ok (.if_icmp .lt 5, 3) := by decide +kernel
theorem dX9_tagByLine_11 : decode cX9_tagByLine 11 = .ok (.iconst (-1), 1) := by decide +kernel
theorem dX9_tagByLine_12 : decode cX9_tagByLine 12 = .ok (.ireturn, 1) := by decide +kernel
theorem dX9_tagByLine_13 : decode cX9_tagByLine 13 = .ok (.aload_n 0, 1) := by decide +kernel
theorem dX9_tagByLine_14 : decode cX9_tagByLine 14 = .ok (.iload_n 1, 1) := by decide +kernel
theorem dX9_tagByLine_15 : decode cX9_tagByLine 15 = .ok (.bipush 100, 2) := by decide +kernel
theorem dX9_tagByLine_17 : decode cX9_tagByLine 17 = .ok (.iload_n 2, 1) := by decide +kernel
theorem dX9_tagByLine_18 : decode cX9_tagByLine 18 = .ok (.imul, 1) := by decide +kernel
theorem dX9_tagByLine_19 : decode cX9_tagByLine 19 = .ok (.iload_n 3, 1) := by decide +kernel
theorem dX9_tagByLine_20 : decode cX9_tagByLine 20 = .ok (.iadd, 1) := by decide +kernel
theorem dX9_tagByLine_21 : decode cX9_tagByLine 21 = .ok (.invokevirtual 384, 3) := by decide +kernel
theorem dX9_tagByLine_24 : decode cX9_tagByLine 24 = .ok (.ireturn, 1) := by decide +kernel
theorem dX10_init_0 : decode cX10_init 0 = .ok (.aload_n 0, 1) := by decide +kernel
theorem dX10_init_1 : decode cX10_init 1 = .ok (.invokespecial 3, 3) := by decide +kernel
theorem dX10_init_4 : decode cX10_init 4 = .ok (.aload_n 0, 1) := by decide +kernel
theorem dX10_init_5 : decode cX10_init 5 = .ok (.sipush 607, 3) := by decide +kernel
theorem dX10_init_8 : decode cX10_init 8 = .ok (.newarray .int, 2) := by decide +kernel
theorem dX10_init_10 : decode cX10_init 10 = .ok (.putfield 9, 3) := by decide +kernel
theorem dX10_init_13 : decode cX10_init 13 = .ok (.aload_n 0, 1) := by decide +kernel
theorem dX10_init_14 : decode cX10_init 14 = .ok (.sipush 607, 3) := by decide +kernel
theorem dX10_init_17 : decode cX10_init 17 = .ok (.newarray .int, 2) := by decide +kernel
theorem dX10_init_19 : decode cX10_init 19 = .ok (.putfield 13, 3) := by decide +kernel
theorem dX10_init_22 : decode cX10_init 22 = .ok (.aload_n 0, 1) := by decide +kernel
theorem dX10_init_23 : decode cX10_init 23 = .ok (.sipush 607, 3) := by decide +kernel
theorem dX10_init_26 : decode cX10_init 26 = .ok (.newarray .int, 2) := by decide +kernel
theorem dX10_init_28 : decode cX10_init 28 = .ok (.putfield 16, 3) := by decide +kernel
theorem dX10_init_31 : decode cX10_init 31 = .ok (.aload_n 0, 1) := by decide +kernel
theorem dX10_init_32 : decode cX10_init 32 = .ok (.sipush 607, 3) := by decide +kernel
theorem dX10_init_35 : decode cX10_init 35 = .ok (.newarray .int, 2) := by decide +kernel
theorem dX10_init_37 : decode cX10_init 37 = .ok (.putfield 19, 3) := by decide +kernel
theorem dX10_init_40 : decode cX10_init 40 = .ok (.aload_n 0, 1) := by decide +kernel
theorem dX10_init_41 : decode cX10_init 41 = .ok (.sipush 240, 3) := by decide +kernel
theorem dX10_init_44 : decode cX10_init 44 = .ok (.newarray .int, 2) := by decide +kernel
theorem dX10_init_46 : decode cX10_init 46 = .ok (.putfield 22, 3) := by decide +kernel
theorem dX10_init_49 : decode cX10_init 49 = .ok (.aload_n 0, 1) := by decide +kernel
theorem dX10_init_50 : decode cX10_init 50 = .ok (.sipush 240, 3) := by decide +kernel
theorem dX10_init_53 : decode cX10_init 53 = .ok (.newarray .int, 2) := by decide +kernel
theorem dX10_init_55 : decode cX10_init 55 = .ok (.putfield 25, 3) := by decide +kernel
theorem dX10_init_58 : decode cX10_init 58 = .ok (.aload_n 0, 1) := by decide +kernel
theorem dX10_init_59 : decode cX10_init 59 = .ok (.bipush 60, 2) := by decide +kernel
theorem dX10_init_61 : decode cX10_init 61 = .ok (.newarray .int, 2) := by decide +kernel
theorem dX10_init_63 : decode cX10_init 63 = .ok (.putfield 28, 3) := by decide +kernel
theorem dX10_init_66 : decode cX10_init 66 = .ok (.aload_n 0, 1) := by decide +kernel
theorem dX10_init_67 : decode cX10_init 67 = .ok (.bipush 30, 2) := by decide +kernel
theorem dX10_init_69 : decode cX10_init 69 = .ok (.newarray .int, 2) := by decide +kernel
theorem dX10_init_71 : decode cX10_init 71 = .ok (.putfield 31, 3) := by decide +kernel
theorem dX10_init_74 : decode cX10_init 74 = .ok (.aload_n 0, 1) := by decide +kernel
theorem dX10_init_75 : decode cX10_init 75 = .ok (.bipush 30, 2) := by decide +kernel
theorem dX10_init_77 : decode cX10_init 77 = .ok (.newarray .int, 2) := by decide +kernel
theorem dX10_init_79 : decode cX10_init 79 = .ok (.putfield 34, 3) := by decide +kernel
theorem dX10_init_82 : decode cX10_init 82 = .ok (.aload_n 0, 1) := by decide +kernel
theorem dX10_init_83 : decode cX10_init 83 = .ok (.bipush 120, 2) := by decide +kernel
theorem dX10_init_85 : decode cX10_init 85 = .ok (.newarray .int, 2) := by decide +kernel
theorem dX10_init_87 : decode cX10_init 87 = .ok (.putfield 37, 3) := by decide +kernel
theorem dX10_init_90 : decode cX10_init 90 = .ok (.aload_n 0, 1) := by decide +kernel
theorem dX10_init_91 : decode cX10_init 91 = .ok (.bipush 6, 2) := by decide +kernel
theorem dX10_init_93 : decode cX10_init 93 = .ok (.newarray .int, 2) := by decide +kernel
theorem dX10_init_95 : decode cX10_init 95 = .ok (.putfield 40, 3) := by decide +kernel
theorem dX10_init_98 : decode cX10_init 98 = .ok (.aload_n 0, 1) := by decide +kernel
theorem dX10_init_99 : decode cX10_init 99 = .ok (.bipush 6, 2) := by decide +kernel
theorem dX10_init_101 : decode cX10_init 101 = .ok (.newarray .int, 2) := by decide +kernel
theorem dX10_init_103 : decode cX10_init 103 = .ok (.putfield 43, 3) := by decide +kernel
theorem dX10_init_106 : decode cX10_init 106 = .ok (.aload_n 0, 1) := by decide +kernel
theorem dX10_init_107 : decode cX10_init 107 = .ok (.bipush 6, 2) := by decide +kernel
theorem dX10_init_109 : decode cX10_init 109 = .ok (.newarray .int, 2) := by decide +kernel
theorem dX10_init_111 : decode cX10_init 111 = .ok (.putfield 46, 3) := by decide +kernel
theorem dX10_init_114 : decode cX10_init 114 = .ok (.aload_n 0, 1) := by decide +kernel
theorem dX10_init_115 : decode cX10_init 115 = .ok (.bipush 6, 2) := by decide +kernel
theorem dX10_init_117 : decode cX10_init 117 = .ok (.bipush 60, 2) := by decide +kernel
theorem dX10_init_119 : decode cX10_init 119 = .ok (.multianewarray 49 2, 4) := by decide +kernel
theorem dX10_init_123 : decode cX10_init 123 = .ok (.putfield 51, 3) := by decide +kernel
theorem dX10_init_126 : decode cX10_init 126 = .ok (.aload_n 0, 1) := by decide +kernel
theorem dX10_init_127 : decode cX10_init 127 = .ok (.iconst 3, 1) := by decide +kernel
theorem dX10_init_128 : decode cX10_init 128 = .ok (.newarray .int, 2) := by decide +kernel
theorem dX10_init_130 : decode cX10_init 130 = .ok (.putfield 54, 3) := by decide +kernel
theorem dX10_init_133 : decode cX10_init 133 = .ok (.iconst 0, 1) := by decide +kernel
theorem dX10_init_134 : decode cX10_init 134 = .ok (.istore_n 1, 1) := by decide +kernel
theorem dX10_init_135 : decode cX10_init 135 = .ok (.iload_n 1, 1) := by decide +kernel
theorem dX10_init_136 : decode cX10_init 136 = .ok (.bipush 10, 2) := by decide +kernel
theorem dX10_init_138 : decode cX10_init 138 = .ok (.if_icmp .ge 22, 3) := by decide +kernel
theorem dX10_init_141 : decode cX10_init 141 = .ok (.aload_n 0, 1) := by decide +kernel
theorem dX10_init_142 : decode cX10_init 142 = .ok (.getfield 9, 3) := by decide +kernel
theorem dX10_init_145 : decode cX10_init 145 = .ok (.sipush 589, 3) := by decide +kernel
theorem dX10_init_148 : decode cX10_init 148 = .ok (.iload_n 1, 1) := by decide +kernel
theorem dX10_init_149 : decode cX10_init 149 = .ok (.iadd, 1) := by decide +kernel
theorem dX10_init_150 : decode cX10_init 150 = .ok (.sipush 240, 3) := by decide +kernel
theorem dX10_init_153 : decode cX10_init 153 = .ok (.iastore, 1) := by decide +kernel
theorem dX10_init_154 : decode cX10_init 154 = .ok (.iinc 1 1, 3) := by decide +kernel
theorem dX10_init_157 : decode cX10_init 157 = .ok (.goto (-22), 3) := by decide +kernel
theorem dX10_init_160 : decode cX10_init 160 = .ok (.iconst 0, 1) := by decide +kernel
theorem dX10_init_161 : decode cX10_init 161 = .ok (.istore_n 1, 1) := by decide +kernel
theorem dX10_init_162 : decode cX10_init 162 = .ok (.iload_n 1, 1) := by decide +kernel
theorem dX10_init_163 : decode cX10_init 163 = .ok (.bipush 6, 2) := by decide +kernel
theorem dX10_init_165 : decode cX10_init 165 = .ok (.if_icmp .ge 20, 3) := by decide +kernel
theorem dX10_init_168 : decode cX10_init 168 = .ok (.aload_n 0, 1) := by decide +kernel
theorem dX10_init_169 : decode cX10_init 169 = .ok (.getfield 9, 3) := by decide +kernel
theorem dX10_init_172 : decode cX10_init 172 = .ok (.sipush 599, 3) := by decide +kernel
theorem dX10_init_175 : decode cX10_init 175 = .ok (.iload_n 1, 1) := by decide +kernel
theorem dX10_init_176 : decode cX10_init 176 = .ok (.iadd, 1) := by decide +kernel
theorem dX10_init_177 : decode cX10_init 177 = .ok (.iconst (-1), 1) := by decide +kernel
theorem dX10_init_178 : decode cX10_init 178 = .ok (.iastore, 1) := by decide +kernel
theorem dX10_init_179 : decode cX10_init 179 = .ok (.iinc 1 1, 3) := by decide +kernel
theorem dX10_init_182 : decode cX10_init 182 = .ok (.goto (-20), 3) := by decide +kernel
theorem dX10_init_185 : decode cX10_init 185 = .ok (.return_, 1) := by decide +kernel
theorem dX10_in_0 : decode cX10_in 0 = .ok (.iload_n 0, 1) := by decide +kernel
theorem dX10_in_1 : decode cX10_in 1 = .ok (.iload_n 1, 1) := by decide +kernel
theorem dX10_in_2 : decode cX10_in 2 = .ok (.if_icmp .lt 12, 3) := by decide +kernel
theorem dX10_in_5 : decode cX10_in 5 = .ok (.iload_n 0, 1) := by decide +kernel
theorem dX10_in_6 : decode cX10_in 6 = .ok (.iload_n 2, 1) := by decide +kernel
theorem dX10_in_7 : decode cX10_in 7 = .ok (.if_icmp .gt 7, 3) := by decide +kernel
theorem dX10_in_10 : decode cX10_in 10 = .ok (.iconst 1, 1) := by decide +kernel
theorem dX10_in_11 : decode cX10_in 11 = .ok (.goto 4, 3) := by decide +kernel
theorem dX10_in_14 : decode cX10_in 14 = .ok (.iconst 0, 1) := by decide +kernel
theorem dX10_in_15 : decode cX10_in 15 = .ok (.ireturn, 1) := by decide +kernel
theorem dX10_take_0 : decode cX10_take 0 = .ok (.iconst 0, 1) := by decide +kernel
theorem dX10_take_1 : decode cX10_take 1 = .ok (.istore_n 2, 1) := by decide +kernel
theorem dX10_take_2 : decode cX10_take 2 = .ok (.iload_n 2, 1) := by decide +kernel
theorem dX10_take_3 : decode cX10_take 3 = .ok (.sipush 607, 3) := by decide +kernel
theorem dX10_take_6 : decode cX10_take 6 = .ok (.if_icmp .ge 15, 3) := by decide +kernel
theorem dX10_take_9 : decode cX10_take 9 = .ok (.aload_n 1, 1) := by decide +kernel
theorem dX10_take_10 : decode cX10_take 10 = .ok (.iload_n 2, 1) := by decide +kernel
theorem dX10_take_11 : decode cX10_take 11 = .ok (.aload_n 0, 1) := by decide +kernel
theorem dX10_take_12 : decode cX10_take 12 = .ok (.iload_n 2, 1) := by decide +kernel
theorem dX10_take_13 : decode cX10_take 13 = .ok (.iaload, 1) := by decide +kernel
theorem dX10_take_14 : decode cX10_take 14 = .ok (.iastore, 1) := by decide +kernel
theorem dX10_take_15 : decode cX10_take 15 = .ok (.iinc 2 1, 3) := by decide +kernel
theorem dX10_take_18 : decode cX10_take 18 = .ok (.goto (-16), 3) := by decide +kernel
theorem dX10_take_21 : decode cX10_take 21 = .ok (.return_, 1) := by decide +kernel
theorem dX10_at_0 : decode cX10_at 0 = .ok (.aload_n 0, 1) := by decide +kernel
theorem dX10_at_1 : decode cX10_at 1 = .ok (.getfield 9, 3) := by decide +kernel
theorem dX10_at_4 : decode cX10_at 4 = .ok (.iload_n 1, 1) := by decide +kernel
theorem dX10_at_5 : decode cX10_at 5 = .ok (.bipush 11, 2) := by decide +kernel
theorem dX10_at_7 : decode cX10_at 7 = .ok (.imul, 1) := by decide +kernel
theorem dX10_at_8 : decode cX10_at 8 = .ok (.iload_n 2, 1) := by decide +kernel
theorem dX10_at_9 : decode cX10_at 9 = .ok (.iadd, 1) := by decide +kernel
theorem dX10_at_10 : decode cX10_at 10 = .ok (.iaload, 1) := by decide +kernel
theorem dX10_at_11 : decode cX10_at 11 = .ok (.ireturn, 1) := by decide +kernel
theorem dX10_sets_0 : decode cX10_sets 0 = .ok (.aload_n 0, 1) := by decide +kernel
theorem dX10_sets_1 : decode cX10_sets 1 = .ok (.getfield 9, 3) := by decide +kernel
theorem dX10_sets_4 : decode cX10_sets 4 = .ok (.iload_n 1, 1) := by decide +kernel
theorem dX10_sets_5 : decode cX10_sets 5 = .ok (.bipush 11, 2) := by decide +kernel
theorem dX10_sets_7 : decode cX10_sets 7 = .ok (.imul, 1) := by decide +kernel
theorem dX10_sets_8 : decode cX10_sets 8 = .ok (.iload_n 2, 1) := by decide +kernel
theorem dX10_sets_9 : decode cX10_sets 9 = .ok (.iadd, 1) := by decide +kernel
theorem dX10_sets_10 : decode cX10_sets 10 = .ok (.iload_n 3, 1) := by decide +kernel
theorem dX10_sets_11 : decode cX10_sets 11 = .ok (.iastore, 1) := by decide +kernel
theorem dX10_sets_12 : decode cX10_sets 12 = .ok (.return_, 1) := by decide +kernel
theorem dX10_isLive_0 : decode cX10_isLive 0 = .ok (.aload_n 0, 1) := by decide +kernel
theorem dX10_isLive_1 : decode cX10_isLive 1 = .ok (.iload_n 1, 1) := by decide +kernel
theorem dX10_isLive_2 : decode cX10_isLive 2 = .ok (.iconst 0, 1) := by decide +kernel
theorem dX10_isLive_3 : decode cX10_isLive 3 = .ok (.invokevirtual 57, 3) := by decide +kernel
theorem dX10_isLive_6 : decode cX10_isLive 6 = .ok (.iconst 1, 1) := by decide +kernel
theorem dX10_isLive_7 : decode cX10_isLive 7 = .ok (.if_icmp .ne 7, 3) := by decide +kernel
theorem dX10_isLive_10 : decode cX10_isLive 10 = .ok (.iconst 1, 1) := by decide +kernel
theorem dX10_isLive_11 : decode cX10_isLive 11 = .ok (.goto 4, 3) := by decide +kernel
theorem dX10_isLive_14 : decode cX10_isLive 14 = .ok (.iconst 0, 1) := by decide +kernel
theorem dX10_isLive_15 : decode cX10_isLive 15 = .ok (.ireturn, 1) := by decide +kernel
theorem dX10_handleOf_0 : decode cX10_handleOf 0 = .ok (.bipush 100, 2) := by decide +kernel
theorem dX10_handleOf_2 : decode cX10_handleOf 2 = .ok (.aload_n 0, 1) := by decide +kernel
theorem dX10_handleOf_3 : decode cX10_handleOf 3 = .ok (.iload_n 1, 1) := by decide +kernel
theorem dX10_handleOf_4 : decode cX10_handleOf 4 = .ok (.iconst 1, 1) := by decide +kernel
theorem dX10_handleOf_5 : decode cX10_handleOf 5 = .ok (.invokevirtual 57, 3) := by decide +kernel
theorem dX10_handleOf_8 : decode cX10_handleOf 8 = .ok (.imul, 1) := by decide +kernel
theorem dX10_handleOf_9 : decode cX10_handleOf 9 = .ok (.iload_n 1, 1) := by decide +kernel
theorem dX10_handleOf_10 : decode cX10_handleOf 10 = .ok (.iadd, 1) := by decide +kernel
theorem dX10_handleOf_11 : decode cX10_handleOf 11 = .ok (.ireturn, 1) := by decide +kernel
theorem dX10_good_0 : decode cX10_good 0 = .ok (.iload_n 1, 1) := by decide +kernel
theorem dX10_good_1 : decode cX10_good 1 = .ok (.ifCond .ge 8, 3) := by decide +kernel
theorem dX10_good_4 : decode cX10_good 4 = .ok (.bipush 30, 2) := by decide +kernel
theorem dX10_good_6 : decode cX10_good 6 = .ok (.goto 7, 3) := by decide +kernel
theorem dX10_good_9 : decode cX10_good 9 = .ok (.iload_n 1, 1) := by decide +kernel
theorem dX10_good_10 : decode cX10_good 10 = .ok (.bipush 100, 2) := by decide +kernel
theorem dX10_good_12 : decode cX10_good 12 = .ok (.irem, 1) := by decide +kernel
theorem dX10_good_13 : decode cX10_good 13 = .ok (.istore_n 2, 1) := by decide +kernel
theorem dX10_good_14 : decode cX10_good 14 = .ok (.iload_n 2, 1) := by decide +kernel
theorem dX10_good_15 : decode cX10_good 15 = .ok (.bipush 30, 2) := by decide +kernel
theorem dX10_good_17 : decode cX10_good 17 = .ok (.if_icmp .ge 28, 3) := by decide +kernel
theorem dX10_good_20 : decode cX10_good 20 = .ok (.aload_n 0, 1) := by decide +kernel
theorem dX10_good_21 : decode cX10_good 21 = .ok (.iload_n 2, 1) := by decide +kernel
theorem dX10_good_22 : decode cX10_good 22 = .ok (.invokevirtual 61, 3) := by decide +kernel
theorem dX10_good_25 : decode cX10_good 25 = .ok (.ifCond .eq 20, 3) := by decide +kernel
theorem dX10_good_28 : decode cX10_good 28 = .ok (.aload_n 0, 1) := by decide +kernel
theorem dX10_good_29 : decode cX10_good 29 = .ok (.iload_n 2, 1) := by decide +kernel
theorem dX10_good_30 : decode cX10_good 30 = .ok (.iconst 1, 1) := by decide +kernel
theorem dX10_good_31 : decode cX10_good 31 = .ok (.invokevirtual 57, 3) := by decide +kernel
theorem dX10_good_34 : decode cX10_good 34 = .ok (.iload_n 1, 1) := by decide +kernel
theorem dX10_good_35 : decode cX10_good 35 = .ok (.bipush 100, 2) := by decide +kernel
theorem dX10_good_37 : decode cX10_good 37 = .ok (.idiv, 1) := by decide +kernel
theorem dX10_good_38 : decode cX10_good 38 = .ok (.if_icmp .ne 7, 3) := by decide +kernel
theorem dX10_good_41 : decode cX10_good 41 = .ok (.iload_n 2, 1) := by decide +kernel
theorem dX10_good_42 : decode cX10_good 42 = .ok (.goto 5, 3) := by decide +kernel
theorem dX10_good_45 : decode cX10_good 45 = .ok (.bipush (-2), 2) := by decide +kernel
theorem dX10_good_47 : decode cX10_good 47 = .ok (.ireturn, 1) := by decide +kernel
theorem dX10_isRegion_0 : decode cX10_isRegion 0 = .ok (.iload_n 1, 1) := by decide +kernel
theorem dX10_isRegion_1 : decode cX10_isRegion 1 = .ok (.iconst 0, 1) := by decide +kernel
theorem dX10_isRegion_2 : decode cX10_isRegion 2 = .ok (.aload_n 0, 1) := by decide +kernel
theorem dX10_isRegion_3 : decode cX10_isRegion 3 = .ok (.getfield 9, 3) := by decide +kernel
theorem dX10_isRegion_6 : decode cX10_isRegion 6 = .ok (.sipush 570, 3) := by decide +kernel
theorem dX10_isRegion_9 : decode cX10_isRegion 9 = .ok (.iaload, 1) := by decide +kernel
theorem dX10_isRegion_10 : decode cX10_isRegion 10 = .ok (.iconst 1, 1) := by decide +kernel
theorem dX10_isRegion_11 : decode cX10_isRegion 11 = .ok (.isub, 1) := by decide +kernel
theorem dX10_isRegion_12 : decode cX10_isRegion 12 = .ok (.invokestatic 65, 3) := by decide +kernel
theorem dX10_isRegion_15 : decode cX10_isRegion 15 = .ok (.ireturn, 1) := by decide +kernel
theorem dX10_laid_0 : decode cX10_laid 0 = .ok (.iconst 0, 1) := by decide +kernel
end
section
theorem dX10_laid_1 : decode cX10_laid 1 = .ok (.istore_n 1, 1) := by decide +kernel
theorem dX10_laid_2 : decode cX10_laid 2 = .ok (.iload_n 1, 1) := by decide +kernel
theorem dX10_laid_3 : decode cX10_laid 3 = .ok (.sipush 240, 3) := by decide +kernel
theorem dX10_laid_6 : decode cX10_laid 6 = .ok (.if_icmp .ge 17, 3) := by decide +kernel
theorem dX10_laid_9 : decode cX10_laid 9 = .ok (.aload_n 0, 1) := by decide +kernel
theorem dX10_laid_10 : decode cX10_laid 10 = .ok (.getfield 22, 3) := by decide +kernel
theorem dX10_laid_13 : decode cX10_laid 13 = .ok (.iload_n 1, 1) := by decide +kernel
theorem dX10_laid_14 : decode cX10_laid 14 = .ok (.bipush 101, 2) := by decide +kernel
theorem dX10_laid_16 : decode cX10_laid 16 = .ok (.iastore, 1) := by decide +kernel
theorem dX10_laid_17 : decode cX10_laid 17 = .ok (.iinc 1 1, 3) := by decide +kernel
theorem dX10_laid_20 : decode cX10_laid 20 = .ok (.goto (-18), 3) := by decide +kernel
theorem dX10_laid_23 : decode cX10_laid 23 = .ok (.iconst 0, 1) := by decide +kernel
theorem dX10_laid_24 : decode cX10_laid 24 = .ok (.istore_n 1, 1) := by decide +kernel
theorem dX10_laid_25 : decode cX10_laid 25 = .ok (.iload_n 1, 1) := by decide +kernel
theorem dX10_laid_26 : decode cX10_laid 26 = .ok (.aload_n 0, 1) := by decide +kernel
theorem dX10_laid_27 : decode cX10_laid 27 = .ok (.getfield 9, 3) := by decide +kernel
theorem dX10_laid_30 : decode cX10_laid 30 = .ok (.sipush 570, 3) := by decide +kernel
theorem dX10_laid_33 : decode cX10_laid 33 = .ok (.iaload, 1) := by decide +kernel
theorem dX10_laid_34 : decode cX10_laid 34 = .ok (.if_icmp .ge 50, 3) := by decide +kernel
theorem dX10_laid_37 : decode cX10_laid 37 = .ok (.iconst 0, 1) := by decide +kernel
theorem dX10_laid_38 : decode cX10_laid 38 = .ok (.istore_n 2, 1) := by decide +kernel
theorem dX10_laid_39 : decode cX10_laid 39 = .ok (.iload_n 2, 1) := by decide +kernel
theorem dX10_laid_40 : decode cX10_laid 40 = .ok (.aload_n 0, 1) := by decide +kernel
theorem dX10_laid_41 : decode cX10_laid 41 = .ok (.getfield 9, 3) := by decide +kernel
theorem dX10_laid_44 : decode cX10_laid 44 = .ok (.sipush 577, 3) := by decide +kernel
theorem dX10_laid_47 : decode cX10_laid 47 = .ok (.iload_n 1, 1) := by decide +kernel
theorem dX10_laid_48 : decode cX10_laid 48 = .ok (.iadd, 1) := by decide +kernel
theorem dX10_laid_49 : decode cX10_laid 49 = .ok (.iaload, 1) := by decide +kernel
theorem dX10_laid_50 : decode cX10_laid 50 = .ok (.if_icmp .ge 28, 3) := by decide +kernel
theorem dX10_laid_53 : decode cX10_laid 53 = .ok (.aload_n 0, 1) := by decide +kernel
theorem dX10_laid_54 : decode cX10_laid 54 = .ok (.getfield 22, 3) := by decide +kernel
theorem dX10_laid_57 : decode cX10_laid 57 = .ok (.aload_n 0, 1) := by decide +kernel
theorem dX10_laid_58 : decode cX10_laid 58 = .ok (.getfield 9, 3) := by decide +kernel
theorem dX10_laid_61 : decode cX10_laid 61 = .ok (.sipush 571, 3) := by decide +kernel
theorem dX10_laid_64 : decode cX10_laid 64 = .ok (.iload_n 1, 1) := by decide +kernel
theorem dX10_laid_65 : decode cX10_laid 65 = .ok (.iadd, 1) := by decide +kernel
theorem dX10_laid_66 : decode cX10_laid 66 = .ok (.iaload, 1) := by decide +kernel
theorem dX10_laid_67 : decode cX10_laid 67 = .ok (.iload_n 2, 1) := by decide +kernel
theorem dX10_laid_68 : decode cX10_laid 68 = .ok (.iadd, 1) := by decide +kernel
theorem dX10_laid_69 : decode cX10_laid 69 = .ok (.bipush 100, 2) := by decide +kernel
theorem dX10_laid_71 : decode cX10_laid 71 = .ok (.iastore, 1) := by decide +kernel
theorem dX10_laid_72 : decode cX10_laid 72 = .ok (.iinc 2 1, 3) := by decide +kernel
theorem dX10_laid_75 : decode cX10_laid 75 = .ok (.goto (-36), 3) := by decide +kernel
theorem dX10_laid_78 : decode cX10_laid 78 = .ok (.iinc 1 1, 3) := by decide +kernel
theorem dX10_laid_81 : decode cX10_laid 81 = .ok (.goto (-56), 3) := by decide +kernel
theorem dX10_laid_84 : decode cX10_laid 84 = .ok (.iconst 0, 1) := by decide +kernel
theorem dX10_laid_85 : decode cX10_laid 85 = .ok (.istore_n 1, 1) := by decide +kernel
theorem dX10_laid_86 : decode cX10_laid 86 = .ok (.iload_n 1, 1) := by decide +kernel
theorem dX10_laid_87 : decode cX10_laid 87 = .ok (.bipush 30, 2) := by decide +kernel
theorem dX10_laid_89 : decode cX10_laid 89 = .ok (.if_icmp .ge 50, 3) := by decide +kernel
theorem dX10_laid_92 : decode cX10_laid 92 = .ok (.iconst 0, 1) := by decide +kernel
theorem dX10_laid_93 : decode cX10_laid 93 = .ok (.istore_n 2, 1) := by decide +kernel
theorem dX10_laid_94 : decode cX10_laid 94 = .ok (.iload_n 2, 1) := by decide +kernel
theorem dX10_laid_95 : decode cX10_laid 95 = .ok (.aload_n 0, 1) := by decide +kernel
theorem dX10_laid_96 : decode cX10_laid 96 = .ok (.iload_n 1, 1) := by decide +kernel
theorem dX10_laid_97 : decode cX10_laid 97 = .ok (.iconst 3, 1) := by decide +kernel
theorem dX10_laid_98 : decode cX10_laid 98 = .ok (.invokevirtual 57, 3) := by decide +kernel
theorem dX10_laid_101 : decode cX10_laid 101 = .ok (.if_icmp .ge 32, 3) := by decide +kernel
theorem dX10_laid_104 : decode cX10_laid 104 = .ok (.aload_n 0, 1) := by decide +kernel
theorem dX10_laid_105 : decode cX10_laid 105 = .ok (.iload_n 1, 1) := by decide +kernel
theorem dX10_laid_106 : decode cX10_laid 106 = .ok (.iconst 0, 1) := by decide +kernel
theorem dX10_laid_107 : decode cX10_laid 107 = .ok (.invokevirtual 57, 3) := by decide +kernel
theorem dX10_laid_110 : decode cX10_laid 110 = .ok (.ifCond .eq 23, 3) := by decide +kernel
theorem dX10_laid_113 : decode cX10_laid 113 = .ok (.aload_n 0, 1) := by decide +kernel
theorem dX10_laid_114 : decode cX10_laid 114 = .ok (.getfield 22, 3) := by decide +kernel
theorem dX10_laid_117 : decode cX10_laid 117 = .ok (.aload_n 0, 1) := by decide +kernel
theorem dX10_laid_118 : decode cX10_laid 118 = .ok (.iload_n 1, 1) := by decide +kernel
theorem dX10_laid_119 : decode cX10_laid 119 = .ok (.iconst 2, 1) := by decide +kernel
theorem dX10_laid_120 : decode cX10_laid 120 = .ok (.invokevirtual 57, 3) := by decide +kernel
theorem dX10_laid_123 : decode cX10_laid 123 = .ok (.iload_n 2, 1) := by decide +kernel
theorem dX10_laid_124 : decode cX10_laid 124 = .ok (.iadd, 1) := by decide +kernel
theorem dX10_laid_125 : decode cX10_laid 125 = .ok (.iload_n 1, 1) := by decide +kernel
theorem dX10_laid_126 : decode cX10_laid 126 = .ok (.iastore, 1) := by decide +kernel
theorem dX10_laid_127 : decode cX10_laid 127 = .ok (.iinc 2 1, 3) := by decide +kernel
theorem dX10_laid_130 : decode cX10_laid 130 = .ok (.goto (-36), 3) := by decide +kernel
theorem dX10_laid_133 : decode cX10_laid 133 = .ok (.iinc 1 1, 3) := by decide +kernel
theorem dX10_laid_136 : decode cX10_laid 136 = .ok (.goto (-50), 3) := by decide +kernel
theorem dX10_laid_139 : decode cX10_laid 139 = .ok (.return_, 1) := by decide +kernel
theorem dX10_end_0 : decode cX10_end 0 = .ok (.aload_n 0, 1) := by decide +kernel
theorem dX10_end_1 : decode cX10_end 1 = .ok (.getfield 9, 3) := by decide +kernel
theorem dX10_end_4 : decode cX10_end 4 = .ok (.sipush 571, 3) := by decide +kernel
theorem dX10_end_7 : decode cX10_end 7 = .ok (.iload_n 1, 1) := by decide +kernel
theorem dX10_end_8 : decode cX10_end 8 = .ok (.iadd, 1) := by decide +kernel
theorem dX10_end_9 : decode cX10_end 9 = .ok (.iaload, 1) := by decide +kernel
theorem dX10_end_10 : decode cX10_end 10 = .ok (.aload_n 0, 1) := by decide +kernel
theorem dX10_end_11 : decode cX10_end 11 = .ok (.getfield 9, 3) := by decide +kernel
theorem dX10_end_14 : decode cX10_end 14 = .ok (.sipush 577, 3) := by decide +kernel
theorem dX10_end_17 : decode cX10_end 17 = .ok (.iload_n 1, 1) := by decide +kernel
theorem dX10_end_18 : decode cX10_end 18 = .ok (.iadd, 1) := by decide +kernel
theorem dX10_end_19 : decode cX10_end 19 = .ok (.iaload, 1) := by decide +kernel
theorem dX10_end_20 : decode cX10_end 20 = .ok (.iadd, 1) := by decide +kernel
theorem dX10_end_21 : decode cX10_end 21 = .ok (.ireturn, 1) := by decide +kernel
theorem dX10_placed_0 : decode cX10_placed 0 = .ok (.aload_n 0, 1) := by decide +kernel
theorem dX10_placed_1 : decode cX10_placed 1 = .ok (.getfield 9, 3) := by decide +kernel
theorem dX10_placed_4 : decode cX10_placed 4 = .ok (.sipush 583, 3) := by decide +kernel
theorem dX10_placed_7 : decode cX10_placed 7 = .ok (.iload_n 1, 1) := by decide +kernel
theorem dX10_placed_8 : decode cX10_placed 8 = .ok (.iadd, 1) := by decide +kernel
theorem dX10_placed_9 : decode cX10_placed 9 = .ok (.iaload, 1) := by decide +kernel
theorem dX10_placed_10 : decode cX10_placed 10 = .ok (.ifCond .ne 7, 3) := by decide +kernel
theorem dX10_placed_13 : decode cX10_placed 13 = .ok (.iconst 1, 1) := by decide +kernel
theorem dX10_placed_14 : decode cX10_placed 14 = .ok (.goto 4, 3) := by decide +kernel
theorem dX10_placed_17 : decode cX10_placed 17 = .ok (.iconst 0, 1) := by decide +kernel
theorem dX10_placed_18 : decode cX10_placed 18 = .ok (.istore_n 3, 1) := by decide +kernel
theorem dX10_placed_19 : decode cX10_placed 19 = .ok (.iconst 0, 1) := by decide +kernel
theorem dX10_placed_20 : decode cX10_placed 20 = .ok (.istore 4, 2) := by decide +kernel
theorem dX10_placed_22 : decode cX10_placed 22 = .ok (.iconst 0, 1) := by decide +kernel
theorem dX10_placed_23 : decode cX10_placed 23 = .ok (.istore 5, 2) := by decide +kernel
theorem dX10_placed_25 : decode cX10_placed 25 = .ok (.iload 5, 2) := by decide +kernel
theorem dX10_placed_27 : decode cX10_placed 27 = .ok (.aload_n 0, 1) := by decide +kernel
theorem dX10_placed_28 : decode cX10_placed 28 = .ok (.getfield 9, 3) := by decide +kernel
theorem dX10_placed_31 : decode cX10_placed 31 = .ok (.sipush 577, 3) := by decide +kernel
theorem dX10_placed_34 : decode cX10_placed 34 = .ok (.iload_n 1, 1) := by decide +kernel
theorem dX10_placed_35 : decode cX10_placed 35 = .ok (.iadd, 1) := by decide +kernel
theorem dX10_placed_36 : decode cX10_placed 36 = .ok (.iaload, 1) := by decide +kernel
theorem dX10_placed_37 : decode cX10_placed 37 = .ok (.if_icmp .ge 85, 3) := by decide +kernel
theorem dX10_placed_40 : decode cX10_placed 40 = .ok (.iload_n 3, 1) := by decide +kernel
theorem dX10_placed_41 : decode cX10_placed 41 = .ok (.ifCond .eq 19, 3) := by decide +kernel
theorem dX10_placed_44 : decode cX10_placed 44 = .ok (.aload_n 0, 1) := by decide +kernel
theorem dX10_placed_45 : decode cX10_placed 45 = .ok (.getfield 9, 3) := by decide +kernel
theorem dX10_placed_48 : decode cX10_placed 48 = .ok (.sipush 571, 3) := by decide +kernel
theorem dX10_placed_51 : decode cX10_placed 51 = .ok (.iload_n 1, 1) := by decide +kernel
theorem dX10_placed_52 : decode cX10_placed 52 = .ok (.iadd, 1) := by decide +kernel
theorem dX10_placed_53 : decode cX10_placed 53 = .ok (.iaload, 1) := by decide +kernel
theorem dX10_placed_54 : decode cX10_placed 54 = .ok (.iload 5, 2) := by decide +kernel
theorem dX10_placed_56 : decode cX10_placed 56 = .ok (.iadd, 1) := by decide +kernel
theorem dX10_placed_57 : decode cX10_placed 57 = .ok (.goto 13, 3) := by decide +kernel
theorem dX10_placed_60 : decode cX10_placed 60 = .ok (.aload_n 0, 1) := by decide +kernel
theorem dX10_placed_61 : decode cX10_placed 61 = .ok (.iload_n 1, 1) := by decide +kernel
theorem dX10_placed_62 : decode cX10_placed 62 = .ok (.invokevirtual 69, 3) := by decide +kernel
theorem dX10_placed_65 : decode cX10_placed 65 = .ok (.iconst 1, 1) := by decide +kernel
theorem dX10_placed_66 : decode cX10_placed 66 = .ok (.isub, 1) := by decide +kernel
theorem dX10_placed_67 : decode cX10_placed 67 = .ok (.iload 5, 2) := by decide +kernel
theorem dX10_placed_69 : decode cX10_placed 69 = .ok (.isub, 1) := by decide +kernel
theorem dX10_placed_70 : decode cX10_placed 70 = .ok (.istore 6, 2) := by decide +kernel
theorem dX10_placed_72 : decode cX10_placed 72 = .ok (.aload_n 0, 1) := by decide +kernel
theorem dX10_placed_73 : decode cX10_placed 73 = .ok (.getfield 22, 3) := by decide +kernel
theorem dX10_placed_76 : decode cX10_placed 76 = .ok (.iload 6, 2) := by decide +kernel
theorem dX10_placed_78 : decode cX10_placed 78 = .ok (.iaload, 1) := by decide +kernel
theorem dX10_placed_79 : decode cX10_placed 79 = .ok (.bipush 100, 2) := by decide +kernel
theorem dX10_placed_81 : decode cX10_placed 81 = .ok (.if_icmp .ne 10, 3) := by decide +kernel
theorem dX10_placed_84 : decode cX10_placed 84 = .ok (.iload 4, 2) := by decide +kernel
theorem dX10_placed_86 : decode cX10_placed 86 = .ok (.iconst 1, 1) := by decide +kernel
theorem dX10_placed_87 : decode cX10_placed 87 = .ok (.iadd, 1) := by decide +kernel
theorem dX10_placed_88 : decode cX10_placed 88 = .ok (.goto 4, 3) := by decide +kernel
theorem dX10_placed_91 : decode cX10_placed 91 = .ok (.iconst 0, 1) := by decide +kernel
theorem dX10_placed_92 : decode cX10_placed 92 = .ok (.istore 4, 2) := by decide +kernel
theorem dX10_placed_94 : decode cX10_placed 94 = .ok (.iload 4, 2) := by decide +kernel
theorem dX10_placed_96 : decode cX10_placed 96 = .ok (.iload_n 2, 1) := by decide +kernel
theorem dX10_placed_97 : decode cX10_placed 97 = .ok (.if_icmp .ne 19, 3) := by decide +kernel
theorem dX10_placed_100 : decode cX10_placed 100 = .ok (.iload_n 3, 1) := by decide +kernel
theorem dX10_placed_101 : decode cX10_placed 101 = .ok (.ifCond .eq 12, 3) := by decide +kernel
theorem dX10_placed_104 : decode cX10_placed 104 = .ok (.iload 6, 2) := by decide +kernel
theorem dX10_placed_106 : decode cX10_placed 106 = .ok (.iload_n 2, 1) := by decide +kernel
theorem dX10_placed_107 : decode cX10_placed 107 = .ok (.isub, 1) := by decide +kernel
theorem dX10_placed_108 : decode cX10_placed 108 = .ok (.iconst 1, 1) := by decide +kernel
theorem dX10_placed_109 : decode cX10_placed 109 = .ok (.iadd, 1) := by decide +kernel
theorem dX10_placed_110 : decode cX10_placed 110 = .ok (.goto 5, 3) := by decide +kernel
theorem dX10_placed_113 : decode cX10_placed 113 = .ok (.iload 6, 2) := by decide +kernel
theorem dX10_placed_115 : decode cX10_placed 115 = .ok (.ireturn, 1) := by decide +kernel
theorem dX10_placed_116 : decode cX10_placed 116 = .ok (.iinc 5 1, 3) := by decide +kernel
theorem dX10_placed_119 : decode cX10_placed 119 = .ok (.goto (-94), 3) := by decide +kernel
theorem dX10_placed_122 : decode cX10_placed 122 = .ok (.bipush (-2), 2) := by decide +kernel
theorem dX10_placed_124 : decode cX10_placed 124 = .ok (.ireturn, 1) := by decide +kernel
theorem dX10_used_0 : decode cX10_used 0 = .ok (.iconst 0, 1) := by decide +kernel
theorem dX10_used_1 : decode cX10_used 1 = .ok (.istore_n 2, 1) := by decide +kernel
theorem dX10_used_2 : decode cX10_used 2 = .ok (.iconst 0, 1) := by decide +kernel
theorem dX10_used_3 : decode cX10_used 3 = .ok (.istore_n 3, 1) := by decide +kernel
theorem dX10_used_4 : decode cX10_used 4 = .ok (.iload_n 3, 1) := by decide +kernel
theorem dX10_used_5 : decode cX10_used 5 = .ok (.bipush 30, 2) := by decide +kernel
theorem dX10_used_7 : decode cX10_used 7 = .ok (.if_icmp .ge 41, 3) := by decide +kernel
theorem dX10_used_10 : decode cX10_used 10 = .ok (.iload_n 2, 1) := by decide +kernel
theorem dX10_used_11 : decode cX10_used 11 = .ok (.aload_n 0, 1) := by decide +kernel
theorem dX10_used_12 : decode cX10_used 12 = .ok (.iload_n 3, 1) := by decide +kernel
theorem dX10_used_13 : decode cX10_used 13 = .ok (.iconst 0, 1) := by decide +kernel
theorem dX10_used_14 : decode cX10_used 14 = .ok (.invokevirtual 57, 3) := by decide +kernel
theorem dX10_used_17 : decode cX10_used 17 = .ok (.ifCond .eq 22, 3) := by decide +kernel
theorem dX10_used_20 : decode cX10_used 20 = .ok (.aload_n 0, 1) := by decide +kernel
theorem dX10_used_21 : decode cX10_used 21 = .ok (.iload_n 3, 1) := by decide +kernel
theorem dX10_used_22 : decode cX10_used 22 = .ok (.iconst 5, 1) := by decide +kernel
theorem dX10_used_23 : decode cX10_used 23 = .ok (.invokevirtual 57, 3) := by decide +kernel
theorem dX10_used_26 : decode cX10_used 26 = .ok (.iload_n 1, 1) := by decide +kernel
theorem dX10_used_27 : decode cX10_used 27 = .ok (.if_icmp .ne 12, 3) := by decide +kernel
theorem dX10_used_30 : decode cX10_used 30 = .ok (.aload_n 0, 1) := by decide +kernel
theorem dX10_used_31 : decode cX10_used 31 = .ok (.iload_n 3, 1) := by decide +kernel
theorem dX10_used_32 : decode cX10_used 32 = .ok (.iconst 3, 1) := by decide +kernel
theorem dX10_used_33 : decode cX10_used 33 = .ok (.invokevirtual 57, 3) := by decide +kernel
theorem dX10_used_36 : decode cX10_used 36 = .ok (.goto 4, 3) := by decide +kernel
theorem dX10_used_39 : decode cX10_used 39 = .ok (.iconst 0, 1) := by decide +kernel
theorem dX10_used_40 : decode cX10_used 40 = .ok (.iadd, 1) := by decide +kernel
theorem dX10_used_41 : decode cX10_used 41 = .ok (.istore_n 2, 1) := by decide +kernel
theorem dX10_used_42 : decode cX10_used 42 = .ok (.iinc 3 1, 3) := by decide +kernel
theorem dX10_used_45 : decode cX10_used 45 = .ok (.goto (-41), 3) := by decide +kernel
theorem dX10_used_48 : decode cX10_used 48 = .ok (.iload_n 2, 1) := by decide +kernel
theorem dX10_used_49 : decode cX10_used 49 = .ok (.ireturn, 1) := by decide +kernel
theorem dX10_freeSlot_0 : decode cX10_freeSlot 0 = .ok (.iconst 0, 1) := by decide +kernel
theorem dX10_freeSlot_1 : decode cX10_freeSlot 1 = .ok (.istore_n 1, 1) := by decide +kernel
theorem dX10_freeSlot_2 : decode cX10_freeSlot 2 = .ok (.iload_n 1, 1) := by decide +kernel
theorem dX10_freeSlot_3 : decode cX10_freeSlot 3 = .ok (.bipush 30, 2) := by decide +kernel
theorem dX10_freeSlot_5 : decode cX10_freeSlot 5 = .ok (.if_icmp .ge 20, 3) := by decide +kernel
theorem dX10_freeSlot_8 : decode cX10_freeSlot 8 = .ok (.aload_n 0, 1) := by decide +kernel
theorem dX10_freeSlot_9 : decode cX10_freeSlot 9 = .ok (.iload_n 1, 1) := by decide +kernel
theorem dX10_freeSlot_10 : decode cX10_freeSlot 10 = .ok (.iconst 0, 1) := by decide +kernel
theorem dX10_freeSlot_11 : decode cX10_freeSlot 11 = .ok (.invokevirtual 57, 3) := by decide +kernel
theorem dX10_freeSlot_14 : decode cX10_freeSlot 14 = .ok (.ifCond .ne 5, 3) := by decide +kernel
theorem dX10_freeSlot_17 : decode cX10_freeSlot 17 = .ok (.iload_n 1, 1) := by decide +kernel
theorem dX10_freeSlot_18 : decode cX10_freeSlot 18 = .ok (.ireturn, 1) := by decide +kernel
theorem dX10_freeSlot_19 : decode cX10_freeSlot 19 = .ok (.iinc 1 1, 3) := by decide +kernel
theorem dX10_freeSlot_22 : decode cX10_freeSlot 22 = .ok (.goto (-20), 3) := by decide +kernel
theorem dX10_freeSlot_25 : decode cX10_freeSlot 25 = .ok (.bipush (-2), 2) := by decide +kernel
theorem dX10_freeSlot_27 : decode cX10_freeSlot 27 = .ok (.ireturn, 1) := by decide +kernel
theorem dX10_region_0 : decode cX10_region 0 = .ok (.iload_n 1, 1) := by decide +kernel
theorem dX10_region_1 : decode cX10_region 1 = .ok (.bipush 8, 2) := by decide +kernel
theorem dX10_region_3 : decode cX10_region 3 = .ok (.bipush 120, 2) := by decide +kernel
theorem dX10_region_5 : decode cX10_region 5 = .ok (.invokestatic 65, 3) := by decide +kernel
theorem dX10_region_8 : decode cX10_region 8 = .ok (.ifCond .eq 12, 3) := by decide +kernel
theorem dX10_region_11 : decode cX10_region 11 = .ok (.iload_n 2, 1) := by decide +kernel
theorem dX10_region_12 : decode cX10_region 12 = .ok (.iconst 0, 1) := by decide +kernel
theorem dX10_region_13 : decode cX10_region 13 = .ok (.iconst 1, 1) := by decide +kernel
theorem dX10_region_14 : decode cX10_region 14 = .ok (.invokestatic 65, 3) := by decide +kernel
theorem dX10_region_17 : decode cX10_region 17 = .ok (.ifCond .ne 5, 3) := by decide +kernel
theorem dX10_region_20 : decode cX10_region 20 = .ok (.iconst (-1), 1) := by decide +kernel
theorem dX10_region_21 : decode cX10_region 21 = .ok (.ireturn, 1) := by decide +kernel
theorem dX10_region_22 : decode cX10_region 22 = .ok (.iconst 0, 1) := by decide +kernel
theorem dX10_region_23 : decode cX10_region 23 = .ok (.istore_n 3, 1) := by decide +kernel
theorem dX10_region_24 : decode cX10_region 24 = .ok (.iconst 0, 1) := by decide +kernel
theorem dX10_region_25 : decode cX10_region 25 = .ok (.istore 4, 2) := by decide +kernel
theorem dX10_region_27 : decode cX10_region 27 = .ok (.iload 4, 2) := by decide +kernel
theorem dX10_region_29 : decode cX10_region 29 = .ok (.aload_n 0, 1) := by decide +kernel
theorem dX10_region_30 : decode cX10_region 30 = .ok (.getfield 9, 3) := by decide +kernel
theorem dX10_region_33 : decode cX10_region 33 = .ok (.sipush 570, 3) := by decide +kernel
theorem dX10_region_36 : decode cX10_region 36 = .ok (.iaload, 1) := by decide +kernel
theorem dX10_region_37 : decode cX10_region 37 = .ok (.if_icmp .ge 30, 3) := by decide +kernel
theorem dX10_region_40 : decode cX10_region 40 = .ok (.aload_n 0, 1) := by decide +kernel
theorem dX10_region_41 : decode cX10_region 41 = .ok (.iload 4, 2) := by decide +kernel
theorem dX10_region_43 : decode cX10_region 43 = .ok (.invokevirtual 69, 3) := by decide +kernel
theorem dX10_region_46 : decode cX10_region 46 = .ok (.iload_n 3, 1) := by decide +kernel
theorem dX10_region_47 : decode cX10_region 47 = .ok (.if_icmp .le 12, 3) := by decide +kernel
theorem dX10_region_50 : decode cX10_region 50 = .ok (.aload_n 0, 1) := by decide +kernel
theorem dX10_region_51 : decode cX10_region 51 = .ok (.iload 4, 2) := by decide +kernel
theorem dX10_region_53 : decode cX10_region 53 = .ok (.invokevirtual 69, 3) := by decide +kernel
theorem dX10_region_56 : decode cX10_region 56 = .ok (.goto 4, 3) := by decide +kernel
theorem dX10_region_59 : decode cX10_region 59 = .ok (.iload_n 3, 1) := by decide +kernel
theorem dX10_region_60 : decode cX10_region 60 = .ok (.istore_n 3, 1) := by decide +kernel
theorem dX10_region_61 : decode cX10_region 61 = .ok (.iinc 4 1, 3) := by decide +kernel
theorem dX10_region_64 : decode cX10_region 64 = .ok (.goto (-37), 3) := by decide +kernel
theorem dX10_region_67 : decode cX10_region 67 = .ok (.aload_n 0, 1) := by decide +kernel
theorem dX10_region_68 : decode cX10_region 68 = .ok (.getfield 9, 3) := by decide +kernel
theorem dX10_region_71 : decode cX10_region 71 = .ok (.sipush 570, 3) := by decide +kernel
theorem dX10_region_74 : decode cX10_region 74 = .ok (.iaload, 1) := by decide +kernel
theorem dX10_region_75 : decode cX10_region 75 = .ok (.bipush 6, 2) := by decide +kernel
theorem dX10_region_77 : decode cX10_region 77 = .ok (.if_icmp .eq 12, 3) := by decide +kernel
theorem dX10_region_80 : decode cX10_region 80 = .ok (.iload_n 3, 1) := by decide +kernel
theorem dX10_region_81 : decode cX10_region 81 = .ok (.iload_n 1, 1) := by decide +kernel
theorem dX10_region_82 : decode cX10_region 82 = .ok (.iadd, 1) := by decide +kernel
theorem dX10_region_83 : decode cX10_region 83 = .ok (.sipush 240, 3) := by decide +kernel
theorem dX10_region_86 : decode cX10_region 86 = .ok (.if_icmp .le 6, 3) := by decide +kernel
theorem dX10_region_89 : decode cX10_region 89 = .ok (.bipush (-3), 2) := by decide +kernel
theorem dX10_region_91 : decode cX10_region 91 = .ok (.ireturn, 1) := by decide +kernel
theorem dX10_region_92 : decode cX10_region 92 = .ok (.aload_n 0, 1) := by decide +kernel
theorem dX10_region_93 : decode cX10_region 93 = .ok (.getfield 9, 3) := by decide +kernel
theorem dX10_region_96 : decode cX10_region 96 = .ok (.sipush 570, 3) := by decide +kernel
theorem dX10_region_99 : decode cX10_region 99 = .ok (.dup2, 1) := by decide +kernel
theorem dX10_region_100 : decode cX10_region 100 = .ok (.iaload, 1) := by decide +kernel
theorem dX10_region_101 : decode cX10_region 101 = .ok (.dup_x2, 1) := by decide +kernel
theorem dX10_region_102 : decode cX10_region 102 = .ok (.iconst 1, 1) := by decide +kernel
theorem dX10_region_103 : decode cX10_region 103 = .ok (.iadd, 1) := by decide +kernel
theorem dX10_region_104 : decode cX10_region 104 = .ok (.iastore, 1) := by decide +kernel
theorem dX10_region_105 : decode cX10_region 105 = .ok (.istore 4, 2) := by decide +kernel
theorem dX10_region_107 : decode cX10_region 107 = .ok (.aload_n 0, 1) := by decide +kernel
theorem dX10_region_108 : decode cX10_region 108 = .ok (.getfield 9, 3) := by decide +kernel
theorem dX10_region_111 : decode cX10_region 111 = .ok (.sipush 571, 3) := by decide +kernel
theorem dX10_region_114 : decode cX10_region 114 = .ok (.iload 4, 2) := by decide +kernel
theorem dX10_region_116 : decode cX10_region 116 = .ok (.iadd, 1) := by decide +kernel
theorem dX10_region_117 : decode cX10_region 117 = .ok (.iload_n 3, 1) := by decide +kernel
theorem dX10_region_118 : decode cX10_region 118 = .ok (.iastore, 1) := by decide +kernel
theorem dX10_region_119 : decode cX10_region 119 = .ok (.aload_n 0, 1) := by decide +kernel
theorem dX10_region_120 : decode cX10_region 120 = .ok (.getfield 9, 3) := by decide +kernel
theorem dX10_region_123 : decode cX10_region 123 = .ok (.sipush 577, 3) := by decide +kernel
theorem dX10_region_126 : decode cX10_region 126 = .ok (.iload 4, 2) := by decide +kernel
theorem dX10_region_128 : decode cX10_region 128 = .ok (.iadd, 1) := by decide +kernel
theorem dX10_region_129 : decode cX10_region 129 = .ok (.iload_n 1, 1) := by decide +kernel
theorem dX10_region_130 : decode cX10_region 130 = .ok (.iastore, 1) := by decide +kernel
theorem dX10_region_131 : decode cX10_region 131 = .ok (.aload_n 0, 1) := by decide +kernel
theorem dX10_region_132 : decode cX10_region 132 = .ok (.getfield 9, 3) := by decide +kernel
theorem dX10_region_135 : decode cX10_region 135 = .ok (.sipush 583, 3) := by decide +kernel
theorem dX10_region_138 : decode cX10_region 138 = .ok (.iload 4, 2) := by decide +kernel
theorem dX10_region_140 : decode cX10_region 140 = .ok (.iadd, 1) := by decide +kernel
theorem dX10_region_141 : decode cX10_region 141 = .ok (.iload_n 2, 1) := by decide +kernel
theorem dX10_region_142 : decode cX10_region 142 = .ok (.iastore, 1) := by decide +kernel
theorem dX10_region_143 : decode cX10_region 143 = .ok (.iload 4, 2) := by decide +kernel
theorem dX10_region_145 : decode cX10_region 145 = .ok (.ireturn, 1) := by decide +kernel
theorem dX10_block_0 : decode cX10_block 0 = .ok (.aload_n 0, 1) := by decide +kernel
theorem dX10_block_1 : decode cX10_block 1 = .ok (.iload_n 1, 1) := by decide +kernel
theorem dX10_block_2 : decode cX10_block 2 = .ok (.invokevirtual 73, 3) := by decide +kernel
theorem dX10_block_5 : decode cX10_block 5 = .ok (.ifCond .eq 23, 3) := by decide +kernel
theorem dX10_block_8 : decode cX10_block 8 = .ok (.iload_n 2, 1) := by decide +kernel
theorem dX10_block_9 : decode cX10_block 9 = .ok (.iconst 1, 1) := by decide +kernel
theorem dX10_block_10 : decode cX10_block 10 = .ok (.bipush 40, 2) := by decide +kernel
theorem dX10_block_12 : decode cX10_block 12 = .ok (.invokestatic 65, 3) := by decide +kernel
theorem dX10_block_15 : decode cX10_block 15 = .ok (.ifCond .eq 13, 3) := by decide +kernel
theorem dX10_block_18 : decode cX10_block 18 = .ok (.iload_n 3, 1) := by decide +kernel
theorem dX10_block_19 : decode cX10_block 19 = .ok (.iconst 0, 1) := by decide +kernel
theorem dX10_block_20 : decode cX10_block 20 = .ok (.bipush 9, 2) := by decide +kernel
theorem dX10_block_22 : decode cX10_block 22 = .ok (.invokestatic 65, 3) := by decide +kernel
theorem dX10_block_25 : decode cX10_block 25 = .ok (.ifCond .ne 5, 3) := by decide +kernel
theorem dX10_block_28 : decode cX10_block 28 = .ok (.iconst (-1), 1) := by decide +kernel
theorem dX10_block_29 : decode cX10_block 29 = .ok (.ireturn, 1) := by decide +kernel
theorem dX10_block_30 : decode cX10_block 30 = .ok (.aload_n 0, 1) := by decide +kernel
theorem dX10_block_31 : decode cX10_block 31 = .ok (.iload_n 3, 1) := by decide +kernel
theorem dX10_block_32 : decode cX10_block 32 = .ok (.invokevirtual 76, 3) := by decide +kernel
theorem dX10_block_35 : decode cX10_block 35 = .ok (.iload_n 2, 1) := by decide +kernel
theorem dX10_block_36 : decode cX10_block 36 = .ok (.iadd, 1) := by decide +kernel
theorem dX10_block_37 : decode cX10_block 37 = .ok (.aload_n 0, 1) := by decide +kernel
theorem dX10_block_38 : decode cX10_block 38 = .ok (.getfield 9, 3) := by decide +kernel
theorem dX10_block_41 : decode cX10_block 41 = .ok (.sipush 589, 3) := by decide +kernel
theorem dX10_block_44 : decode cX10_block 44 = .ok (.iload_n 3, 1) := by decide +kernel
theorem dX10_block_45 : decode cX10_block 45 = .ok (.iadd, 1) := by decide +kernel
theorem dX10_block_46 : decode cX10_block 46 = .ok (.iaload, 1) := by decide +kernel
theorem dX10_block_47 : decode cX10_block 47 = .ok (.if_icmp .le 6, 3) := by decide +kernel
theorem dX10_block_50 : decode cX10_block 50 = .ok (.bipush (-6), 2) := by decide +kernel
theorem dX10_block_52 : decode cX10_block 52 = .ok (.ireturn, 1) := by decide +kernel
theorem dX10_block_53 : decode cX10_block 53 = .ok (.aload_n 0, 1) := by decide +kernel
theorem dX10_block_54 : decode cX10_block 54 = .ok (.invokevirtual 79, 3) := by decide +kernel
theorem dX10_block_57 : decode cX10_block 57 = .ok (.aload_n 0, 1) := by decide +kernel
theorem dX10_block_58 : decode cX10_block 58 = .ok (.iload_n 1, 1) := by decide +kernel
theorem dX10_block_59 : decode cX10_block 59 = .ok (.iload_n 2, 1) := by decide +kernel
theorem dX10_block_60 : decode cX10_block 60 = .ok (.invokevirtual 82, 3) := by decide +kernel
theorem dX10_block_63 : decode cX10_block 63 = .ok (.istore 4, 2) := by decide +kernel
theorem dX10_block_65 : decode cX10_block 65 = .ok (.aload_n 0, 1) := by decide +kernel
theorem dX10_block_66 : decode cX10_block 66 = .ok (.invokevirtual 85, 3) := by decide +kernel
theorem dX10_block_69 : decode cX10_block 69 = .ok (.istore 5, 2) := by decide +kernel
theorem dX10_block_71 : decode cX10_block 71 = .ok (.iload 4, 2) := by decide +kernel
theorem dX10_block_73 : decode cX10_block 73 = .ok (.ifCond .lt 8, 3) := by decide +kernel
theorem dX10_block_76 : decode cX10_block 76 = .ok (.iload 5, 2) := by decide +kernel
theorem dX10_block_78 : decode cX10_block 78 = .ok (.ifCond .ge 6, 3) := by decide +kernel
theorem dX10_block_81 : decode cX10_block 81 = .ok (.bipush (-3), 2) := by decide +kernel
theorem dX10_block_83 : decode cX10_block 83 = .ok (.ireturn, 1) := by decide +kernel
theorem dX10_block_84 : decode cX10_block 84 = .ok (.aload_n 0, 1) := by decide +kernel
theorem dX10_block_85 : decode cX10_block 85 = .ok (.iload 5, 2) := by decide +kernel
theorem dX10_block_87 : decode cX10_block 87 = .ok (.iconst 0, 1) := by decide +kernel
theorem dX10_block_88 : decode cX10_block 88 = .ok (.iconst 1, 1) := by decide +kernel
theorem dX10_block_89 : decode cX10_block 89 = .ok (.invokevirtual 89, 3) := by decide +kernel
theorem dX10_block_92 : decode cX10_block 92 = .ok (.aload_n 0, 1) := by decide +kernel
theorem dX10_block_93 : decode cX10_block 93 = .ok (.iload 5, 2) := by decide +kernel
theorem dX10_block_95 : decode cX10_block 95 = .ok (.iconst 1, 1) := by decide +kernel
theorem dX10_block_96 : decode cX10_block 96 = .ok (.aload_n 0, 1) := by decide +kernel
theorem dX10_block_97 : decode cX10_block 97 = .ok (.iload 5, 2) := by decide +kernel
theorem dX10_block_99 : decode cX10_block 99 = .ok (.iconst 1, 1) := by decide +kernel
theorem dX10_block_100 : decode cX10_block 100 = .ok (.invokevirtual 57, 3) := by decide +kernel
theorem dX10_block_103 : decode cX10_block 103 = .ok (.iconst 1, 1) := by decide +kernel
theorem dX10_block_104 : decode cX10_block 104 = .ok (.iadd, 1) := by decide +kernel
theorem dX10_block_105 : decode cX10_block 105 = .ok (.invokevirtual 89, 3) := by decide +kernel
theorem dX10_block_108 : decode cX10_block 108 = .ok (.aload_n 0, 1) := by decide +kernel
theorem dX10_block_109 : decode cX10_block 109 = .ok (.iload 5, 2) := by decide +kernel
theorem dX10_block_111 : decode cX10_block 111 = .ok (.iconst 2, 1) := by decide +kernel
theorem dX10_block_112 : decode cX10_block 112 = .ok (.iload 4, 2) := by decide +kernel
theorem dX10_block_114 : decode cX10_block 114 = .ok (.invokevirtual 89, 3) := by decide +kernel
theorem dX10_block_117 : decode cX10_block 117 = .ok (.aload_n 0, 1) := by decide +kernel
theorem dX10_block_118 : decode cX10_block 118 = .ok (.iload 5, 2) := by decide +kernel
theorem dX10_block_120 : decode cX10_block 120 = .ok (.iconst 3, 1) := by decide +kernel
theorem dX10_block_121 : decode cX10_block 121 = .ok (.iload_n 2, 1) := by decide +kernel
theorem dX10_block_122 : decode cX10_block 122 = .ok (.invokevirtual 89, 3) := by decide +kernel
theorem dX10_block_125 : decode cX10_block 125 = .ok (.aload_n 0, 1) := by decide +kernel
theorem dX10_block_126 : decode cX10_block 126 = .ok (.iload 5, 2) := by decide +kernel
theorem dX10_block_128 : decode cX10_block 128 = .ok (.iconst 4, 1) := by decide +kernel
theorem dX10_block_129 : decode cX10_block 129 = .ok (.iload_n 1, 1) := by decide +kernel
theorem dX10_block_130 : decode cX10_block 130 = .ok (.invokevirtual 89, 3) := by decide +kernel
theorem dX10_block_133 : decode cX10_block 133 = .ok (.aload_n 0, 1) := by decide +kernel
theorem dX10_block_134 : decode cX10_block 134 = .ok (.iload 5, 2) := by decide +kernel
theorem dX10_block_136 : decode cX10_block 136 = .ok (.iconst 5, 1) := by decide +kernel
theorem dX10_block_137 : decode cX10_block 137 = .ok (.iload_n 3, 1) := by decide +kernel
theorem dX10_block_138 : decode cX10_block 138 = .ok (.invokevirtual 89, 3) := by decide +kernel
theorem dX10_block_141 : decode cX10_block 141 = .ok (.aload_n 0, 1) := by decide +kernel
theorem dX10_block_142 : decode cX10_block 142 = .ok (.iload 5, 2) := by decide +kernel
theorem dX10_block_144 : decode cX10_block 144 = .ok (.bipush 6, 2) := by decide +kernel
theorem dX10_block_146 : decode cX10_block 146 = .ok (.iconst 0, 1) := by decide +kernel
theorem dX10_block_147 : decode cX10_block 147 = .ok (.invokevirtual 89, 3) := by decide +kernel
theorem dX10_block_150 : decode cX10_block 150 = .ok (.aload_n 0, 1) := by decide +kernel
theorem dX10_block_151 : decode cX10_block 151 = .ok (.iload 5, 2) := by decide +kernel
theorem dX10_block_153 : decode cX10_block 153 = .ok (.bipush 7, 2) := by decide +kernel
theorem dX10_block_155 : decode cX10_block 155 = .ok (.iconst (-1), 1) := by decide +kernel
theorem dX10_block_156 : decode cX10_block 156 = .ok (.invokevirtual 89, 3) := by decide +kernel
theorem dX10_block_159 : decode cX10_block 159 = .ok (.iconst 0, 1) := by decide +kernel
theorem dX10_block_160 : decode cX10_block 160 = .ok (.istore 6, 2) := by decide +kernel
theorem dX10_block_162 : decode cX10_block 162 = .ok (.iload 6, 2) := by decide +kernel
theorem dX10_block_164 : decode cX10_block 164 = .ok (.iload_n 2, 1) := by decide +kernel
theorem dX10_block_165 : decode cX10_block 165 = .ok (.if_icmp .ge 24, 3) := by decide +kernel
theorem dX10_block_168 : decode cX10_block 168 = .ok (.aload_n 0, 1) := by decide +kernel
theorem dX10_block_169 : decode cX10_block 169 = .ok (.getfield 9, 3) := by decide +kernel
theorem dX10_block_172 : decode cX10_block 172 = .ok (.sipush 330, 3) := by decide +kernel
theorem dX10_block_175 : decode cX10_block 175 = .ok (.iload 4, 2) := by decide +kernel
theorem dX10_block_177 : decode cX10_block 177 = .ok (.iadd, 1) := by decide +kernel
theorem dX10_block_178 : decode cX10_block 178 = .ok (.iload 6, 2) := by decide +kernel
theorem dX10_block_180 : decode cX10_block 180 = .ok (.iadd, 1) := by decide +kernel
theorem dX10_block_181 : decode cX10_block 181 = .ok (.iconst 0, 1) := by decide +kernel
theorem dX10_block_182 : decode cX10_block 182 = .ok (.iastore, 1) := by decide +kernel
theorem dX10_block_183 : decode cX10_block 183 = .ok (.iinc 6 1, 3) := by decide +kernel
theorem dX10_block_186 : decode cX10_block 186 = .ok (.goto (-24), 3) := by decide +kernel
theorem dX10_block_189 : decode cX10_block 189 = .ok (.aload_n 0, 1) := by decide +kernel
theorem dX10_block_190 : decode cX10_block 190 = .ok (.iload 5, 2) := by decide +kernel
theorem dX10_block_192 : decode cX10_block 192 = .ok (.invokevirtual 93, 3) := by decide +kernel
theorem dX10_block_195 : decode cX10_block 195 = .ok (.ireturn, 1) := by decide +kernel
theorem dX10_free_0 : decode cX10_free 0 = .ok (.aload_n 0, 1) := by decide +kernel
theorem dX10_free_1 : decode cX10_free 1 = .ok (.iload_n 1, 1) := by decide +kernel
theorem dX10_free_2 : decode cX10_free 2 = .ok (.invokevirtual 96, 3) := by decide +kernel
theorem dX10_free_5 : decode cX10_free 5 = .ok (.istore_n 2, 1) := by decide +kernel
theorem dX10_free_6 : decode cX10_free 6 = .ok (.iload_n 2, 1) := by decide +kernel
theorem dX10_free_7 : decode cX10_free 7 = .ok (.ifCond .ge 6, 3) := by decide +kernel
theorem dX10_free_10 : decode cX10_free 10 = .ok (.bipush (-4), 2) := by decide +kernel
theorem dX10_free_12 : decode cX10_free 12 = .ok (.ireturn, 1) := by decide +kernel
theorem dX10_free_13 : decode cX10_free 13 = .ok (.aload_n 0, 1) := by decide +kernel
theorem dX10_free_14 : decode cX10_free 14 = .ok (.iload_n 2, 1) := by decide +kernel
theorem dX10_free_15 : decode cX10_free 15 = .ok (.bipush 6, 2) := by decide +kernel
theorem dX10_free_17 : decode cX10_free 17 = .ok (.invokevirtual 57, 3) := by decide +kernel
theorem dX10_free_20 : decode cX10_free 20 = .ok (.ifCond .le 6, 3) := by decide +kernel
theorem dX10_free_23 : decode cX10_free 23 = .ok (.bipush (-5), 2) := by decide +kernel
theorem dX10_free_25 : decode cX10_free 25 = .ok (.ireturn, 1) := by decide +kernel
theorem dX10_free_26 : decode cX10_free 26 = .ok (.aload_n 0, 1) := by decide +kernel
theorem dX10_free_27 : decode cX10_free 27 = .ok (.iload_n 2, 1) := by decide +kernel
theorem dX10_free_28 : decode cX10_free 28 = .ok (.iconst 0, 1) := by decide +kernel
theorem dX10_free_29 : decode cX10_free 29 = .ok (.iconst 2, 1) := by decide +kernel
theorem dX10_free_30 : decode cX10_free 30 = .ok (.invokevirtual 89, 3) := by decide +kernel
theorem dX10_free_33 : decode cX10_free 33 = .ok (.aload_n 0, 1) := by decide +kernel
theorem dX10_free_34 : decode cX10_free 34 = .ok (.iload_n 2, 1) := by decide +kernel
theorem dX10_free_35 : decode cX10_free 35 = .ok (.bipush 7, 2) := by decide +kernel
theorem dX10_free_37 : decode cX10_free 37 = .ok (.iconst (-1), 1) := by decide +kernel
theorem dX10_free_38 : decode cX10_free 38 = .ok (.invokevirtual 89, 3) := by decide +kernel
theorem dX10_free_41 : decode cX10_free 41 = .ok (.aload_n 0, 1) := by decide +kernel
theorem dX10_free_42 : decode cX10_free 42 = .ok (.iload_n 2, 1) := by decide +kernel
theorem dX10_free_43 : decode cX10_free 43 = .ok (.bipush 9, 2) := by decide +kernel
theorem dX10_free_45 : decode cX10_free 45 = .ok (.aload_n 0, 1) := by decide +kernel
theorem dX10_free_46 : decode cX10_free 46 = .ok (.getfield 9, 3) := by decide +kernel
theorem dX10_free_49 : decode cX10_free 49 = .ok (.sipush 605, 3) := by decide +kernel
theorem dX10_free_52 : decode cX10_free 52 = .ok (.iaload, 1) := by decide +kernel
theorem dX10_free_53 : decode cX10_free 53 = .ok (.invokevirtual 89, 3) := by decide +kernel
theorem dX10_free_56 : decode cX10_free 56 = .ok (.aload_n 0, 1) := by decide +kernel
theorem dX10_free_57 : decode cX10_free 57 = .ok (.iload_n 2, 1) := by decide +kernel
theorem dX10_free_58 : decode cX10_free 58 = .ok (.bipush 10, 2) := by decide +kernel
theorem dX10_free_60 : decode cX10_free 60 = .ok (.aload_n 0, 1) := by decide +kernel
theorem dX10_free_61 : decode cX10_free 61 = .ok (.getfield 9, 3) := by decide +kernel
theorem dX10_free_64 : decode cX10_free 64 = .ok (.sipush 606, 3) := by decide +kernel
theorem dX10_free_67 : decode cX10_free 67 = .ok (.dup2, 1) := by decide +kernel
theorem dX10_free_68 : decode cX10_free 68 = .ok (.iaload, 1) := by decide +kernel
theorem dX10_free_69 : decode cX10_free 69 = .ok (.dup_x2, 1) := by decide +kernel
theorem dX10_free_70 : decode cX10_free 70 = .ok (.iconst 1, 1) := by decide +kernel
theorem dX10_free_71 : decode cX10_free 71 = .ok (.iadd, 1) := by decide +kernel
theorem dX10_free_72 : decode cX10_free 72 = .ok (.iastore, 1) := by decide +kernel
theorem dX10_free_73 : decode cX10_free 73 = .ok (.invokevirtual 89, 3) := by decide +kernel
theorem dX10_free_76 : decode cX10_free 76 = .ok (.aload_n 0, 1) := by decide +kernel
theorem dX10_free_77 : decode cX10_free 77 = .ok (.getfield 9, 3) := by decide +kernel
theorem dX10_free_80 : decode cX10_free 80 = .ok (.sipush 605, 3) := by decide +kernel
theorem dX10_free_83 : decode cX10_free 83 = .ok (.iaload, 1) := by decide +kernel
theorem dX10_free_84 : decode cX10_free 84 = .ok (.ireturn, 1) := by decide +kernel
theorem dX10_pin_0 : decode cX10_pin 0 = .ok (.iload_n 2, 1) := by decide +kernel
theorem dX10_pin_1 : decode cX10_pin 1 = .ok (.iconst 1, 1) := by decide +kernel
theorem dX10_pin_2 : decode cX10_pin 2 = .ok (.if_icmp .eq 10, 3) := by decide +kernel
theorem dX10_pin_5 : decode cX10_pin 5 = .ok (.iload_n 2, 1) := by decide +kernel
theorem dX10_pin_6 : decode cX10_pin 6 = .ok (.iconst (-1), 1) := by decide +kernel
theorem dX10_pin_7 : decode cX10_pin 7 = .ok (.if_icmp .eq 5, 3) := by decide +kernel
theorem dX10_pin_10 : decode cX10_pin 10 = .ok (.iconst (-1), 1) := by decide +kernel
theorem dX10_pin_11 : decode cX10_pin 11 = .ok (.ireturn, 1) := by decide +kernel
theorem dX10_pin_12 : decode cX10_pin 12 = .ok (.aload_n 0, 1) := by decide +kernel
theorem dX10_pin_13 : decode cX10_pin 13 = .ok (.iload_n 1, 1) := by decide +kernel
theorem dX10_pin_14 : decode cX10_pin 14 = .ok (.invokevirtual 96, 3) := by decide +kernel
theorem dX10_pin_17 : decode cX10_pin 17 = .ok (.istore_n 3, 1) := by decide +kernel
theorem dX10_pin_18 : decode cX10_pin 18 = .ok (.iload_n 3, 1) := by decide +kernel
theorem dX10_pin_19 : decode cX10_pin 19 = .ok (.ifCond .ge 6, 3) := by decide +kernel
theorem dX10_pin_22 : decode cX10_pin 22 = .ok (.bipush (-4), 2) := by decide +kernel
theorem dX10_pin_24 : decode cX10_pin 24 = .ok (.ireturn, 1) := by decide +kernel
theorem dX10_pin_25 : decode cX10_pin 25 = .ok (.aload_n 0, 1) := by decide +kernel
theorem dX10_pin_26 : decode cX10_pin 26 = .ok (.iload_n 3, 1) := by decide +kernel
theorem dX10_pin_27 : decode cX10_pin 27 = .ok (.bipush 6, 2) := by decide +kernel
theorem dX10_pin_29 : decode cX10_pin 29 = .ok (.invokevirtual 57, 3) := by decide +kernel
theorem dX10_pin_32 : decode cX10_pin 32 = .ok (.iload_n 2, 1) := by decide +kernel
theorem dX10_pin_33 : decode cX10_pin 33 = .ok (.iadd, 1) := by decide +kernel
theorem dX10_pin_34 : decode cX10_pin 34 = .ok (.iconst 0, 1) := by decide +kernel
theorem dX10_pin_35 : decode cX10_pin 35 = .ok (.bipush 9, 2) := by decide +kernel
theorem dX10_pin_37 : decode cX10_pin 37 = .ok (.invokestatic 65, 3) := by decide +kernel
theorem dX10_pin_40 : decode cX10_pin 40 = .ok (.ifCond .ne 6, 3) := by decide +kernel
theorem dX10_pin_43 : decode cX10_pin 43 = .ok (.bipush (-5), 2) := by decide +kernel
theorem dX10_pin_45 : decode cX10_pin 45 = .ok (.ireturn, 1) := by decide +kernel
theorem dX10_pin_46 : decode cX10_pin 46 = .ok (.aload_n 0, 1) := by decide +kernel
theorem dX10_pin_47 : decode cX10_pin 47 = .ok (.iload_n 3, 1) := by decide +kernel
theorem dX10_pin_48 : decode cX10_pin 48 = .ok (.bipush 6, 2) := by decide +kernel
theorem dX10_pin_50 : decode cX10_pin 50 = .ok (.aload_n 0, 1) := by decide +kernel
theorem dX10_pin_51 : decode cX10_pin 51 = .ok (.iload_n 3, 1) := by decide +kernel
theorem dX10_pin_52 : decode cX10_pin 52 = .ok (.bipush 6, 2) := by decide +kernel
theorem dX10_pin_54 : decode cX10_pin 54 = .ok (.invokevirtual 57, 3) := by decide +kernel
theorem dX10_pin_57 : decode cX10_pin 57 = .ok (.iload_n 2, 1) := by decide +kernel
theorem dX10_pin_58 : decode cX10_pin 58 = .ok (.iadd, 1) := by decide +kernel
theorem dX10_pin_59 : decode cX10_pin 59 = .ok (.invokevirtual 89, 3) := by decide +kernel
theorem dX10_pin_62 : decode cX10_pin 62 = .ok (.aload_n 0, 1) := by decide +kernel
theorem dX10_pin_63 : decode cX10_pin 63 = .ok (.iload_n 3, 1) := by decide +kernel
theorem dX10_pin_64 : decode cX10_pin 64 = .ok (.bipush 6, 2) := by decide +kernel
theorem dX10_pin_66 : decode cX10_pin 66 = .ok (.invokevirtual 57, 3) := by decide +kernel
theorem dX10_pin_69 : decode cX10_pin 69 = .ok (.ireturn, 1) := by decide +kernel
theorem dX10_goes_0 : decode cX10_goes 0 = .ok (.sipush 330, 3) := by decide +kernel
theorem dX10_goes_3 : decode cX10_goes 3 = .ok (.aload_n 0, 1) := by decide +kernel
theorem dX10_goes_4 : decode cX10_goes 4 = .ok (.iload_n 1, 1) := by decide +kernel
theorem dX10_goes_5 : decode cX10_goes 5 = .ok (.iconst 2, 1) := by decide +kernel
theorem dX10_goes_6 : decode cX10_goes 6 = .ok (.invokevirtual 57, 3) := by decide +kernel
theorem dX10_goes_9 : decode cX10_goes 9 = .ok (.iadd, 1) := by decide +kernel
theorem dX10_goes_10 : decode cX10_goes 10 = .ok (.istore_n 3, 1) := by decide +kernel
theorem dX10_goes_11 : decode cX10_goes 11 = .ok (.iconst 0, 1) := by decide +kernel
theorem dX10_goes_12 : decode cX10_goes 12 = .ok (.istore 4, 2) := by decide +kernel
theorem dX10_goes_14 : decode cX10_goes 14 = .ok (.iload 4, 2) := by decide +kernel
theorem dX10_goes_16 : decode cX10_goes 16 = .ok (.aload_n 0, 1) := by decide +kernel
theorem dX10_goes_17 : decode cX10_goes 17 = .ok (.iload_n 1, 1) := by decide +kernel
theorem dX10_goes_18 : decode cX10_goes 18 = .ok (.iconst 3, 1) := by decide +kernel
theorem dX10_goes_19 : decode cX10_goes 19 = .ok (.invokevirtual 57, 3) := by decide +kernel
theorem dX10_goes_22 : decode cX10_goes 22 = .ok (.if_icmp .ge 25, 3) := by decide +kernel
theorem dX10_goes_25 : decode cX10_goes 25 = .ok (.aload_n 0, 1) := by decide +kernel
theorem dX10_goes_26 : decode cX10_goes 26 = .ok (.getfield 25, 3) := by decide +kernel
theorem dX10_goes_29 : decode cX10_goes 29 = .ok (.iload 4, 2) := by decide +kernel
theorem dX10_goes_31 : decode cX10_goes 31 = .ok (.aload_n 0, 1) := by decide +kernel
theorem dX10_goes_32 : decode cX10_goes 32 = .ok (.getfield 9, 3) := by decide +kernel
theorem dX10_goes_35 : decode cX10_goes 35 = .ok (.iload_n 3, 1) := by decide +kernel
theorem dX10_goes_36 : decode cX10_goes 36 = .ok (.iload 4, 2) := by decide +kernel
theorem dX10_goes_38 : decode cX10_goes 38 = .ok (.iadd, 1) := by decide +kernel
theorem dX10_goes_39 : decode cX10_goes 39 = .ok (.iaload, 1) := by decide +kernel
theorem dX10_goes_40 : decode cX10_goes 40 = .ok (.iastore, 1) := by decide +kernel
theorem dX10_goes_41 : decode cX10_goes 41 = .ok (.iinc 4 1, 3) := by decide +kernel
theorem dX10_goes_44 : decode cX10_goes 44 = .ok (.goto (-30), 3) := by decide +kernel
theorem dX10_goes_47 : decode cX10_goes 47 = .ok (.iconst 0, 1) := by decide +kernel
theorem dX10_goes_48 : decode cX10_goes 48 = .ok (.istore 4, 2) := by decide +kernel
theorem dX10_goes_50 : decode cX10_goes 50 = .ok (.iload 4, 2) := by decide +kernel
theorem dX10_goes_52 : decode cX10_goes 52 = .ok (.aload_n 0, 1) := by decide +kernel
theorem dX10_goes_53 : decode cX10_goes 53 = .ok (.iload_n 1, 1) := by decide +kernel
theorem dX10_goes_54 : decode cX10_goes 54 = .ok (.iconst 3, 1) := by decide +kernel
theorem dX10_goes_55 : decode cX10_goes 55 = .ok (.invokevirtual 57, 3) := by decide +kernel
theorem dX10_goes_58 : decode cX10_goes 58 = .ok (.if_icmp .ge 29, 3) := by decide +kernel
theorem dX10_goes_61 : decode cX10_goes 61 = .ok (.aload_n 0, 1) := by decide +kernel
theorem dX10_goes_62 : decode cX10_goes 62 = .ok (.getfield 9, 3) := by decide +kernel
theorem dX10_goes_65 : decode cX10_goes 65 = .ok (.sipush 330, 3) := by decide +kernel
theorem dX10_goes_68 : decode cX10_goes 68 = .ok (.iload_n 2, 1) := by decide +kernel
theorem dX10_goes_69 : decode cX10_goes 69 = .ok (.iadd, 1) := by decide +kernel
theorem dX10_goes_70 : decode cX10_goes 70 = .ok (.iload 4, 2) := by decide +kernel
theorem dX10_goes_72 : decode cX10_goes 72 = .ok (.iadd, 1) := by decide +kernel
theorem dX10_goes_73 : decode cX10_goes 73 = .ok (.aload_n 0, 1) := by decide +kernel
theorem dX10_goes_74 : decode cX10_goes 74 = .ok (.getfield 25, 3) := by decide +kernel
theorem dX10_goes_77 : decode cX10_goes 77 = .ok (.iload 4, 2) := by decide +kernel
theorem dX10_goes_79 : decode cX10_goes 79 = .ok (.iaload, 1) := by decide +kernel
theorem dX10_goes_80 : decode cX10_goes 80 = .ok (.iastore, 1) := by decide +kernel
theorem dX10_goes_81 : decode cX10_goes 81 = .ok (.iinc 4 1, 3) := by decide +kernel
theorem dX10_goes_84 : decode cX10_goes 84 = .ok (.goto (-34), 3) := by decide +kernel
theorem dX10_goes_87 : decode cX10_goes 87 = .ok (.aload_n 0, 1) := by decide +kernel
theorem dX10_goes_88 : decode cX10_goes 88 = .ok (.iload_n 1, 1) := by decide +kernel
theorem dX10_goes_89 : decode cX10_goes 89 = .ok (.iconst 2, 1) := by decide +kernel
theorem dX10_goes_90 : decode cX10_goes 90 = .ok (.iload_n 2, 1) := by decide +kernel
theorem dX10_goes_91 : decode cX10_goes 91 = .ok (.invokevirtual 89, 3) := by decide +kernel
theorem dX10_goes_94 : decode cX10_goes 94 = .ok (.return_, 1) := by decide +kernel
theorem dX10_isFreeBehind_0 : decode cX10_isFreeBehind 0 = .ok (.aload_n 0, 1) := by decide +kernel
theorem dX10_isFreeBehind_1 : decode cX10_isFreeBehind 1 = .ok (.iload_n 1, 1) := by decide +kernel
theorem dX10_isFreeBehind_2 : decode cX10_isFreeBehind 2 = .ok (.iconst 2, 1) := by decide +kernel
theorem dX10_isFreeBehind_3 : decode cX10_isFreeBehind 3 = .ok (.invokevirtual 57, 3) := by decide +kernel
theorem dX10_isFreeBehind_6 : decode cX10_isFreeBehind 6 = .ok (.aload_n 0, 1) := by decide +kernel
theorem dX10_isFreeBehind_7 : decode cX10_isFreeBehind 7 = .ok (.iload_n 1, 1) := by decide +kernel
theorem dX10_isFreeBehind_8 : decode cX10_isFreeBehind 8 = .ok (.iconst 3, 1) := by decide +kernel
theorem dX10_isFreeBehind_9 : decode cX10_isFreeBehind 9 = .ok (.invokevirtual 57, 3) := by decide +kernel
theorem dX10_isFreeBehind_12 : decode cX10_isFreeBehind 12 = .ok (.iadd, 1) := by decide +kernel
theorem dX10_isFreeBehind_13 : decode cX10_isFreeBehind 13 = .ok (.istore_n 3, 1) := by decide +kernel
theorem dX10_isFreeBehind_14 : decode cX10_isFreeBehind 14 = .ok (.iconst 0, 1) := by decide +kernel
theorem dX10_isFreeBehind_15 : decode cX10_isFreeBehind 15 = .ok (.istore 4, 2) := by decide +kernel
theorem dX10_isFreeBehind_17 : decode cX10_isFreeBehind 17 = .ok (.iload 4, 2) := by decide +kernel
theorem dX10_isFreeBehind_19 : decode cX10_isFreeBehind 19 = .ok (.iload_n 2, 1) := by decide +kernel
theorem dX10_isFreeBehind_20 : decode cX10_isFreeBehind 20 = .ok (.if_icmp .ge 42, 3) := by decide +kernel
theorem dX10_isFreeBehind_23 : decode cX10_isFreeBehind 23 = .ok (.iload_n 3, 1) := by decide +kernel
theorem dX10_isFreeBehind_24 : decode cX10_isFreeBehind 24 = .ok (.iload 4, 2) := by decide +kernel
theorem dX10_isFreeBehind_26 : decode cX10_isFreeBehind 26 = .ok (.iadd, 1) := by decide +kernel
theorem dX10_isFreeBehind_27 : decode cX10_isFreeBehind 27 = .ok (.aload_n 0, 1) := by decide +kernel
theorem dX10_isFreeBehind_28 : decode cX10_isFreeBehind 28 = .ok (.aload_n 0, 1) := by decide +kernel
theorem dX10_isFreeBehind_29 : decode cX10_isFreeBehind 29 = .ok (.iload_n 1, 1) := by decide +kernel
theorem dX10_isFreeBehind_30 : decode cX10_isFreeBehind 30 = .ok (.iconst 4, 1) := by decide +kernel
theorem dX10_isFreeBehind_31 : decode cX10_isFreeBehind 31 = .ok (.invokevirtual 57, 3) := by decide +kernel
theorem dX10_isFreeBehind_34 : decode cX10_isFreeBehind 34 = .ok (.invokevirtual 69, 3) := by decide +kernel
theorem dX10_isFreeBehind_37 : decode cX10_isFreeBehind 37 = .ok (.if_icmp .ge 17, 3) := by decide +kernel
theorem dX10_isFreeBehind_40 : decode cX10_isFreeBehind 40 = .ok (.aload_n 0, 1) := by decide +kernel
theorem dX10_isFreeBehind_41 : decode cX10_isFreeBehind 41 = .ok (.getfield 22, 3) := by decide +kernel
theorem dX10_isFreeBehind_44 : decode cX10_isFreeBehind 44 = .ok (.iload_n 3, 1) := by decide +kernel
theorem dX10_isFreeBehind_45 : decode cX10_isFreeBehind 45 = .ok (.iload 4, 2) := by decide +kernel
theorem dX10_isFreeBehind_47 : decode cX10_isFreeBehind 47 = .ok (.iadd, 1) := by decide +kernel
theorem dX10_isFreeBehind_48 : decode cX10_isFreeBehind 48 = .ok (.iaload, 1) := by decide +kernel
theorem dX10_isFreeBehind_49 : decode cX10_isFreeBehind 49 = .ok (.bipush 100, 2) := by decide +kernel
theorem dX10_isFreeBehind_51 : decode cX10_isFreeBehind 51 = .ok (.if_icmp .eq 5, 3) := by decide +kernel
theorem dX10_isFreeBehind_54 : decode cX10_isFreeBehind 54 = .ok (.iconst 0, 1) := by decide +kernel
theorem dX10_isFreeBehind_55 : decode cX10_isFreeBehind 55 = .ok (.ireturn, 1) := by decide +kernel
theorem dX10_isFreeBehind_56 : decode cX10_isFreeBehind 56 = .ok (.iinc 4 1, 3) := by decide +kernel
theorem dX10_isFreeBehind_59 : decode cX10_isFreeBehind 59 = .ok (.goto (-42), 3) := by decide +kernel
theorem dX10_isFreeBehind_62 : decode cX10_isFreeBehind 62 = .ok (.iconst 1, 1) := by decide +kernel
theorem dX10_isFreeBehind_63 : decode cX10_isFreeBehind 63 = .ok (.ireturn, 1) := by decide +kernel
theorem dX10_grow_0 : decode cX10_grow 0 = .ok (.iload_n 2, 1) := by decide +kernel
theorem dX10_grow_1 : decode cX10_grow 1 = .ok (.iconst 1, 1) := by decide +kernel
theorem dX10_grow_2 : decode cX10_grow 2 = .ok (.bipush 39, 2) := by decide +kernel
theorem dX10_grow_4 : decode cX10_grow 4 = .ok (.invokestatic 65, 3) := by decide +kernel
theorem dX10_grow_7 : decode cX10_grow 7 = .ok (.ifCond .ne 5, 3) := by decide +kernel
theorem dX10_grow_10 : decode cX10_grow 10 = .ok (.iconst (-1), 1) := by decide +kernel
theorem dX10_grow_11 : decode cX10_grow 11 = .ok (.ireturn, 1) := by decide +kernel
theorem dX10_grow_12 : decode cX10_grow 12 = .ok (.aload_n 0, 1) := by decide +kernel
theorem dX10_grow_13 : decode cX10_grow 13 = .ok (.iload_n 1, 1) := by decide +kernel
theorem dX10_grow_14 : decode cX10_grow 14 = .ok (.invokevirtual 96, 3) := by decide +kernel
theorem dX10_grow_17 : decode cX10_grow 17 = .ok (.istore_n 3, 1) := by decide +kernel
theorem dX10_grow_18 : decode cX10_grow 18 = .ok (.iload_n 3, 1) := by decide +kernel
theorem dX10_grow_19 : decode cX10_grow 19 = .ok (.ifCond .ge 6, 3) := by decide +kernel
theorem dX10_grow_22 : decode cX10_grow 22 = .ok (.bipush (-4), 2) := by decide +kernel
theorem dX10_grow_24 : decode cX10_grow 24 = .ok (.ireturn, 1) := by decide +kernel
theorem dX10_grow_25 : decode cX10_grow 25 = .ok (.aload_n 0, 1) := by decide +kernel
theorem dX10_grow_26 : decode cX10_grow 26 = .ok (.iload_n 3, 1) := by decide +kernel
theorem dX10_grow_27 : decode cX10_grow 27 = .ok (.bipush 6, 2) := by decide +kernel
theorem dX10_grow_29 : decode cX10_grow 29 = .ok (.invokevirtual 57, 3) := by decide +kernel
theorem dX10_grow_32 : decode cX10_grow 32 = .ok (.ifCond .le 6, 3) := by decide +kernel
theorem dX10_grow_35 : decode cX10_grow 35 = .ok (.bipush (-5), 2) := by decide +kernel
theorem dX10_grow_37 : decode cX10_grow 37 = .ok (.ireturn, 1) := by decide +kernel
theorem dX10_grow_38 : decode cX10_grow 38 = .ok (.aload_n 0, 1) := by decide +kernel
theorem dX10_grow_39 : decode cX10_grow 39 = .ok (.aload_n 0, 1) := by decide +kernel
theorem dX10_grow_40 : decode cX10_grow 40 = .ok (.iload_n 3, 1) := by decide +kernel
theorem dX10_grow_41 : decode cX10_grow 41 = .ok (.iconst 5, 1) := by decide +kernel
theorem dX10_grow_42 : decode cX10_grow 42 = .ok (.invokevirtual 57, 3) := by decide +kernel
theorem dX10_grow_45 : decode cX10_grow 45 = .ok (.invokevirtual 76, 3) := by decide +kernel
theorem dX10_grow_48 : decode cX10_grow 48 = .ok (.iload_n 2, 1) := by decide +kernel
theorem dX10_grow_49 : decode cX10_grow 49 = .ok (.iadd, 1) := by decide +kernel
theorem dX10_grow_50 : decode cX10_grow 50 = .ok (.aload_n 0, 1) := by decide +kernel
theorem dX10_grow_51 : decode cX10_grow 51 = .ok (.getfield 9, 3) := by decide +kernel
theorem dX10_grow_54 : decode cX10_grow 54 = .ok (.sipush 589, 3) := by decide +kernel
theorem dX10_grow_57 : decode cX10_grow 57 = .ok (.aload_n 0, 1) := by decide +kernel
theorem dX10_grow_58 : decode cX10_grow 58 = .ok (.iload_n 3, 1) := by decide +kernel
theorem dX10_grow_59 : decode cX10_grow 59 = .ok (.iconst 5, 1) := by decide +kernel
theorem dX10_grow_60 : decode cX10_grow 60 = .ok (.invokevirtual 57, 3) := by decide +kernel
theorem dX10_grow_63 : decode cX10_grow 63 = .ok (.iadd, 1) := by decide +kernel
theorem dX10_grow_64 : decode cX10_grow 64 = .ok (.iaload, 1) := by decide +kernel
theorem dX10_grow_65 : decode cX10_grow 65 = .ok (.if_icmp .le 6, 3) := by decide +kernel
theorem dX10_grow_68 : decode cX10_grow 68 = .ok (.bipush (-6), 2) := by decide +kernel
theorem dX10_grow_70 : decode cX10_grow 70 = .ok (.ireturn, 1) := by decide +kernel
theorem dX10_grow_71 : decode cX10_grow 71 = .ok (.aload_n 0, 1) := by decide +kernel
theorem dX10_grow_72 : decode cX10_grow 72 = .ok (.iload_n 3, 1) := by decide +kernel
theorem dX10_grow_73 : decode cX10_grow 73 = .ok (.iconst 3, 1) := by decide +kernel
theorem dX10_grow_74 : decode cX10_grow 74 = .ok (.invokevirtual 57, 3) := by decide +kernel
theorem dX10_grow_77 : decode cX10_grow 77 = .ok (.iload_n 2, 1) := by decide +kernel
theorem dX10_grow_78 : decode cX10_grow 78 = .ok (.iadd, 1) := by decide +kernel
theorem dX10_grow_79 : decode cX10_grow 79 = .ok (.istore 4, 2) := by decide +kernel
theorem dX10_grow_81 : decode cX10_grow 81 = .ok (.aload_n 0, 1) := by decide +kernel
theorem dX10_grow_82 : decode cX10_grow 82 = .ok (.invokevirtual 79, 3) := by decide +kernel
theorem dX10_grow_85 : decode cX10_grow 85 = .ok (.aload_n 0, 1) := by decide +kernel
theorem dX10_grow_86 : decode cX10_grow 86 = .ok (.iload_n 3, 1) := by decide +kernel
theorem dX10_grow_87 : decode cX10_grow 87 = .ok (.iload_n 2, 1) := by decide +kernel
theorem dX10_grow_88 : decode cX10_grow 88 = .ok (.invokevirtual 99, 3) := by decide +kernel
theorem dX10_grow_91 : decode cX10_grow 91 = .ok (.istore 5, 2) := by decide +kernel
theorem dX10_grow_93 : decode cX10_grow 93 = .ok (.iload 5, 2) := by decide +kernel
theorem dX10_grow_95 : decode cX10_grow 95 = .ok (.ifCond .eq 12, 3) := by decide +kernel
theorem dX10_grow_98 : decode cX10_grow 98 = .ok (.aload_n 0, 1) := by decide +kernel
theorem dX10_grow_99 : decode cX10_grow 99 = .ok (.iload_n 3, 1) := by decide +kernel
theorem dX10_grow_100 : decode cX10_grow 100 = .ok (.iconst 2, 1) := by decide +kernel
theorem dX10_grow_101 : decode cX10_grow 101 = .ok (.invokevirtual 57, 3) := by decide +kernel
theorem dX10_grow_104 : decode cX10_grow 104 = .ok (.goto 15, 3) := by decide +kernel
theorem dX10_grow_107 : decode cX10_grow 107 = .ok (.aload_n 0, 1) := by decide +kernel
theorem dX10_grow_108 : decode cX10_grow 108 = .ok (.aload_n 0, 1) := by decide +kernel
theorem dX10_grow_109 : decode cX10_grow 109 = .ok (.iload_n 3, 1) := by decide +kernel
theorem dX10_grow_110 : decode cX10_grow 110 = .ok (.iconst 4, 1) := by decide +kernel
theorem dX10_grow_111 : decode cX10_grow 111 = .ok (.invokevirtual 57, 3) := by decide +kernel
theorem dX10_grow_114 : decode cX10_grow 114 = .ok (.iload 4, 2) := by decide +kernel
theorem dX10_grow_116 : decode cX10_grow 116 = .ok (.invokevirtual 82, 3) := by decide +kernel
theorem dX10_grow_119 : decode cX10_grow 119 = .ok (.istore 6, 2) := by decide +kernel
theorem dX10_grow_121 : decode cX10_grow 121 = .ok (.iload 4, 2) := by decide +kernel
theorem dX10_grow_123 : decode cX10_grow 123 = .ok (.bipush 40, 2) := by decide +kernel
theorem dX10_grow_125 : decode cX10_grow 125 = .ok (.if_icmp .gt 8, 3) := by decide +kernel
theorem dX10_grow_128 : decode cX10_grow 128 = .ok (.iload 6, 2) := by decide +kernel
theorem dX10_grow_130 : decode cX10_grow 130 = .ok (.ifCond .ge 6, 3) := by decide +kernel
theorem dX10_grow_133 : decode cX10_grow 133 = .ok (.bipush (-3), 2) := by decide +kernel
theorem dX10_grow_135 : decode cX10_grow 135 = .ok (.ireturn, 1) := by decide +kernel
theorem dX10_grow_136 : decode cX10_grow 136 = .ok (.aload_n 0, 1) := by decide +kernel
theorem dX10_grow_137 : decode cX10_grow 137 = .ok (.iload_n 3, 1) := by decide +kernel
theorem dX10_grow_138 : decode cX10_grow 138 = .ok (.iload 6, 2) := by decide +kernel
theorem dX10_grow_140 : decode cX10_grow 140 = .ok (.invokevirtual 103, 3) := by decide +kernel
theorem dX10_grow_143 : decode cX10_grow 143 = .ok (.aload_n 0, 1) := by decide +kernel
theorem dX10_grow_144 : decode cX10_grow 144 = .ok (.iload_n 3, 1) := by decide +kernel
theorem dX10_grow_145 : decode cX10_grow 145 = .ok (.iconst 3, 1) := by decide +kernel
theorem dX10_grow_146 : decode cX10_grow 146 = .ok (.invokevirtual 57, 3) := by decide +kernel
theorem dX10_grow_149 : decode cX10_grow 149 = .ok (.istore 7, 2) := by decide +kernel
theorem dX10_grow_151 : decode cX10_grow 151 = .ok (.iload 7, 2) := by decide +kernel
theorem dX10_grow_153 : decode cX10_grow 153 = .ok (.iload 4, 2) := by decide +kernel
theorem dX10_grow_155 : decode cX10_grow 155 = .ok (.if_icmp .ge 24, 3) := by decide +kernel
theorem dX10_grow_158 : decode cX10_grow 158 = .ok (.aload_n 0, 1) := by decide +kernel
theorem dX10_grow_159 : decode cX10_grow 159 = .ok (.getfield 9, 3) := by decide +kernel
theorem dX10_grow_162 : decode cX10_grow 162 = .ok (.sipush 330, 3) := by decide +kernel
theorem dX10_grow_165 : decode cX10_grow 165 = .ok (.iload 6, 2) := by decide +kernel
theorem dX10_grow_167 : decode cX10_grow 167 = .ok (.iadd, 1) := by decide +kernel
theorem dX10_grow_168 : decode cX10_grow 168 = .ok (.iload 7, 2) := by decide +kernel
theorem dX10_grow_170 : decode cX10_grow 170 = .ok (.iadd, 1) := by decide +kernel
theorem dX10_grow_171 : decode cX10_grow 171 = .ok (.iconst 0, 1) := by decide +kernel
theorem dX10_grow_172 : decode cX10_grow 172 = .ok (.iastore, 1) := by decide +kernel
theorem dX10_grow_173 : decode cX10_grow 173 = .ok (.iinc 7 1, 3) := by decide +kernel
theorem dX10_grow_176 : decode cX10_grow 176 = .ok (.goto (-25), 3) := by decide +kernel
theorem dX10_grow_179 : decode cX10_grow 179 = .ok (.aload_n 0, 1) := by decide +kernel
theorem dX10_grow_180 : decode cX10_grow 180 = .ok (.iload_n 3, 1) := by decide +kernel
theorem dX10_grow_181 : decode cX10_grow 181 = .ok (.iconst 3, 1) := by decide +kernel
theorem dX10_grow_182 : decode cX10_grow 182 = .ok (.iload 4, 2) := by decide +kernel
theorem dX10_grow_184 : decode cX10_grow 184 = .ok (.invokevirtual 89, 3) := by decide +kernel
theorem dX10_grow_187 : decode cX10_grow 187 = .ok (.iload 4, 2) := by decide +kernel
theorem dX10_grow_189 : decode cX10_grow 189 = .ok (.ireturn, 1) := by decide +kernel
theorem dX10_nextBlock_0 : decode cX10_nextBlock 0 = .ok (.bipush (-2), 2) := by decide +kernel
theorem dX10_nextBlock_2 : decode cX10_nextBlock 2 = .ok (.istore 4, 2) := by decide +kernel
theorem dX10_nextBlock_4 : decode cX10_nextBlock 4 = .ok (.iconst 0, 1) := by decide +kernel
theorem dX10_nextBlock_5 : decode cX10_nextBlock 5 = .ok (.istore 5, 2) := by decide +kernel
theorem dX10_nextBlock_7 : decode cX10_nextBlock 7 = .ok (.iload 5, 2) := by decide +kernel
theorem dX10_nextBlock_9 : decode cX10_nextBlock 9 = .ok (.bipush 30, 2) := by decide +kernel
theorem dX10_nextBlock_11 : decode cX10_nextBlock 11 = .ok (.if_icmp .ge 126, 3) := by decide +kernel
theorem dX10_nextBlock_14 : decode cX10_nextBlock 14 = .ok (.aload_n 0, 1) := by decide +kernel
theorem dX10_nextBlock_15 : decode cX10_nextBlock 15 = .ok (.iload 5, 2) := by decide +kernel
theorem dX10_nextBlock_17 : decode cX10_nextBlock 17 = .ok (.iconst 0, 1) := by decide +kernel
theorem dX10_nextBlock_18 : decode cX10_nextBlock 18 = .ok (.invokevirtual 57, 3) := by decide +kernel
theorem dX10_nextBlock_21 : decode cX10_nextBlock 21 = .ok (.ifCond .eq 110, 3) := by decide +kernel
theorem dX10_nextBlock_24 : decode cX10_nextBlock 24 = .ok (.aload_n 0, 1) := by decide +kernel
theorem dX10_nextBlock_25 : decode cX10_nextBlock 25 = .ok (.iload 5, 2) := by decide +kernel
theorem dX10_nextBlock_27 : decode cX10_nextBlock 27 = .ok (.iconst 4, 1) := by decide +kernel
theorem dX10_nextBlock_28 : decode cX10_nextBlock 28 = .ok (.invokevirtual 57, 3) := by decide +kernel
theorem dX10_nextBlock_31 : decode cX10_nextBlock 31 = .ok (.iload_n 1, 1) := by decide +kernel
theorem dX10_nextBlock_32 : decode cX10_nextBlock 32 = .ok (.if_icmp .ne 99, 3) := by decide +kernel
theorem dX10_nextBlock_35 : decode cX10_nextBlock 35 = .ok (.iload_n 3, 1) := by decide +kernel
theorem dX10_nextBlock_36 : decode cX10_nextBlock 36 = .ok (.ifCond .eq 17, 3) := by decide +kernel
theorem dX10_nextBlock_39 : decode cX10_nextBlock 39 = .ok (.aload_n 0, 1) := by decide +kernel
theorem dX10_nextBlock_40 : decode cX10_nextBlock 40 = .ok (.iload 5, 2) := by decide +kernel
theorem dX10_nextBlock_42 : decode cX10_nextBlock 42 = .ok (.iconst 2, 1) := by decide +kernel
theorem dX10_nextBlock_43 : decode cX10_nextBlock 43 = .ok (.invokevirtual 57, 3) := by decide +kernel
theorem dX10_nextBlock_46 : decode cX10_nextBlock 46 = .ok (.iload_n 2, 1) := by decide +kernel
theorem dX10_nextBlock_47 : decode cX10_nextBlock 47 = .ok (.if_icmp .lt 84, 3) := by decide +kernel
theorem dX10_nextBlock_50 : decode cX10_nextBlock 50 = .ok (.goto 14, 3) := by decide +kernel
theorem dX10_nextBlock_53 : decode cX10_nextBlock 53 = .ok (.aload_n 0, 1) := by decide +kernel
theorem dX10_nextBlock_54 : decode cX10_nextBlock 54 = .ok (.iload 5, 2) := by decide +kernel
theorem dX10_nextBlock_56 : decode cX10_nextBlock 56 = .ok (.iconst 2, 1) := by decide +kernel
theorem dX10_nextBlock_57 : decode cX10_nextBlock 57 = .ok (.invokevirtual 57, 3) := by decide +kernel
theorem dX10_nextBlock_60 : decode cX10_nextBlock 60 = .ok (.iload_n 2, 1) := by decide +kernel
theorem dX10_nextBlock_61 : decode cX10_nextBlock 61 = .ok (.if_icmp .ge 70, 3) := by decide +kernel
theorem dX10_nextBlock_64 : decode cX10_nextBlock 64 = .ok (.iload 4, 2) := by decide +kernel
theorem dX10_nextBlock_66 : decode cX10_nextBlock 66 = .ok (.ifCond .lt 44, 3) := by decide +kernel
theorem dX10_nextBlock_69 : decode cX10_nextBlock 69 = .ok (.iload_n 3, 1) := by decide +kernel
theorem dX10_nextBlock_70 : decode cX10_nextBlock 70 = .ok (.ifCond .eq 23, 3) := by decide +kernel
theorem dX10_nextBlock_73 : decode cX10_nextBlock 73 = .ok (.aload_n 0, 1) := by decide +kernel
theorem dX10_nextBlock_74 : decode cX10_nextBlock 74 = .ok (.iload 5, 2) := by decide +kernel
theorem dX10_nextBlock_76 : decode cX10_nextBlock 76 = .ok (.iconst 2, 1) := by decide +kernel
theorem dX10_nextBlock_77 : decode cX10_nextBlock 77 = .ok (.invokevirtual 57, 3) := by decide +kernel
theorem dX10_nextBlock_80 : decode cX10_nextBlock 80 = .ok (.aload_n 0, 1) := by decide +kernel
theorem dX10_nextBlock_81 : decode cX10_nextBlock 81 = .ok (.iload 4, 2) := by decide +kernel
theorem dX10_nextBlock_83 : decode cX10_nextBlock 83 = .ok (.iconst 2, 1) := by decide +kernel
theorem dX10_nextBlock_84 : decode cX10_nextBlock 84 = .ok (.invokevirtual 57, 3) := by decide +kernel
theorem dX10_nextBlock_87 : decode cX10_nextBlock 87 = .ok (.if_icmp .ge 27, 3) := by decide +kernel
theorem dX10_nextBlock_90 : decode cX10_nextBlock 90 = .ok (.goto 20, 3) := by decide +kernel
theorem dX10_nextBlock_93 : decode cX10_nextBlock 93 = .ok (.aload_n 0, 1) := by decide +kernel
theorem dX10_nextBlock_94 : decode cX10_nextBlock 94 = .ok (.iload 5, 2) := by decide +kernel
theorem dX10_nextBlock_96 : decode cX10_nextBlock 96 = .ok (.iconst 2, 1) := by decide +kernel
theorem dX10_nextBlock_97 : decode cX10_nextBlock 97 = .ok (.invokevirtual 57, 3) := by decide +kernel
theorem dX10_nextBlock_100 : decode cX10_nextBlock 100 = .ok (.aload_n 0, 1) := by decide +kernel
theorem dX10_nextBlock_101 : decode cX10_nextBlock 101 = .ok (.iload 4, 2) := by decide +kernel
theorem dX10_nextBlock_103 : decode cX10_nextBlock 103 = .ok (.iconst 2, 1) := by decide +kernel
theorem dX10_nextBlock_104 : decode cX10_nextBlock 104 = .ok (.invokevirtual 57, 3) := by decide +kernel
theorem dX10_nextBlock_107 : decode cX10_nextBlock 107 = .ok (.if_icmp .le 7, 3) := by decide +kernel
theorem dX10_nextBlock_110 : decode cX10_nextBlock 110 = .ok (.iconst 1, 1) := by decide +kernel
theorem dX10_nextBlock_111 : decode cX10_nextBlock 111 = .ok (.goto 4, 3) := by decide +kernel
theorem dX10_nextBlock_114 : decode cX10_nextBlock 114 = .ok (.iconst 0, 1) := by decide +kernel
theorem dX10_nextBlock_115 : decode cX10_nextBlock 115 = .ok (.istore 6, 2) := by decide +kernel
theorem dX10_nextBlock_117 : decode cX10_nextBlock 117 = .ok (.iload 6, 2) := by decide +kernel
theorem dX10_nextBlock_119 : decode cX10_nextBlock 119 = .ok (.ifCond .eq 8, 3) := by decide +kernel
theorem dX10_nextBlock_122 : decode cX10_nextBlock 122 = .ok (.iload 5, 2) := by decide +kernel
theorem dX10_nextBlock_124 : decode cX10_nextBlock 124 = .ok (.goto 5, 3) := by decide +kernel
theorem dX10_nextBlock_127 : decode cX10_nextBlock 127 = .ok (.iload 4, 2) := by decide +kernel
theorem dX10_nextBlock_129 : decode cX10_nextBlock 129 = .ok (.istore 4, 2) := by decide +kernel
theorem dX10_nextBlock_131 : decode cX10_nextBlock 131 = .ok (.iinc 5 1, 3) := by decide +kernel
theorem dX10_nextBlock_134 : decode cX10_nextBlock 134 = .ok (.goto (-127), 3) := by decide +kernel
theorem dX10_nextBlock_137 : decode cX10_nextBlock 137 = .ok (.iload 4, 2) := by decide +kernel
theorem dX10_nextBlock_139 : decode cX10_nextBlock 139 = .ok (.ireturn, 1) := by decide +kernel
theorem dX10_moved_0 : decode cX10_moved 0 = .ok (.aload_n 0, 1) := by decide +kernel
theorem dX10_moved_1 : decode cX10_moved 1 = .ok (.getfield 9, 3) := by decide +kernel
theorem dX10_moved_4 : decode cX10_moved 4 = .ok (.sipush 583, 3) := by decide +kernel
theorem dX10_moved_7 : decode cX10_moved 7 = .ok (.iload_n 1, 1) := by decide +kernel
theorem dX10_moved_8 : decode cX10_moved 8 = .ok (.iadd, 1) := by decide +kernel
theorem dX10_moved_9 : decode cX10_moved 9 = .ok (.iaload, 1) := by decide +kernel
theorem dX10_moved_10 : decode cX10_moved 10 = .ok (.ifCond .ne 7, 3) := by decide +kernel
theorem dX10_moved_13 : decode cX10_moved 13 = .ok (.iconst 1, 1) := by decide +kernel
theorem dX10_moved_14 : decode cX10_moved 14 = .ok (.goto 4, 3) := by decide +kernel
theorem dX10_moved_17 : decode cX10_moved 17 = .ok (.iconst 0, 1) := by decide +kernel
theorem dX10_moved_18 : decode cX10_moved 18 = .ok (.istore_n 3, 1) := by decide +kernel
theorem dX10_moved_19 : decode cX10_moved 19 = .ok (.iload_n 3, 1) := by decide +kernel
theorem dX10_moved_20 : decode cX10_moved 20 = .ok (.ifCond .eq 16, 3) := by decide +kernel
theorem dX10_moved_23 : decode cX10_moved 23 = .ok (.aload_n 0, 1) := by decide +kernel
theorem dX10_moved_24 : decode cX10_moved 24 = .ok (.getfield 9, 3) := by decide +kernel
theorem dX10_moved_27 : decode cX10_moved 27 = .ok (.sipush 571, 3) := by decide +kernel
theorem dX10_moved_30 : decode cX10_moved 30 = .ok (.iload_n 1, 1) := by decide +kernel
theorem dX10_moved_31 : decode cX10_moved 31 = .ok (.iadd, 1) := by decide +kernel
theorem dX10_moved_32 : decode cX10_moved 32 = .ok (.iaload, 1) := by decide +kernel
theorem dX10_moved_33 : decode cX10_moved 33 = .ok (.goto 8, 3) := by decide +kernel
theorem dX10_moved_36 : decode cX10_moved 36 = .ok (.aload_n 0, 1) := by decide +kernel
theorem dX10_moved_37 : decode cX10_moved 37 = .ok (.iload_n 1, 1) := by decide +kernel
theorem dX10_moved_38 : decode cX10_moved 38 = .ok (.invokevirtual 69, 3) := by decide +kernel
theorem dX10_moved_41 : decode cX10_moved 41 = .ok (.istore 4, 2) := by decide +kernel
theorem dX10_moved_43 : decode cX10_moved 43 = .ok (.iconst 0, 1) := by decide +kernel
theorem dX10_moved_44 : decode cX10_moved 44 = .ok (.istore 5, 2) := by decide +kernel
theorem dX10_moved_46 : decode cX10_moved 46 = .ok (.aload_n 0, 1) := by decide +kernel
theorem dX10_moved_47 : decode cX10_moved 47 = .ok (.iload_n 1, 1) := by decide +kernel
theorem dX10_moved_48 : decode cX10_moved 48 = .ok (.iload 4, 2) := by decide +kernel
theorem dX10_moved_50 : decode cX10_moved 50 = .ok (.iload_n 3, 1) := by decide +kernel
theorem dX10_moved_51 : decode cX10_moved 51 = .ok (.invokevirtual 107, 3) := by decide +kernel
theorem dX10_moved_54 : decode cX10_moved 54 = .ok (.istore 6, 2) := by decide +kernel
theorem dX10_moved_56 : decode cX10_moved 56 = .ok (.iload 6, 2) := by decide +kernel
theorem dX10_moved_58 : decode cX10_moved 58 = .ok (.ifCond .lt 137, 3) := by decide +kernel
theorem dX10_moved_61 : decode cX10_moved 61 = .ok (.iload_n 3, 1) := by decide +kernel
theorem dX10_moved_62 : decode cX10_moved 62 = .ok (.ifCond .eq 8, 3) := by decide +kernel
theorem dX10_moved_65 : decode cX10_moved 65 = .ok (.iload 4, 2) := by decide +kernel
theorem dX10_moved_67 : decode cX10_moved 67 = .ok (.goto 13, 3) := by decide +kernel
theorem dX10_moved_70 : decode cX10_moved 70 = .ok (.iload 4, 2) := by decide +kernel
theorem dX10_moved_72 : decode cX10_moved 72 = .ok (.aload_n 0, 1) := by decide +kernel
theorem dX10_moved_73 : decode cX10_moved 73 = .ok (.iload 6, 2) := by decide +kernel
theorem dX10_moved_75 : decode cX10_moved 75 = .ok (.iconst 3, 1) := by decide +kernel
theorem dX10_moved_76 : decode cX10_moved 76 = .ok (.invokevirtual 57, 3) := by decide +kernel
theorem dX10_moved_79 : decode cX10_moved 79 = .ok (.isub, 1) := by decide +kernel
theorem dX10_moved_80 : decode cX10_moved 80 = .ok (.istore 7, 2) := by decide +kernel
theorem dX10_moved_82 : decode cX10_moved 82 = .ok (.aload_n 0, 1) := by decide +kernel
theorem dX10_moved_83 : decode cX10_moved 83 = .ok (.iload 6, 2) := by decide +kernel
theorem dX10_moved_85 : decode cX10_moved 85 = .ok (.invokevirtual 61, 3) := by decide +kernel
theorem dX10_moved_88 : decode cX10_moved 88 = .ok (.ifCond .eq 63, 3) := by decide +kernel
theorem dX10_moved_91 : decode cX10_moved 91 = .ok (.aload_n 0, 1) := by decide +kernel
theorem dX10_moved_92 : decode cX10_moved 92 = .ok (.iload 6, 2) := by decide +kernel
theorem dX10_moved_94 : decode cX10_moved 94 = .ok (.bipush 6, 2) := by decide +kernel
theorem dX10_moved_96 : decode cX10_moved 96 = .ok (.invokevirtual 57, 3) := by decide +kernel
theorem dX10_moved_99 : decode cX10_moved 99 = .ok (.ifCond .ne 52, 3) := by decide +kernel
theorem dX10_moved_102 : decode cX10_moved 102 = .ok (.aload_n 0, 1) := by decide +kernel
theorem dX10_moved_103 : decode cX10_moved 103 = .ok (.iload 6, 2) := by decide +kernel
theorem dX10_moved_105 : decode cX10_moved 105 = .ok (.iconst 2, 1) := by decide +kernel
theorem dX10_moved_106 : decode cX10_moved 106 = .ok (.invokevirtual 57, 3) := by decide +kernel
theorem dX10_moved_109 : decode cX10_moved 109 = .ok (.iload 7, 2) := by decide +kernel
theorem dX10_moved_111 : decode cX10_moved 111 = .ok (.if_icmp .eq 40, 3) := by decide +kernel
theorem dX10_moved_114 : decode cX10_moved 114 = .ok (.iload 5, 2) := by decide +kernel
theorem dX10_moved_116 : decode cX10_moved 116 = .ok (.aload_n 0, 1) := by decide +kernel
theorem dX10_moved_117 : decode cX10_moved 117 = .ok (.iload 6, 2) := by decide +kernel
theorem dX10_moved_119 : decode cX10_moved 119 = .ok (.iconst 3, 1) := by decide +kernel
theorem dX10_moved_120 : decode cX10_moved 120 = .ok (.invokevirtual 57, 3) := by decide +kernel
theorem dX10_moved_123 : decode cX10_moved 123 = .ok (.iadd, 1) := by decide +kernel
theorem dX10_moved_124 : decode cX10_moved 124 = .ok (.iload_n 2, 1) := by decide +kernel
theorem dX10_moved_125 : decode cX10_moved 125 = .ok (.if_icmp .le 6, 3) := by decide +kernel
theorem dX10_moved_128 : decode cX10_moved 128 = .ok (.iload 5, 2) := by decide +kernel
theorem dX10_moved_130 : decode cX10_moved 130 = .ok (.ireturn, 1) := by decide +kernel
theorem dX10_moved_131 : decode cX10_moved 131 = .ok (.iload 5, 2) := by decide +kernel
theorem dX10_moved_133 : decode cX10_moved 133 = .ok (.aload_n 0, 1) := by decide +kernel
theorem dX10_moved_134 : decode cX10_moved 134 = .ok (.iload 6, 2) := by decide +kernel
theorem dX10_moved_136 : decode cX10_moved 136 = .ok (.iconst 3, 1) := by decide +kernel
theorem dX10_moved_137 : decode cX10_moved 137 = .ok (.invokevirtual 57, 3) := by decide +kernel
theorem dX10_moved_140 : decode cX10_moved 140 = .ok (.iadd, 1) := by decide +kernel
theorem dX10_moved_141 : decode cX10_moved 141 = .ok (.istore 5, 2) := by decide +kernel
theorem dX10_moved_143 : decode cX10_moved 143 = .ok (.aload_n 0, 1) := by decide +kernel
theorem dX10_moved_144 : decode cX10_moved 144 = .ok (.iload 6, 2) := by decide +kernel
theorem dX10_moved_146 : decode cX10_moved 146 = .ok (.iload 7, 2) := by decide +kernel
theorem dX10_moved_148 : decode cX10_moved 148 = .ok (.invokevirtual 103, 3) := by decide +kernel
theorem dX10_moved_151 : decode cX10_moved 151 = .ok (.iload_n 3, 1) := by decide +kernel
theorem dX10_moved_152 : decode cX10_moved 152 = .ok (.ifCond .eq 21, 3) := by decide +kernel
theorem dX10_moved_155 : decode cX10_moved 155 = .ok (.aload_n 0, 1) := by decide +kernel
theorem dX10_moved_156 : decode cX10_moved 156 = .ok (.iload 6, 2) := by decide +kernel
theorem dX10_moved_158 : decode cX10_moved 158 = .ok (.iconst 2, 1) := by decide +kernel
theorem dX10_moved_159 : decode cX10_moved 159 = .ok (.invokevirtual 57, 3) := by decide +kernel
theorem dX10_moved_162 : decode cX10_moved 162 = .ok (.aload_n 0, 1) := by decide +kernel
theorem dX10_moved_163 : decode cX10_moved 163 = .ok (.iload 6, 2) := by decide +kernel
theorem dX10_moved_165 : decode cX10_moved 165 = .ok (.iconst 3, 1) := by decide +kernel
theorem dX10_moved_166 : decode cX10_moved 166 = .ok (.invokevirtual 57, 3) := by decide +kernel
theorem dX10_moved_169 : decode cX10_moved 169 = .ok (.iadd, 1) := by decide +kernel
theorem dX10_moved_170 : decode cX10_moved 170 = .ok (.goto 10, 3) := by decide +kernel
theorem dX10_moved_173 : decode cX10_moved 173 = .ok (.aload_n 0, 1) := by decide +kernel
theorem dX10_moved_174 : decode cX10_moved 174 = .ok (.iload 6, 2) := by decide +kernel
theorem dX10_moved_176 : decode cX10_moved 176 = .ok (.iconst 2, 1) := by decide +kernel
theorem dX10_moved_177 : decode cX10_moved 177 = .ok (.invokevirtual 57, 3) := by decide +kernel
theorem dX10_moved_180 : decode cX10_moved 180 = .ok (.istore 4, 2) := by decide +kernel
theorem dX10_moved_182 : decode cX10_moved 182 = .ok (.aload_n 0, 1) := by decide +kernel
theorem dX10_moved_183 : decode cX10_moved 183 = .ok (.iload_n 1, 1) := by decide +kernel
theorem dX10_moved_184 : decode cX10_moved 184 = .ok (.iload 4, 2) := by decide +kernel
theorem dX10_moved_186 : decode cX10_moved 186 = .ok (.iload_n 3, 1) := by decide +kernel
theorem dX10_moved_187 : decode cX10_moved 187 = .ok (.invokevirtual 107, 3) := by decide +kernel
theorem dX10_moved_190 : decode cX10_moved 190 = .ok (.istore 6, 2) := by decide +kernel
theorem dX10_moved_192 : decode cX10_moved 192 = .ok (.goto (-136), 3) := by decide +kernel
theorem dX10_moved_195 : decode cX10_moved 195 = .ok (.iload 5, 2) := by decide +kernel
theorem dX10_moved_197 : decode cX10_moved 197 = .ok (.ireturn, 1) := by decide +kernel
theorem dX10_moves_0 : decode cX10_moves 0 = .ok (.aload_n 0, 1) := by decide +kernel
theorem dX10_moves_1 : decode cX10_moves 1 = .ok (.iload_n 1, 1) := by decide +kernel
theorem dX10_moves_2 : decode cX10_moves 2 = .ok (.invokevirtual 73, 3) := by decide +kernel
theorem dX10_moves_5 : decode cX10_moves 5 = .ok (.ifCond .eq 23, 3) := by decide +kernel
theorem dX10_moves_8 : decode cX10_moves 8 = .ok (.iload_n 2, 1) := by decide +kernel
theorem dX10_moves_9 : decode cX10_moves 9 = .ok (.iconst 0, 1) := by decide +kernel
theorem dX10_moves_10 : decode cX10_moves 10 = .ok (.sipush 240, 3) := by decide +kernel
theorem dX10_moves_13 : decode cX10_moves 13 = .ok (.invokestatic 65, 3) := by decide +kernel
theorem dX10_moves_16 : decode cX10_moves 16 = .ok (.ifCond .eq 12, 3) := by decide +kernel
theorem dX10_moves_19 : decode cX10_moves 19 = .ok (.aload_n 0, 1) := by decide +kernel
theorem dX10_moves_20 : decode cX10_moves 20 = .ok (.iload_n 1, 1) := by decide +kernel
theorem dX10_moves_21 : decode cX10_moves 21 = .ok (.iload_n 2, 1) := by decide +kernel
theorem dX10_moves_22 : decode cX10_moves 22 = .ok (.invokevirtual 111, 3) := by decide +kernel
theorem dX10_moves_25 : decode cX10_moves 25 = .ok (.goto 4, 3) := by decide +kernel
theorem dX10_moves_28 : decode cX10_moves 28 = .ok (.iconst (-1), 1) := by decide +kernel
theorem dX10_moves_29 : decode cX10_moves 29 = .ok (.ireturn, 1) := by decide +kernel
theorem dX10_write_0 : decode cX10_write 0 = .ok (.aload_n 0, 1) := by decide +kernel
theorem dX10_write_1 : decode cX10_write 1 = .ok (.iload_n 1, 1) := by decide +kernel
theorem dX10_write_2 : decode cX10_write 2 = .ok (.invokevirtual 96, 3) := by decide +kernel
theorem dX10_write_5 : decode cX10_write 5 = .ok (.istore 4, 2) := by decide +kernel
theorem dX10_write_7 : decode cX10_write 7 = .ok (.iload 4, 2) := by decide +kernel
theorem dX10_write_9 : decode cX10_write 9 = .ok (.ifCond .lt 20, 3) := by decide +kernel
theorem dX10_write_12 : decode cX10_write 12 = .ok (.iload_n 2, 1) := by decide +kernel
theorem dX10_write_13 : decode cX10_write 13 = .ok (.iconst 0, 1) := by decide +kernel
theorem dX10_write_14 : decode cX10_write 14 = .ok (.aload_n 0, 1) := by decide +kernel
theorem dX10_write_15 : decode cX10_write 15 = .ok (.iload 4, 2) := by decide +kernel
theorem dX10_write_17 : decode cX10_write 17 = .ok (.iconst 3, 1) := by decide +kernel
theorem dX10_write_18 : decode cX10_write 18 = .ok (.invokevirtual 57, 3) := by decide +kernel
theorem dX10_write_21 : decode cX10_write 21 = .ok (.iconst 1, 1) := by decide +kernel
theorem dX10_write_22 : decode cX10_write 22 = .ok (.isub, 1) := by decide +kernel
theorem dX10_write_23 : decode cX10_write 23 = .ok (.invokestatic 65, 3) := by decide +kernel
theorem dX10_write_26 : decode cX10_write 26 = .ok (.ifCond .ne 6, 3) := by decide +kernel
theorem dX10_write_29 : decode cX10_write 29 = .ok (.ldc 114, 2) := by decide +kernel
theorem dX10_write_31 : decode cX10_write 31 = .ok (.ireturn, 1) := by decide +kernel
theorem dX10_write_32 : decode cX10_write 32 = .ok (.aload_n 0, 1) := by decide +kernel
theorem dX10_write_33 : decode cX10_write 33 = .ok (.getfield 9, 3) := by decide +kernel
theorem dX10_write_36 : decode cX10_write 36 = .ok (.sipush 330, 3) := by decide +kernel
theorem dX10_write_39 : decode cX10_write 39 = .ok (.aload_n 0, 1) := by decide +kernel
theorem dX10_write_40 : decode cX10_write 40 = .ok (.iload 4, 2) := by decide +kernel
theorem dX10_write_42 : decode cX10_write 42 = .ok (.iconst 2, 1) := by decide +kernel
theorem dX10_write_43 : decode cX10_write 43 = .ok (.invokevirtual 57, 3) := by decide +kernel
theorem dX10_write_46 : decode cX10_write 46 = .ok (.iadd, 1) := by decide +kernel
theorem dX10_write_47 : decode cX10_write 47 = .ok (.iload_n 2, 1) := by decide +kernel
theorem dX10_write_48 : decode cX10_write 48 = .ok (.iadd, 1) := by decide +kernel
theorem dX10_write_49 : decode cX10_write 49 = .ok (.iaload, 1) := by decide +kernel
theorem dX10_write_50 : decode cX10_write 50 = .ok (.istore 5, 2) := by decide +kernel
theorem dX10_write_52 : decode cX10_write 52 = .ok (.aload_n 0, 1) := by decide +kernel
theorem dX10_write_53 : decode cX10_write 53 = .ok (.getfield 9, 3) := by decide +kernel
theorem dX10_write_56 : decode cX10_write 56 = .ok (.sipush 330, 3) := by decide +kernel
theorem dX10_write_59 : decode cX10_write 59 = .ok (.aload_n 0, 1) := by decide +kernel
theorem dX10_write_60 : decode cX10_write 60 = .ok (.iload 4, 2) := by decide +kernel
theorem dX10_write_62 : decode cX10_write 62 = .ok (.iconst 2, 1) := by decide +kernel
theorem dX10_write_63 : decode cX10_write 63 = .ok (.invokevirtual 57, 3) := by decide +kernel
theorem dX10_write_66 : decode cX10_write 66 = .ok (.iadd, 1) := by decide +kernel
theorem dX10_write_67 : decode cX10_write 67 = .ok (.iload_n 2, 1) := by decide +kernel
theorem dX10_write_68 : decode cX10_write 68 = .ok (.iadd, 1) := by decide +kernel
theorem dX10_write_69 : decode cX10_write 69 = .ok (.iload_n 3, 1) := by decide +kernel
theorem dX10_write_70 : decode cX10_write 70 = .ok (.iastore, 1) := by decide +kernel
theorem dX10_write_71 : decode cX10_write 71 = .ok (.iload 5, 2) := by decide +kernel
theorem dX10_write_73 : decode cX10_write 73 = .ok (.ireturn, 1) := by decide +kernel
theorem dX10_cellOf_0 : decode cX10_cellOf 0 = .ok (.iload_n 2, 1) := by decide +kernel
theorem dX10_cellOf_1 : decode cX10_cellOf 1 = .ok (.iconst 0, 1) := by decide +kernel
theorem dX10_cellOf_2 : decode cX10_cellOf 2 = .ok (.aload_n 0, 1) := by decide +kernel
theorem dX10_cellOf_3 : decode cX10_cellOf 3 = .ok (.iload_n 1, 1) := by decide +kernel
theorem dX10_cellOf_4 : decode cX10_cellOf 4 = .ok (.iconst 3, 1) := by decide +kernel
theorem dX10_cellOf_5 : decode cX10_cellOf 5 = .ok (.invokevirtual 57, 3) := by decide +kernel
theorem dX10_cellOf_8 : decode cX10_cellOf 8 = .ok (.iconst 1, 1) := by decide +kernel
theorem dX10_cellOf_9 : decode cX10_cellOf 9 = .ok (.isub, 1) := by decide +kernel
theorem dX10_cellOf_10 : decode cX10_cellOf 10 = .ok (.invokestatic 65, 3) := by decide +kernel
theorem dX10_cellOf_13 : decode cX10_cellOf 13 = .ok (.ifCond .eq 23, 3) := by decide +kernel
theorem dX10_cellOf_16 : decode cX10_cellOf 16 = .ok (.aload_n 0, 1) := by decide +kernel
theorem dX10_cellOf_17 : decode cX10_cellOf 17 = .ok (.getfield 9, 3) := by decide +kernel
theorem dX10_cellOf_20 : decode cX10_cellOf 20 = .ok (.sipush 330, 3) := by decide +kernel
theorem dX10_cellOf_23 : decode cX10_cellOf 23 = .ok (.aload_n 0, 1) := by decide +kernel
theorem dX10_cellOf_24 : decode cX10_cellOf 24 = .ok (.iload_n 1, 1) := by decide +kernel
theorem dX10_cellOf_25 : decode cX10_cellOf 25 = .ok (.iconst 2, 1) := by decide +kernel
theorem dX10_cellOf_26 : decode cX10_cellOf 26 = .ok (.invokevirtual 57, 3) := by decide +kernel
theorem dX10_cellOf_29 : decode cX10_cellOf 29 = .ok (.iadd, 1) := by decide +kernel
theorem dX10_cellOf_30 : decode cX10_cellOf 30 = .ok (.iload_n 2, 1) := by decide +kernel
theorem dX10_cellOf_31 : decode cX10_cellOf 31 = .ok (.iadd, 1) := by decide +kernel
theorem dX10_cellOf_32 : decode cX10_cellOf 32 = .ok (.iaload, 1) := by decide +kernel
theorem dX10_cellOf_33 : decode cX10_cellOf 33 = .ok (.goto 5, 3) := by decide +kernel
theorem dX10_cellOf_36 : decode cX10_cellOf 36 = .ok (.ldc 114, 2) := by decide +kernel
theorem dX10_cellOf_38 : decode cX10_cellOf 38 = .ok (.ireturn, 1) := by decide +kernel
theorem dX10_read_0 : decode cX10_read 0 = .ok (.aload_n 0, 1) := by decide +kernel
theorem dX10_read_1 : decode cX10_read 1 = .ok (.iload_n 1, 1) := by decide +kernel
theorem dX10_read_2 : decode cX10_read 2 = .ok (.invokevirtual 96, 3) := by decide +kernel
theorem dX10_read_5 : decode cX10_read 5 = .ok (.istore_n 3, 1) := by decide +kernel
theorem dX10_read_6 : decode cX10_read 6 = .ok (.iload_n 3, 1) := by decide +kernel
theorem dX10_read_7 : decode cX10_read 7 = .ok (.ifCond .ge 8, 3) := by decide +kernel
theorem dX10_read_10 : decode cX10_read 10 = .ok (.ldc 114, 2) := by decide +kernel
theorem dX10_read_12 : decode cX10_read 12 = .ok (.goto 9, 3) := by decide +kernel
theorem dX10_read_15 : decode cX10_read 15 = .ok (.aload_n 0, 1) := by decide +kernel
theorem dX10_read_16 : decode cX10_read 16 = .ok (.iload_n 3, 1) := by decide +kernel
theorem dX10_read_17 : decode cX10_read 17 = .ok (.iload_n 2, 1) := by decide +kernel
theorem dX10_read_18 : decode cX10_read 18 = .ok (.invokevirtual 115, 3) := by decide +kernel
theorem dX10_read_21 : decode cX10_read 21 = .ok (.ireturn, 1) := by decide +kernel
theorem dX10_peek_0 : decode cX10_peek 0 = .ok (.iload_n 1, 1) := by decide +kernel
theorem dX10_peek_1 : decode cX10_peek 1 = .ok (.iconst 0, 1) := by decide +kernel
theorem dX10_peek_2 : decode cX10_peek 2 = .ok (.iconst 5, 1) := by decide +kernel
theorem dX10_peek_3 : decode cX10_peek 3 = .ok (.invokestatic 65, 3) := by decide +kernel
theorem dX10_peek_6 : decode cX10_peek 6 = .ok (.ifCond .eq 29, 3) := by decide +kernel
theorem dX10_peek_9 : decode cX10_peek 9 = .ok (.aload_n 0, 1) := by decide +kernel
theorem dX10_peek_10 : decode cX10_peek 10 = .ok (.getfield 9, 3) := by decide +kernel
theorem dX10_peek_13 : decode cX10_peek 13 = .ok (.sipush 599, 3) := by decide +kernel
theorem dX10_peek_16 : decode cX10_peek 16 = .ok (.iload_n 1, 1) := by decide +kernel
theorem dX10_peek_17 : decode cX10_peek 17 = .ok (.iadd, 1) := by decide +kernel
theorem dX10_peek_18 : decode cX10_peek 18 = .ok (.iaload, 1) := by decide +kernel
theorem dX10_peek_19 : decode cX10_peek 19 = .ok (.ifCond .lt 16, 3) := by decide +kernel
theorem dX10_peek_22 : decode cX10_peek 22 = .ok (.iload_n 2, 1) := by decide +kernel
theorem dX10_peek_23 : decode cX10_peek 23 = .ok (.ifCond .lt 12, 3) := by decide +kernel
theorem dX10_peek_26 : decode cX10_peek 26 = .ok (.iload_n 2, 1) := by decide +kernel
theorem dX10_peek_27 : decode cX10_peek 27 = .ok (.bipush 100, 2) := by decide +kernel
theorem dX10_peek_29 : decode cX10_peek 29 = .ok (.irem, 1) := by decide +kernel
theorem dX10_peek_30 : decode cX10_peek 30 = .ok (.bipush 30, 2) := by decide +kernel
theorem dX10_peek_32 : decode cX10_peek 32 = .ok (.if_icmp .lt 6, 3) := by decide +kernel
theorem dX10_peek_35 : decode cX10_peek 35 = .ok (.ldc 114, 2) := by decide +kernel
theorem dX10_peek_37 : decode cX10_peek 37 = .ok (.ireturn, 1) := by decide +kernel
theorem dX10_peek_38 : decode cX10_peek 38 = .ok (.iload_n 2, 1) := by decide +kernel
theorem dX10_peek_39 : decode cX10_peek 39 = .ok (.bipush 100, 2) := by decide +kernel
theorem dX10_peek_41 : decode cX10_peek 41 = .ok (.irem, 1) := by decide +kernel
theorem dX10_peek_42 : decode cX10_peek 42 = .ok (.istore 4, 2) := by decide +kernel
theorem dX10_peek_44 : decode cX10_peek 44 = .ok (.aload_n 0, 1) := by decide +kernel
theorem dX10_peek_45 : decode cX10_peek 45 = .ok (.iload 4, 2) := by decide +kernel
theorem dX10_peek_47 : decode cX10_peek 47 = .ok (.invokevirtual 61, 3) := by decide +kernel
theorem dX10_peek_50 : decode cX10_peek 50 = .ok (.ifCond .ne 35, 3) := by decide +kernel
theorem dX10_peek_53 : decode cX10_peek 53 = .ok (.aload_n 0, 1) := by decide +kernel
theorem dX10_peek_54 : decode cX10_peek 54 = .ok (.iload 4, 2) := by decide +kernel
theorem dX10_peek_56 : decode cX10_peek 56 = .ok (.iconst 0, 1) := by decide +kernel
theorem dX10_peek_57 : decode cX10_peek 57 = .ok (.invokevirtual 57, 3) := by decide +kernel
theorem dX10_peek_60 : decode cX10_peek 60 = .ok (.iconst 2, 1) := by decide +kernel
theorem dX10_peek_61 : decode cX10_peek 61 = .ok (.if_icmp .ne 28, 3) := by decide +kernel
theorem dX10_peek_64 : decode cX10_peek 64 = .ok (.aload_n 0, 1) := by decide +kernel
theorem dX10_peek_65 : decode cX10_peek 65 = .ok (.iload 4, 2) := by decide +kernel
theorem dX10_peek_67 : decode cX10_peek 67 = .ok (.bipush 9, 2) := by decide +kernel
theorem dX10_peek_69 : decode cX10_peek 69 = .ok (.invokevirtual 57, 3) := by decide +kernel
theorem dX10_peek_72 : decode cX10_peek 72 = .ok (.aload_n 0, 1) := by decide +kernel
theorem dX10_peek_73 : decode cX10_peek 73 = .ok (.getfield 9, 3) := by decide +kernel
theorem dX10_peek_76 : decode cX10_peek 76 = .ok (.sipush 599, 3) := by decide +kernel
theorem dX10_peek_79 : decode cX10_peek 79 = .ok (.iload_n 1, 1) := by decide +kernel
theorem dX10_peek_80 : decode cX10_peek 80 = .ok (.iadd, 1) := by decide +kernel
theorem dX10_peek_81 : decode cX10_peek 81 = .ok (.iaload, 1) := by decide +kernel
theorem dX10_peek_82 : decode cX10_peek 82 = .ok (.if_icmp .lt 7, 3) := by decide +kernel
theorem dX10_peek_85 : decode cX10_peek 85 = .ok (.iconst 1, 1) := by decide +kernel
theorem dX10_peek_86 : decode cX10_peek 86 = .ok (.goto 4, 3) := by decide +kernel
theorem dX10_peek_89 : decode cX10_peek 89 = .ok (.iconst 0, 1) := by decide +kernel
theorem dX10_peek_90 : decode cX10_peek 90 = .ok (.istore 5, 2) := by decide +kernel
theorem dX10_peek_92 : decode cX10_peek 92 = .ok (.iload 5, 2) := by decide +kernel
theorem dX10_peek_94 : decode cX10_peek 94 = .ok (.ifCond .eq 27, 3) := by decide +kernel
theorem dX10_peek_97 : decode cX10_peek 97 = .ok (.aload_n 0, 1) := by decide +kernel
theorem dX10_peek_98 : decode cX10_peek 98 = .ok (.iload 4, 2) := by decide +kernel
theorem dX10_peek_100 : decode cX10_peek 100 = .ok (.iconst 1, 1) := by decide +kernel
theorem dX10_peek_101 : decode cX10_peek 101 = .ok (.invokevirtual 57, 3) := by decide +kernel
theorem dX10_peek_104 : decode cX10_peek 104 = .ok (.iload_n 2, 1) := by decide +kernel
theorem dX10_peek_105 : decode cX10_peek 105 = .ok (.bipush 100, 2) := by decide +kernel
theorem dX10_peek_107 : decode cX10_peek 107 = .ok (.idiv, 1) := by decide +kernel
theorem dX10_peek_108 : decode cX10_peek 108 = .ok (.if_icmp .ne 13, 3) := by decide +kernel
theorem dX10_peek_111 : decode cX10_peek 111 = .ok (.aload_n 0, 1) := by decide +kernel
theorem dX10_peek_112 : decode cX10_peek 112 = .ok (.iload 4, 2) := by decide +kernel
theorem dX10_peek_114 : decode cX10_peek 114 = .ok (.iload_n 3, 1) := by decide +kernel
theorem dX10_peek_115 : decode cX10_peek 115 = .ok (.invokevirtual 115, 3) := by decide +kernel
theorem dX10_peek_118 : decode cX10_peek 118 = .ok (.goto 5, 3) := by decide +kernel
theorem dX10_peek_121 : decode cX10_peek 121 = .ok (.ldc 114, 2) := by decide +kernel
theorem dX10_peek_123 : decode cX10_peek 123 = .ok (.ireturn, 1) := by decide +kernel
theorem dX10_of_0 : decode cX10_of 0 = .ok (.iload_n 2, 1) := by decide +kernel
theorem dX10_of_1 : decode cX10_of 1 = .ok (.iconst 0, 1) := by decide +kernel
theorem dX10_of_2 : decode cX10_of 2 = .ok (.iconst 5, 1) := by decide +kernel
theorem dX10_of_3 : decode cX10_of 3 = .ok (.invokestatic 65, 3) := by decide +kernel
theorem dX10_of_6 : decode cX10_of 6 = .ok (.ifCond .ne 5, 3) := by decide +kernel
theorem dX10_of_9 : decode cX10_of 9 = .ok (.iconst (-1), 1) := by decide +kernel
theorem dX10_of_10 : decode cX10_of 10 = .ok (.ireturn, 1) := by decide +kernel
theorem dX10_of_11 : decode cX10_of 11 = .ok (.aload_n 0, 1) := by decide +kernel
theorem dX10_of_12 : decode cX10_of 12 = .ok (.iload_n 1, 1) := by decide +kernel
theorem dX10_of_13 : decode cX10_of 13 = .ok (.invokevirtual 96, 3) := by decide +kernel
theorem dX10_of_16 : decode cX10_of 16 = .ok (.istore_n 3, 1) := by decide +kernel
theorem dX10_of_17 : decode cX10_of 17 = .ok (.iload_n 3, 1) := by decide +kernel
theorem dX10_of_18 : decode cX10_of 18 = .ok (.ifCond .ge 6, 3) := by decide +kernel
theorem dX10_of_21 : decode cX10_of 21 = .ok (.bipush (-4), 2) := by decide +kernel
theorem dX10_of_23 : decode cX10_of 23 = .ok (.ireturn, 1) := by decide +kernel
theorem dX10_of_24 : decode cX10_of 24 = .ok (.iload_n 2, 1) := by decide +kernel
theorem dX10_of_25 : decode cX10_of 25 = .ok (.tableswitch 71 0 4 #[35, 42, 49, 56, 63], 35) := by decide +kernel
theorem dX10_of_60 : decode cX10_of 60 = .ok (.aload_n 0, 1) := by decide +kernel
theorem dX10_of_61 : decode cX10_of 61 = .ok (.iload_n 3, 1) := by decide +kernel
theorem dX10_of_62 : decode cX10_of 62 = .ok (.iconst 2, 1) := by decide +kernel
theorem dX10_of_63 : decode cX10_of 63 = .ok (.invokevirtual 57, 3) := by decide +kernel
theorem dX10_of_66 : decode cX10_of 66 = .ok (.ireturn, 1) := by decide +kernel
theorem dX10_of_67 : decode cX10_of 67 = .ok (.aload_n 0, 1) := by decide +kernel
theorem dX10_of_68 : decode cX10_of 68 = .ok (.iload_n 3, 1) := by decide +kernel
theorem dX10_of_69 : decode cX10_of 69 = .ok (.iconst 3, 1) := by decide +kernel
theorem dX10_of_70 : decode cX10_of 70 = .ok (.invokevirtual 57, 3) := by decide +kernel
theorem dX10_of_73 : decode cX10_of 73 = .ok (.ireturn, 1) := by decide +kernel
theorem dX10_of_74 : decode cX10_of 74 = .ok (.aload_n 0, 1) := by decide +kernel
theorem dX10_of_75 : decode cX10_of 75 = .ok (.iload_n 3, 1) := by decide +kernel
theorem dX10_of_76 : decode cX10_of 76 = .ok (.iconst 4, 1) := by decide +kernel
theorem dX10_of_77 : decode cX10_of 77 = .ok (.invokevirtual 57, 3) := by decide +kernel
theorem dX10_of_80 : decode cX10_of 80 = .ok (.ireturn, 1) := by decide +kernel
theorem dX10_of_81 : decode cX10_of 81 = .ok (.aload_n 0, 1) := by decide +kernel
theorem dX10_of_82 : decode cX10_of 82 = .ok (.iload_n 3, 1) := by decide +kernel
theorem dX10_of_83 : decode cX10_of 83 = .ok (.iconst 5, 1) := by decide +kernel
theorem dX10_of_84 : decode cX10_of 84 = .ok (.invokevirtual 57, 3) := by decide +kernel
theorem dX10_of_87 : decode cX10_of 87 = .ok (.ireturn, 1) := by decide +kernel
theorem dX10_of_88 : decode cX10_of 88 = .ok (.aload_n 0, 1) := by decide +kernel
theorem dX10_of_89 : decode cX10_of 89 = .ok (.iload_n 3, 1) := by decide +kernel
theorem dX10_of_90 : decode cX10_of 90 = .ok (.bipush 6, 2) := by decide +kernel
theorem dX10_of_92 : decode cX10_of 92 = .ok (.invokevirtual 57, 3) := by decide +kernel
theorem dX10_of_95 : decode cX10_of 95 = .ok (.ireturn, 1) := by decide +kernel
theorem dX10_of_96 : decode cX10_of 96 = .ok (.aload_n 0, 1) := by decide +kernel
theorem dX10_of_97 : decode cX10_of 97 = .ok (.iload_n 3, 1) := by decide +kernel
theorem dX10_of_98 : decode cX10_of 98 = .ok (.bipush 7, 2) := by decide +kernel
theorem dX10_of_100 : decode cX10_of 100 = .ok (.invokevirtual 57, 3) := by decide +kernel
theorem dX10_of_103 : decode cX10_of 103 = .ok (.ifCond .ge 8, 3) := by decide +kernel
theorem dX10_of_106 : decode cX10_of 106 = .ok (.bipush (-2), 2) := by decide +kernel
theorem dX10_of_108 : decode cX10_of 108 = .ok (.goto 10, 3) := by decide +kernel
theorem dX10_of_111 : decode cX10_of 111 = .ok (.aload_n 0, 1) := by decide +kernel
theorem dX10_of_112 : decode cX10_of 112 = .ok (.iload_n 3, 1) := by decide +kernel
theorem dX10_of_113 : decode cX10_of 113 = .ok (.bipush 7, 2) := by decide +kernel
theorem dX10_of_115 : decode cX10_of 115 = .ok (.invokevirtual 57, 3) := by decide +kernel
theorem dX10_of_118 : decode cX10_of 118 = .ok (.ireturn, 1) := by decide +kernel
theorem dX10_slot_0 : decode cX10_slot 0 = .ok (.iload_n 1, 1) := by decide +kernel
theorem dX10_slot_1 : decode cX10_slot 1 = .ok (.iconst 0, 1) := by decide +kernel
theorem dX10_slot_2 : decode cX10_slot 2 = .ok (.bipush 29, 2) := by decide +kernel
theorem dX10_slot_4 : decode cX10_slot 4 = .ok (.invokestatic 65, 3) := by decide +kernel
theorem dX10_slot_7 : decode cX10_slot 7 = .ok (.ifCond .eq 12, 3) := by decide +kernel
theorem dX10_slot_10 : decode cX10_slot 10 = .ok (.iload_n 2, 1) := by decide +kernel
theorem dX10_slot_11 : decode cX10_slot 11 = .ok (.iconst 0, 1) := by decide +kernel
theorem dX10_slot_12 : decode cX10_slot 12 = .ok (.iconst 3, 1) := by decide +kernel
theorem dX10_slot_13 : decode cX10_slot 13 = .ok (.invokestatic 65, 3) := by decide +kernel
theorem dX10_slot_16 : decode cX10_slot 16 = .ok (.ifCond .ne 5, 3) := by decide +kernel
theorem dX10_slot_19 : decode cX10_slot 19 = .ok (.iconst (-1), 1) := by decide +kernel
theorem dX10_slot_20 : decode cX10_slot 20 = .ok (.ireturn, 1) := by decide +kernel
theorem dX10_slot_21 : decode cX10_slot 21 = .ok (.aload_n 0, 1) := by decide +kernel
theorem dX10_slot_22 : decode cX10_slot 22 = .ok (.iload_n 1, 1) := by decide +kernel
theorem dX10_slot_23 : decode cX10_slot 23 = .ok (.iconst 0, 1) := by decide +kernel
theorem dX10_slot_24 : decode cX10_slot 24 = .ok (.invokevirtual 57, 3) := by decide +kernel
theorem dX10_slot_27 : decode cX10_slot 27 = .ok (.iconst 2, 1) := by decide +kernel
theorem dX10_slot_28 : decode cX10_slot 28 = .ok (.if_icmp .ne 7, 3) := by decide +kernel
theorem dX10_slot_31 : decode cX10_slot 31 = .ok (.iconst 1, 1) := by decide +kernel
theorem dX10_slot_32 : decode cX10_slot 32 = .ok (.goto 4, 3) := by decide +kernel
theorem dX10_slot_35 : decode cX10_slot 35 = .ok (.iconst 0, 1) := by decide +kernel
theorem dX10_slot_36 : decode cX10_slot 36 = .ok (.istore_n 3, 1) := by decide +kernel
theorem dX10_slot_37 : decode cX10_slot 37 = .ok (.iload_n 2, 1) := by decide +kernel
theorem dX10_slot_38 : decode cX10_slot 38 = .ok (.tableswitch 62 0 2 #[26, 45, 52], 26) := by decide +kernel
theorem dX10_slot_64 : decode cX10_slot 64 = .ok (.aload_n 0, 1) := by decide +kernel
theorem dX10_slot_65 : decode cX10_slot 65 = .ok (.iload_n 1, 1) := by decide +kernel
theorem dX10_slot_66 : decode cX10_slot 66 = .ok (.invokevirtual 61, 3) := by decide +kernel
theorem dX10_slot_69 : decode cX10_slot 69 = .ok (.ifCond .eq 11, 3) := by decide +kernel
theorem dX10_slot_72 : decode cX10_slot 72 = .ok (.aload_n 0, 1) := by decide +kernel
theorem dX10_slot_73 : decode cX10_slot 73 = .ok (.iload_n 1, 1) := by decide +kernel
theorem dX10_slot_74 : decode cX10_slot 74 = .ok (.invokevirtual 93, 3) := by decide +kernel
theorem dX10_slot_77 : decode cX10_slot 77 = .ok (.goto 5, 3) := by decide +kernel
theorem dX10_slot_80 : decode cX10_slot 80 = .ok (.bipush (-2), 2) := by decide +kernel
theorem dX10_slot_82 : decode cX10_slot 82 = .ok (.ireturn, 1) := by decide +kernel
theorem dX10_slot_83 : decode cX10_slot 83 = .ok (.aload_n 0, 1) := by decide +kernel
theorem dX10_slot_84 : decode cX10_slot 84 = .ok (.iload_n 1, 1) := by decide +kernel
theorem dX10_slot_85 : decode cX10_slot 85 = .ok (.iconst 1, 1) := by decide +kernel
theorem dX10_slot_86 : decode cX10_slot 86 = .ok (.invokevirtual 57, 3) := by decide +kernel
theorem dX10_slot_89 : decode cX10_slot 89 = .ok (.ireturn, 1) := by decide +kernel
theorem dX10_slot_90 : decode cX10_slot 90 = .ok (.iload_n 3, 1) := by decide +kernel
theorem dX10_slot_91 : decode cX10_slot 91 = .ok (.ifCond .eq 7, 3) := by decide +kernel
theorem dX10_slot_94 : decode cX10_slot 94 = .ok (.iconst 1, 1) := by decide +kernel
theorem dX10_slot_95 : decode cX10_slot 95 = .ok (.goto 4, 3) := by decide +kernel
theorem dX10_slot_98 : decode cX10_slot 98 = .ok (.iconst 0, 1) := by decide +kernel
theorem dX10_slot_99 : decode cX10_slot 99 = .ok (.ireturn, 1) := by decide +kernel
theorem dX10_slot_100 : decode cX10_slot 100 = .ok (.iload_n 3, 1) := by decide +kernel
theorem dX10_slot_101 : decode cX10_slot 101 = .ok (.ifCond .eq 13, 3) := by decide +kernel
theorem dX10_slot_104 : decode cX10_slot 104 = .ok (.aload_n 0, 1) := by decide +kernel
theorem dX10_slot_105 : decode cX10_slot 105 = .ok (.iload_n 1, 1) := by decide +kernel
theorem dX10_slot_106 : decode cX10_slot 106 = .ok (.bipush 9, 2) := by decide +kernel
theorem dX10_slot_108 : decode cX10_slot 108 = .ok (.invokevirtual 57, 3) := by decide +kernel
theorem dX10_slot_111 : decode cX10_slot 111 = .ok (.goto 5, 3) := by decide +kernel
theorem dX10_slot_114 : decode cX10_slot 114 = .ok (.bipush (-2), 2) := by decide +kernel
theorem dX10_slot_116 : decode cX10_slot 116 = .ok (.ireturn, 1) := by decide +kernel
theorem dX10_lies_0 : decode cX10_lies 0 = .ok (.iload_n 1, 1) := by decide +kernel
theorem dX10_lies_1 : decode cX10_lies 1 = .ok (.iconst 0, 1) := by decide +kernel
theorem dX10_lies_2 : decode cX10_lies 2 = .ok (.sipush 239, 3) := by decide +kernel
theorem dX10_lies_5 : decode cX10_lies 5 = .ok (.invokestatic 65, 3) := by decide +kernel
theorem dX10_lies_8 : decode cX10_lies 8 = .ok (.ifCond .ne 5, 3) := by decide +kernel
theorem dX10_lies_11 : decode cX10_lies 11 = .ok (.iconst (-1), 1) := by decide +kernel
theorem dX10_lies_12 : decode cX10_lies 12 = .ok (.ireturn, 1) := by decide +kernel
theorem dX10_lies_13 : decode cX10_lies 13 = .ok (.aload_n 0, 1) := by decide +kernel
theorem dX10_lies_14 : decode cX10_lies 14 = .ok (.invokevirtual 79, 3) := by decide +kernel
theorem dX10_lies_17 : decode cX10_lies 17 = .ok (.aload_n 0, 1) := by decide +kernel
theorem dX10_lies_18 : decode cX10_lies 18 = .ok (.getfield 22, 3) := by decide +kernel
theorem dX10_lies_21 : decode cX10_lies 21 = .ok (.iload_n 1, 1) := by decide +kernel
theorem dX10_lies_22 : decode cX10_lies 22 = .ok (.iaload, 1) := by decide +kernel
theorem dX10_lies_23 : decode cX10_lies 23 = .ok (.ireturn, 1) := by decide +kernel
theorem dX10_tagsMany_0 : decode cX10_tagsMany 0 = .ok (.iconst 0, 1) := by decide +kernel
theorem dX10_tagsMany_1 : decode cX10_tagsMany 1 = .ok (.istore_n 1, 1) := by decide +kernel
theorem dX10_tagsMany_2 : decode cX10_tagsMany 2 = .ok (.iconst 0, 1) := by decide +kernel
theorem dX10_tagsMany_3 : decode cX10_tagsMany 3 = .ok (.istore_n 2, 1) := by decide +kernel
theorem dX10_tagsMany_4 : decode cX10_tagsMany 4 = .ok (.iload_n 2, 1) := by decide +kernel
theorem dX10_tagsMany_5 : decode cX10_tagsMany 5 = .ok (.bipush 30, 2) := by decide +kernel
theorem dX10_tagsMany_7 : decode cX10_tagsMany 7 = .ok (.if_icmp .ge 35, 3) := by decide +kernel
theorem dX10_tagsMany_10 : decode cX10_tagsMany 10 = .ok (.iload_n 1, 1) := by decide +kernel
theorem dX10_tagsMany_11 : decode cX10_tagsMany 11 = .ok (.aload_n 0, 1) := by decide +kernel
theorem dX10_tagsMany_12 : decode cX10_tagsMany 12 = .ok (.iload_n 2, 1) := by decide +kernel
theorem dX10_tagsMany_13 : decode cX10_tagsMany 13 = .ok (.invokevirtual 61, 3) := by decide +kernel
theorem dX10_tagsMany_16 : decode cX10_tagsMany 16 = .ok (.ifCond .eq 17, 3) := by decide +kernel
theorem dX10_tagsMany_19 : decode cX10_tagsMany 19 = .ok (.aload_n 0, 1) := by decide +kernel
theorem dX10_tagsMany_20 : decode cX10_tagsMany 20 = .ok (.iload_n 2, 1) := by decide +kernel
theorem dX10_tagsMany_21 : decode cX10_tagsMany 21 = .ok (.bipush 7, 2) := by decide +kernel
theorem dX10_tagsMany_23 : decode cX10_tagsMany 23 = .ok (.invokevirtual 57, 3) := by decide +kernel
theorem dX10_tagsMany_26 : decode cX10_tagsMany 26 = .ok (.ifCond .lt 7, 3) := by decide +kernel
theorem dX10_tagsMany_29 : decode cX10_tagsMany 29 = .ok (.iconst 1, 1) := by decide +kernel
theorem dX10_tagsMany_30 : decode cX10_tagsMany 30 = .ok (.goto 4, 3) := by decide +kernel
theorem dX10_tagsMany_33 : decode cX10_tagsMany 33 = .ok (.iconst 0, 1) := by decide +kernel
theorem dX10_tagsMany_34 : decode cX10_tagsMany 34 = .ok (.iadd, 1) := by decide +kernel
theorem dX10_tagsMany_35 : decode cX10_tagsMany 35 = .ok (.istore_n 1, 1) := by decide +kernel
theorem dX10_tagsMany_36 : decode cX10_tagsMany 36 = .ok (.iinc 2 1, 3) := by decide +kernel
theorem dX10_tagsMany_39 : decode cX10_tagsMany 39 = .ok (.goto (-35), 3) := by decide +kernel
theorem dX10_tagsMany_42 : decode cX10_tagsMany 42 = .ok (.iload_n 1, 1) := by decide +kernel
theorem dX10_tagsMany_43 : decode cX10_tagsMany 43 = .ok (.ireturn, 1) := by decide +kernel
theorem dX10_taggedBy_0 : decode cX10_taggedBy 0 = .ok (.iconst 0, 1) := by decide +kernel
theorem dX10_taggedBy_1 : decode cX10_taggedBy 1 = .ok (.istore_n 2, 1) := by decide +kernel
theorem dX10_taggedBy_2 : decode cX10_taggedBy 2 = .ok (.iload_n 2, 1) := by decide +kernel
theorem dX10_taggedBy_3 : decode cX10_taggedBy 3 = .ok (.bipush 30, 2) := by decide +kernel
theorem dX10_taggedBy_5 : decode cX10_taggedBy 5 = .ok (.if_icmp .ge 30, 3) := by decide +kernel
theorem dX10_taggedBy_8 : decode cX10_taggedBy 8 = .ok (.aload_n 0, 1) := by decide +kernel
theorem dX10_taggedBy_9 : decode cX10_taggedBy 9 = .ok (.iload_n 2, 1) := by decide +kernel
theorem dX10_taggedBy_10 : decode cX10_taggedBy 10 = .ok (.invokevirtual 61, 3) := by decide +kernel
theorem dX10_taggedBy_13 : decode cX10_taggedBy 13 = .ok (.ifCond .eq 16, 3) := by decide +kernel
theorem dX10_taggedBy_16 : decode cX10_taggedBy 16 = .ok (.aload_n 0, 1) := by decide +kernel
theorem dX10_taggedBy_17 : decode cX10_taggedBy 17 = .ok (.iload_n 2, 1) := by decide +kernel
theorem dX10_taggedBy_18 : decode cX10_taggedBy 18 = .ok (.bipush 7, 2) := by decide +kernel
theorem dX10_taggedBy_20 : decode cX10_taggedBy 20 = .ok (.invokevirtual 57, 3) := by decide +kernel
theorem dX10_taggedBy_23 : decode cX10_taggedBy 23 = .ok (.iload_n 1, 1) := by decide +kernel
theorem dX10_taggedBy_24 : decode cX10_taggedBy 24 = .ok (.if_icmp .ne 5, 3) := by decide +kernel
theorem dX10_taggedBy_27 : decode cX10_taggedBy 27 = .ok (.iload_n 2, 1) := by decide +kernel
theorem dX10_taggedBy_28 : decode cX10_taggedBy 28 = .ok (.ireturn, 1) := by decide +kernel
theorem dX10_taggedBy_29 : decode cX10_taggedBy 29 = .ok (.iinc 2 1, 3) := by decide +kernel
theorem dX10_taggedBy_32 : decode cX10_taggedBy 32 = .ok (.goto (-30), 3) := by decide +kernel
theorem dX10_taggedBy_35 : decode cX10_taggedBy 35 = .ok (.bipush (-2), 2) := by decide +kernel
theorem dX10_taggedBy_37 : decode cX10_taggedBy 37 = .ok (.ireturn, 1) := by decide +kernel
theorem dX10_tag_0 : decode cX10_tag 0 = .ok (.iload_n 2, 1) := by decide +kernel
theorem dX10_tag_1 : decode cX10_tag 1 = .ok (.iconst 0, 1) := by decide +kernel
theorem dX10_tag_2 : decode cX10_tag 2 = .ok (.sipush 499, 3) := by decide +kernel
theorem dX10_tag_5 : decode cX10_tag 5 = .ok (.invokestatic 65, 3) := by decide +kernel
theorem dX10_tag_8 : decode cX10_tag 8 = .ok (.ifCond .ne 5, 3) := by decide +kernel
theorem dX10_tag_11 : decode cX10_tag 11 = .ok (.iconst (-1), 1) := by decide +kernel
theorem dX10_tag_12 : decode cX10_tag 12 = .ok (.ireturn, 1) := by decide +kernel
theorem dX10_tag_13 : decode cX10_tag 13 = .ok (.aload_n 0, 1) := by decide +kernel
theorem dX10_tag_14 : decode cX10_tag 14 = .ok (.iload_n 1, 1) := by decide +kernel
theorem dX10_tag_15 : decode cX10_tag 15 = .ok (.invokevirtual 96, 3) := by decide +kernel
theorem dX10_tag_18 : decode cX10_tag 18 = .ok (.istore_n 3, 1) := by decide +kernel
theorem dX10_tag_19 : decode cX10_tag 19 = .ok (.iload_n 3, 1) := by decide +kernel
theorem dX10_tag_20 : decode cX10_tag 20 = .ok (.ifCond .ge 6, 3) := by decide +kernel
theorem dX10_tag_23 : decode cX10_tag 23 = .ok (.bipush (-4), 2) := by decide +kernel
theorem dX10_tag_25 : decode cX10_tag 25 = .ok (.ireturn, 1) := by decide +kernel
theorem dX10_tag_26 : decode cX10_tag 26 = .ok (.aload_n 0, 1) := by decide +kernel
theorem dX10_tag_27 : decode cX10_tag 27 = .ok (.iload_n 2, 1) := by decide +kernel
theorem dX10_tag_28 : decode cX10_tag 28 = .ok (.invokevirtual 118, 3) := by decide +kernel
theorem dX10_tag_31 : decode cX10_tag 31 = .ok (.istore 4, 2) := by decide +kernel
theorem dX10_tag_33 : decode cX10_tag 33 = .ok (.iload 4, 2) := by decide +kernel
theorem dX10_tag_35 : decode cX10_tag 35 = .ok (.ifCond .lt 12, 3) := by decide +kernel
theorem dX10_tag_38 : decode cX10_tag 38 = .ok (.iload 4, 2) := by decide +kernel
theorem dX10_tag_40 : decode cX10_tag 40 = .ok (.iload_n 3, 1) := by decide +kernel
theorem dX10_tag_41 : decode cX10_tag 41 = .ok (.if_icmp .eq 6, 3) := by decide +kernel
theorem dX10_tag_44 : decode cX10_tag 44 = .ok (.bipush (-5), 2) := by decide +kernel
theorem dX10_tag_46 : decode cX10_tag 46 = .ok (.ireturn, 1) := by decide +kernel
theorem dX10_tag_47 : decode cX10_tag 47 = .ok (.aload_n 0, 1) := by decide +kernel
theorem dX10_tag_48 : decode cX10_tag 48 = .ok (.iload_n 3, 1) := by decide +kernel
theorem dX10_tag_49 : decode cX10_tag 49 = .ok (.bipush 7, 2) := by decide +kernel
theorem dX10_tag_51 : decode cX10_tag 51 = .ok (.iload_n 2, 1) := by decide +kernel
theorem dX10_tag_52 : decode cX10_tag 52 = .ok (.invokevirtual 89, 3) := by decide +kernel
theorem dX10_tag_55 : decode cX10_tag 55 = .ok (.aload_n 0, 1) := by decide +kernel
theorem dX10_tag_56 : decode cX10_tag 56 = .ok (.iload_n 3, 1) := by decide +kernel
theorem dX10_tag_57 : decode cX10_tag 57 = .ok (.bipush 8, 2) := by decide +kernel
theorem dX10_tag_59 : decode cX10_tag 59 = .ok (.aload_n 0, 1) := by decide +kernel
theorem dX10_tag_60 : decode cX10_tag 60 = .ok (.getfield 9, 3) := by decide +kernel
theorem dX10_tag_63 : decode cX10_tag 63 = .ok (.sipush 606, 3) := by decide +kernel
theorem dX10_tag_66 : decode cX10_tag 66 = .ok (.dup2, 1) := by decide +kernel
theorem dX10_tag_67 : decode cX10_tag 67 = .ok (.iaload, 1) := by decide +kernel
theorem dX10_tag_68 : decode cX10_tag 68 = .ok (.dup_x2, 1) := by decide +kernel
theorem dX10_tag_69 : decode cX10_tag 69 = .ok (.iconst 1, 1) := by decide +kernel
theorem dX10_tag_70 : decode cX10_tag 70 = .ok (.iadd, 1) := by decide +kernel
theorem dX10_tag_71 : decode cX10_tag 71 = .ok (.iastore, 1) := by decide +kernel
theorem dX10_tag_72 : decode cX10_tag 72 = .ok (.invokevirtual 89, 3) := by decide +kernel
theorem dX10_tag_75 : decode cX10_tag 75 = .ok (.aload_n 0, 1) := by decide +kernel
theorem dX10_tag_76 : decode cX10_tag 76 = .ok (.invokevirtual 121, 3) := by decide +kernel
theorem dX10_tag_79 : decode cX10_tag 79 = .ok (.ireturn, 1) := by decide +kernel
theorem dX10_find_0 : decode cX10_find 0 = .ok (.iload_n 1, 1) := by decide +kernel
theorem dX10_find_1 : decode cX10_find 1 = .ok (.iconst 0, 1) := by decide +kernel
theorem dX10_find_2 : decode cX10_find 2 = .ok (.sipush 499, 3) := by decide +kernel
theorem dX10_find_5 : decode cX10_find 5 = .ok (.invokestatic 65, 3) := by decide +kernel
theorem dX10_find_8 : decode cX10_find 8 = .ok (.ifCond .ne 5, 3) := by decide +kernel
theorem dX10_find_11 : decode cX10_find 11 = .ok (.iconst (-1), 1) := by decide +kernel
theorem dX10_find_12 : decode cX10_find 12 = .ok (.ireturn, 1) := by decide +kernel
theorem dX10_find_13 : decode cX10_find 13 = .ok (.aload_n 0, 1) := by decide +kernel
theorem dX10_find_14 : decode cX10_find 14 = .ok (.iload_n 1, 1) := by decide +kernel
theorem dX10_find_15 : decode cX10_find 15 = .ok (.invokevirtual 118, 3) := by decide +kernel
theorem dX10_find_18 : decode cX10_find 18 = .ok (.istore_n 2, 1) := by decide +kernel
theorem dX10_find_19 : decode cX10_find 19 = .ok (.iload_n 2, 1) := by decide +kernel
theorem dX10_find_20 : decode cX10_find 20 = .ok (.ifCond .ge 8, 3) := by decide +kernel
theorem dX10_find_23 : decode cX10_find 23 = .ok (.bipush (-2), 2) := by decide +kernel
theorem dX10_find_25 : decode cX10_find 25 = .ok (.goto 8, 3) := by decide +kernel
theorem dX10_find_28 : decode cX10_find 28 = .ok (.aload_n 0, 1) := by decide +kernel
theorem dX10_find_29 : decode cX10_find 29 = .ok (.iload_n 2, 1) := by decide +kernel
theorem dX10_find_30 : decode cX10_find 30 = .ok (.invokevirtual 93, 3) := by decide +kernel
theorem dX10_find_33 : decode cX10_find 33 = .ok (.ireturn, 1) := by decide +kernel
theorem dX10_tagged_0 : decode cX10_tagged 0 = .ok (.iload_n 1, 1) := by decide +kernel
theorem dX10_tagged_1 : decode cX10_tagged 1 = .ok (.ifCond .ge 5, 3) := by decide +kernel
theorem dX10_tagged_4 : decode cX10_tagged 4 = .ok (.iconst (-1), 1) := by decide +kernel
theorem dX10_tagged_5 : decode cX10_tagged 5 = .ok (.ireturn, 1) := by decide +kernel
theorem dX10_tagged_6 : decode cX10_tagged 6 = .ok (.iconst 0, 1) := by decide +kernel
theorem dX10_tagged_7 : decode cX10_tagged 7 = .ok (.istore_n 2, 1) := by decide +kernel
theorem dX10_tagged_8 : decode cX10_tagged 8 = .ok (.iload_n 2, 1) := by decide +kernel
theorem dX10_tagged_9 : decode cX10_tagged 9 = .ok (.bipush 30, 2) := by decide +kernel
theorem dX10_tagged_11 : decode cX10_tagged 11 = .ok (.if_icmp .ge 104, 3) := by decide +kernel
theorem dX10_tagged_14 : decode cX10_tagged 14 = .ok (.aload_n 0, 1) := by decide +kernel
theorem dX10_tagged_15 : decode cX10_tagged 15 = .ok (.iload_n 2, 1) := by decide +kernel
theorem dX10_tagged_16 : decode cX10_tagged 16 = .ok (.invokevirtual 61, 3) := by decide +kernel
theorem dX10_tagged_19 : decode cX10_tagged 19 = .ok (.ifCond .eq 90, 3) := by decide +kernel
theorem dX10_tagged_22 : decode cX10_tagged 22 = .ok (.aload_n 0, 1) := by decide +kernel
theorem dX10_tagged_23 : decode cX10_tagged 23 = .ok (.iload_n 2, 1) := by decide +kernel
theorem dX10_tagged_24 : decode cX10_tagged 24 = .ok (.bipush 7, 2) := by decide +kernel
theorem dX10_tagged_26 : decode cX10_tagged 26 = .ok (.invokevirtual 57, 3) := by decide +kernel
theorem dX10_tagged_29 : decode cX10_tagged 29 = .ok (.ifCond .lt 80, 3) := by decide +kernel
theorem dX10_tagged_32 : decode cX10_tagged 32 = .ok (.iconst 0, 1) := by decide +kernel
theorem dX10_tagged_33 : decode cX10_tagged 33 = .ok (.istore_n 3, 1) := by decide +kernel
theorem dX10_tagged_34 : decode cX10_tagged 34 = .ok (.iconst 0, 1) := by decide +kernel
theorem dX10_tagged_35 : decode cX10_tagged 35 = .ok (.istore 4, 2) := by decide +kernel
theorem dX10_tagged_37 : decode cX10_tagged 37 = .ok (.iload 4, 2) := by decide +kernel
theorem dX10_tagged_39 : decode cX10_tagged 39 = .ok (.bipush 30, 2) := by decide +kernel
theorem dX10_tagged_41 : decode cX10_tagged 41 = .ok (.if_icmp .ge 55, 3) := by decide +kernel
theorem dX10_tagged_44 : decode cX10_tagged 44 = .ok (.iload_n 3, 1) := by decide +kernel
theorem dX10_tagged_45 : decode cX10_tagged 45 = .ok (.aload_n 0, 1) := by decide +kernel
theorem dX10_tagged_46 : decode cX10_tagged 46 = .ok (.iload 4, 2) := by decide +kernel
theorem dX10_tagged_48 : decode cX10_tagged 48 = .ok (.invokevirtual 61, 3) := by decide +kernel
theorem dX10_tagged_51 : decode cX10_tagged 51 = .ok (.ifCond .eq 36, 3) := by decide +kernel
theorem dX10_tagged_54 : decode cX10_tagged 54 = .ok (.aload_n 0, 1) := by decide +kernel
theorem dX10_tagged_55 : decode cX10_tagged 55 = .ok (.iload 4, 2) := by decide +kernel
theorem dX10_tagged_57 : decode cX10_tagged 57 = .ok (.bipush 7, 2) := by decide +kernel
theorem dX10_tagged_59 : decode cX10_tagged 59 = .ok (.invokevirtual 57, 3) := by decide +kernel
theorem dX10_tagged_62 : decode cX10_tagged 62 = .ok (.ifCond .lt 25, 3) := by decide +kernel
theorem dX10_tagged_65 : decode cX10_tagged 65 = .ok (.aload_n 0, 1) := by decide +kernel
theorem dX10_tagged_66 : decode cX10_tagged 66 = .ok (.iload 4, 2) := by decide +kernel
theorem dX10_tagged_68 : decode cX10_tagged 68 = .ok (.bipush 8, 2) := by decide +kernel
theorem dX10_tagged_70 : decode cX10_tagged 70 = .ok (.invokevirtual 57, 3) := by decide +kernel
theorem dX10_tagged_73 : decode cX10_tagged 73 = .ok (.aload_n 0, 1) := by decide +kernel
theorem dX10_tagged_74 : decode cX10_tagged 74 = .ok (.iload_n 2, 1) := by decide +kernel
theorem dX10_tagged_75 : decode cX10_tagged 75 = .ok (.bipush 8, 2) := by decide +kernel
theorem dX10_tagged_77 : decode cX10_tagged 77 = .ok (.invokevirtual 57, 3) := by decide +kernel
theorem dX10_tagged_80 : decode cX10_tagged 80 = .ok (.if_icmp .ge 7, 3) := by decide +kernel
theorem dX10_tagged_83 : decode cX10_tagged 83 = .ok (.iconst 1, 1) := by decide +kernel
theorem dX10_tagged_84 : decode cX10_tagged 84 = .ok (.goto 4, 3) := by decide +kernel
theorem dX10_tagged_87 : decode cX10_tagged 87 = .ok (.iconst 0, 1) := by decide +kernel
theorem dX10_tagged_88 : decode cX10_tagged 88 = .ok (.iadd, 1) := by decide +kernel
theorem dX10_tagged_89 : decode cX10_tagged 89 = .ok (.istore_n 3, 1) := by decide +kernel
theorem dX10_tagged_90 : decode cX10_tagged 90 = .ok (.iinc 4 1, 3) := by decide +kernel
theorem dX10_tagged_93 : decode cX10_tagged 93 = .ok (.goto (-56), 3) := by decide +kernel
theorem dX10_tagged_96 : decode cX10_tagged 96 = .ok (.iload_n 3, 1) := by decide +kernel
theorem dX10_tagged_97 : decode cX10_tagged 97 = .ok (.iload_n 1, 1) := by decide +kernel
theorem dX10_tagged_98 : decode cX10_tagged 98 = .ok (.if_icmp .ne 11, 3) := by decide +kernel
theorem dX10_tagged_101 : decode cX10_tagged 101 = .ok (.aload_n 0, 1) := by decide +kernel
theorem dX10_tagged_102 : decode cX10_tagged 102 = .ok (.iload_n 2, 1) := by decide +kernel
theorem dX10_tagged_103 : decode cX10_tagged 103 = .ok (.bipush 7, 2) := by decide +kernel
theorem dX10_tagged_105 : decode cX10_tagged 105 = .ok (.invokevirtual 57, 3) := by decide +kernel
theorem dX10_tagged_108 : decode cX10_tagged 108 = .ok (.ireturn, 1) := by decide +kernel
theorem dX10_tagged_109 : decode cX10_tagged 109 = .ok (.iinc 2 1, 3) := by decide +kernel
theorem dX10_tagged_112 : decode cX10_tagged 112 = .ok (.goto (-104), 3) := by decide +kernel
theorem dX10_tagged_115 : decode cX10_tagged 115 = .ok (.bipush (-2), 2) := by decide +kernel
theorem dX10_tagged_117 : decode cX10_tagged 117 = .ok (.ireturn, 1) := by decide +kernel
theorem dX10_quota_0 : decode cX10_quota 0 = .ok (.iload_n 1, 1) := by decide +kernel
theorem dX10_quota_1 : decode cX10_quota 1 = .ok (.iconst 0, 1) := by decide +kernel
theorem dX10_quota_2 : decode cX10_quota 2 = .ok (.bipush 9, 2) := by decide +kernel
theorem dX10_quota_4 : decode cX10_quota 4 = .ok (.invokestatic 65, 3) := by decide +kernel
theorem dX10_quota_7 : decode cX10_quota 7 = .ok (.ifCond .eq 14, 3) := by decide +kernel
theorem dX10_quota_10 : decode cX10_quota 10 = .ok (.iload_n 2, 1) := by decide +kernel
theorem dX10_quota_11 : decode cX10_quota 11 = .ok (.iconst 0, 1) := by decide +kernel
theorem dX10_quota_12 : decode cX10_quota 12 = .ok (.sipush 240, 3) := by decide +kernel
theorem dX10_quota_15 : decode cX10_quota 15 = .ok (.invokestatic 65, 3) := by decide +kernel
theorem dX10_quota_18 : decode cX10_quota 18 = .ok (.ifCond .ne 5, 3) := by decide +kernel
theorem dX10_quota_21 : decode cX10_quota 21 = .ok (.iconst (-1), 1) := by decide +kernel
theorem dX10_quota_22 : decode cX10_quota 22 = .ok (.ireturn, 1) := by decide +kernel
theorem dX10_quota_23 : decode cX10_quota 23 = .ok (.aload_n 0, 1) := by decide +kernel
theorem dX10_quota_24 : decode cX10_quota 24 = .ok (.iload_n 1, 1) := by decide +kernel
theorem dX10_quota_25 : decode cX10_quota 25 = .ok (.invokevirtual 76, 3) := by decide +kernel
theorem dX10_quota_28 : decode cX10_quota 28 = .ok (.iload_n 2, 1) := by decide +kernel
theorem dX10_quota_29 : decode cX10_quota 29 = .ok (.if_icmp .le 6, 3) := by decide +kernel
theorem dX10_quota_32 : decode cX10_quota 32 = .ok (.bipush (-5), 2) := by decide +kernel
theorem dX10_quota_34 : decode cX10_quota 34 = .ok (.ireturn, 1) := by decide +kernel
theorem dX10_quota_35 : decode cX10_quota 35 = .ok (.aload_n 0, 1) := by decide +kernel
theorem dX10_quota_36 : decode cX10_quota 36 = .ok (.getfield 9, 3) := by decide +kernel
theorem dX10_quota_39 : decode cX10_quota 39 = .ok (.sipush 589, 3) := by decide +kernel
theorem dX10_quota_42 : decode cX10_quota 42 = .ok (.iload_n 1, 1) := by decide +kernel
theorem dX10_quota_43 : decode cX10_quota 43 = .ok (.iadd, 1) := by decide +kernel
theorem dX10_quota_44 : decode cX10_quota 44 = .ok (.iaload, 1) := by decide +kernel
theorem dX10_quota_45 : decode cX10_quota 45 = .ok (.istore_n 3, 1) := by decide +kernel
theorem dX10_quota_46 : decode cX10_quota 46 = .ok (.aload_n 0, 1) := by decide +kernel
theorem dX10_quota_47 : decode cX10_quota 47 = .ok (.getfield 9, 3) := by decide +kernel
theorem dX10_quota_50 : decode cX10_quota 50 = .ok (.sipush 589, 3) := by decide +kernel
theorem dX10_quota_53 : decode cX10_quota 53 = .ok (.iload_n 1, 1) := by decide +kernel
theorem dX10_quota_54 : decode cX10_quota 54 = .ok (.iadd, 1) := by decide +kernel
theorem dX10_quota_55 : decode cX10_quota 55 = .ok (.iload_n 2, 1) := by decide +kernel
theorem dX10_quota_56 : decode cX10_quota 56 = .ok (.iastore, 1) := by decide +kernel
theorem dX10_quota_57 : decode cX10_quota 57 = .ok (.iload_n 3, 1) := by decide +kernel
theorem dX10_quota_58 : decode cX10_quota 58 = .ok (.ireturn, 1) := by decide +kernel
theorem dX10_liveMany_0 : decode cX10_liveMany 0 = .ok (.iconst 0, 1) := by decide +kernel
theorem dX10_liveMany_1 : decode cX10_liveMany 1 = .ok (.istore_n 2, 1) := by decide +kernel
theorem dX10_liveMany_2 : decode cX10_liveMany 2 = .ok (.iconst 0, 1) := by decide +kernel
theorem dX10_liveMany_3 : decode cX10_liveMany 3 = .ok (.istore_n 3, 1) := by decide +kernel
theorem dX10_liveMany_4 : decode cX10_liveMany 4 = .ok (.iload_n 3, 1) := by decide +kernel
theorem dX10_liveMany_5 : decode cX10_liveMany 5 = .ok (.bipush 30, 2) := by decide +kernel
theorem dX10_liveMany_7 : decode cX10_liveMany 7 = .ok (.if_icmp .ge 39, 3) := by decide +kernel
theorem dX10_liveMany_10 : decode cX10_liveMany 10 = .ok (.iload_n 2, 1) := by decide +kernel
theorem dX10_liveMany_11 : decode cX10_liveMany 11 = .ok (.aload_n 0, 1) := by decide +kernel
theorem dX10_liveMany_12 : decode cX10_liveMany 12 = .ok (.iload_n 3, 1) := by decide +kernel
theorem dX10_liveMany_13 : decode cX10_liveMany 13 = .ok (.invokevirtual 61, 3) := by decide +kernel
theorem dX10_liveMany_16 : decode cX10_liveMany 16 = .ok (.ifCond .eq 21, 3) := by decide +kernel
theorem dX10_liveMany_19 : decode cX10_liveMany 19 = .ok (.iload_n 1, 1) := by decide +kernel
theorem dX10_liveMany_20 : decode cX10_liveMany 20 = .ok (.ifCond .lt 13, 3) := by decide +kernel
theorem dX10_liveMany_23 : decode cX10_liveMany 23 = .ok (.aload_n 0, 1) := by decide +kernel
theorem dX10_liveMany_24 : decode cX10_liveMany 24 = .ok (.iload_n 3, 1) := by decide +kernel
theorem dX10_liveMany_25 : decode cX10_liveMany 25 = .ok (.iconst 5, 1) := by decide +kernel
theorem dX10_liveMany_26 : decode cX10_liveMany 26 = .ok (.invokevirtual 57, 3) := by decide +kernel
theorem dX10_liveMany_29 : decode cX10_liveMany 29 = .ok (.iload_n 1, 1) := by decide +kernel
theorem dX10_liveMany_30 : decode cX10_liveMany 30 = .ok (.if_icmp .ne 7, 3) := by decide +kernel
theorem dX10_liveMany_33 : decode cX10_liveMany 33 = .ok (.iconst 1, 1) := by decide +kernel
theorem dX10_liveMany_34 : decode cX10_liveMany 34 = .ok (.goto 4, 3) := by decide +kernel
theorem dX10_liveMany_37 : decode cX10_liveMany 37 = .ok (.iconst 0, 1) := by decide +kernel
theorem dX10_liveMany_38 : decode cX10_liveMany 38 = .ok (.iadd, 1) := by decide +kernel
theorem dX10_liveMany_39 : decode cX10_liveMany 39 = .ok (.istore_n 2, 1) := by decide +kernel
theorem dX10_liveMany_40 : decode cX10_liveMany 40 = .ok (.iinc 3 1, 3) := by decide +kernel
theorem dX10_liveMany_43 : decode cX10_liveMany 43 = .ok (.goto (-39), 3) := by decide +kernel
theorem dX10_liveMany_46 : decode cX10_liveMany 46 = .ok (.iload_n 2, 1) := by decide +kernel
theorem dX10_liveMany_47 : decode cX10_liveMany 47 = .ok (.ireturn, 1) := by decide +kernel
theorem dX10_owner_0 : decode cX10_owner 0 = .ok (.iload_n 1, 1) := by decide +kernel
theorem dX10_owner_1 : decode cX10_owner 1 = .ok (.iconst 0, 1) := by decide +kernel
theorem dX10_owner_2 : decode cX10_owner 2 = .ok (.bipush 9, 2) := by decide +kernel
theorem dX10_owner_4 : decode cX10_owner 4 = .ok (.invokestatic 65, 3) := by decide +kernel
theorem dX10_owner_7 : decode cX10_owner 7 = .ok (.ifCond .eq 12, 3) := by decide +kernel
theorem dX10_owner_10 : decode cX10_owner 10 = .ok (.iload_n 2, 1) := by decide +kernel
theorem dX10_owner_11 : decode cX10_owner 11 = .ok (.iconst 0, 1) := by decide +kernel
theorem dX10_owner_12 : decode cX10_owner 12 = .ok (.iconst 3, 1) := by decide +kernel
theorem dX10_owner_13 : decode cX10_owner 13 = .ok (.invokestatic 65, 3) := by decide +kernel
theorem dX10_owner_16 : decode cX10_owner 16 = .ok (.ifCond .ne 5, 3) := by decide +kernel
theorem dX10_owner_19 : decode cX10_owner 19 = .ok (.iconst (-1), 1) := by decide +kernel
theorem dX10_owner_20 : decode cX10_owner 20 = .ok (.ireturn, 1) := by decide +kernel
theorem dX10_owner_21 : decode cX10_owner 21 = .ok (.iload_n 2, 1) := by decide +kernel
theorem dX10_owner_22 : decode cX10_owner 22 = .ok (.iconst 2, 1) := by decide +kernel
theorem dX10_owner_23 : decode cX10_owner 23 = .ok (.if_icmp .ne 67, 3) := by decide +kernel
theorem dX10_owner_26 : decode cX10_owner 26 = .ok (.aload_n 0, 1) := by decide +kernel
theorem dX10_owner_27 : decode cX10_owner 27 = .ok (.invokevirtual 124, 3) := by decide +kernel
theorem dX10_owner_30 : decode cX10_owner 30 = .ok (.istore_n 3, 1) := by decide +kernel
theorem dX10_owner_31 : decode cX10_owner 31 = .ok (.iconst 0, 1) := by decide +kernel
theorem dX10_owner_32 : decode cX10_owner 32 = .ok (.istore 4, 2) := by decide +kernel
theorem dX10_owner_34 : decode cX10_owner 34 = .ok (.iconst 0, 1) := by decide +kernel
theorem dX10_owner_35 : decode cX10_owner 35 = .ok (.istore 5, 2) := by decide +kernel
theorem dX10_owner_37 : decode cX10_owner 37 = .ok (.iload 5, 2) := by decide +kernel
theorem dX10_owner_39 : decode cX10_owner 39 = .ok (.bipush 30, 2) := by decide +kernel
theorem dX10_owner_41 : decode cX10_owner 41 = .ok (.if_icmp .ge 46, 3) := by decide +kernel
theorem dX10_owner_44 : decode cX10_owner 44 = .ok (.iload 4, 2) := by decide +kernel
theorem dX10_owner_46 : decode cX10_owner 46 = .ok (.iload_n 3, 1) := by decide +kernel
theorem dX10_owner_47 : decode cX10_owner 47 = .ok (.iload 5, 2) := by decide +kernel
theorem dX10_owner_49 : decode cX10_owner 49 = .ok (.ishr, 1) := by decide +kernel
theorem dX10_owner_50 : decode cX10_owner 50 = .ok (.iconst 1, 1) := by decide +kernel
theorem dX10_owner_51 : decode cX10_owner 51 = .ok (.iand, 1) := by decide +kernel
theorem dX10_owner_52 : decode cX10_owner 52 = .ok (.iconst 1, 1) := by decide +kernel
theorem dX10_owner_53 : decode cX10_owner 53 = .ok (.if_icmp .ne 24, 3) := by decide +kernel
theorem dX10_owner_56 : decode cX10_owner 56 = .ok (.aload_n 0, 1) := by decide +kernel
theorem dX10_owner_57 : decode cX10_owner 57 = .ok (.iload 5, 2) := by decide +kernel
theorem dX10_owner_59 : decode cX10_owner 59 = .ok (.iconst 5, 1) := by decide +kernel
theorem dX10_owner_60 : decode cX10_owner 60 = .ok (.invokevirtual 57, 3) := by decide +kernel
theorem dX10_owner_63 : decode cX10_owner 63 = .ok (.iload_n 1, 1) := by decide +kernel
theorem dX10_owner_64 : decode cX10_owner 64 = .ok (.if_icmp .ne 13, 3) := by decide +kernel
theorem dX10_owner_67 : decode cX10_owner 67 = .ok (.aload_n 0, 1) := by decide +kernel
theorem dX10_owner_68 : decode cX10_owner 68 = .ok (.iload 5, 2) := by decide +kernel
theorem dX10_owner_70 : decode cX10_owner 70 = .ok (.iconst 3, 1) := by decide +kernel
theorem dX10_owner_71 : decode cX10_owner 71 = .ok (.invokevirtual 57, 3) := by decide +kernel
theorem dX10_owner_74 : decode cX10_owner 74 = .ok (.goto 4, 3) := by decide +kernel
theorem dX10_owner_77 : decode cX10_owner 77 = .ok (.iconst 0, 1) := by decide +kernel
theorem dX10_owner_78 : decode cX10_owner 78 = .ok (.iadd, 1) := by decide +kernel
theorem dX10_owner_79 : decode cX10_owner 79 = .ok (.istore 4, 2) := by decide +kernel
theorem dX10_owner_81 : decode cX10_owner 81 = .ok (.iinc 5 1, 3) := by decide +kernel
theorem dX10_owner_84 : decode cX10_owner 84 = .ok (.goto (-47), 3) := by decide +kernel
theorem dX10_owner_87 : decode cX10_owner 87 = .ok (.iload 4, 2) := by decide +kernel
theorem dX10_owner_89 : decode cX10_owner 89 = .ok (.ireturn, 1) := by decide +kernel
theorem dX10_owner_90 : decode cX10_owner 90 = .ok (.iload_n 2, 1) := by decide +kernel
theorem dX10_owner_91 : decode cX10_owner 91 = .ok (.ifCond .ne 11, 3) := by decide +kernel
theorem dX10_owner_94 : decode cX10_owner 94 = .ok (.aload_n 0, 1) := by decide +kernel
theorem dX10_owner_95 : decode cX10_owner 95 = .ok (.iload_n 1, 1) := by decide +kernel
theorem dX10_owner_96 : decode cX10_owner 96 = .ok (.invokevirtual 76, 3) := by decide +kernel
theorem dX10_owner_99 : decode cX10_owner 99 = .ok (.goto 26, 3) := by decide +kernel
theorem dX10_owner_102 : decode cX10_owner 102 = .ok (.iload_n 2, 1) := by decide +kernel
theorem dX10_owner_103 : decode cX10_owner 103 = .ok (.iconst 1, 1) := by decide +kernel
theorem dX10_owner_104 : decode cX10_owner 104 = .ok (.if_icmp .ne 16, 3) := by decide +kernel
theorem dX10_owner_107 : decode cX10_owner 107 = .ok (.aload_n 0, 1) := by decide +kernel
theorem dX10_owner_108 : decode cX10_owner 108 = .ok (.getfield 9, 3) := by decide +kernel
theorem dX10_owner_111 : decode cX10_owner 111 = .ok (.sipush 589, 3) := by decide +kernel
theorem dX10_owner_114 : decode cX10_owner 114 = .ok (.iload_n 1, 1) := by decide +kernel
theorem dX10_owner_115 : decode cX10_owner 115 = .ok (.iadd, 1) := by decide +kernel
theorem dX10_owner_116 : decode cX10_owner 116 = .ok (.iaload, 1) := by decide +kernel
theorem dX10_owner_117 : decode cX10_owner 117 = .ok (.goto 8, 3) := by decide +kernel
theorem dX10_owner_120 : decode cX10_owner 120 = .ok (.aload_n 0, 1) := by decide +kernel
theorem dX10_owner_121 : decode cX10_owner 121 = .ok (.iload_n 1, 1) := by decide +kernel
theorem dX10_owner_122 : decode cX10_owner 122 = .ok (.invokevirtual 127, 3) := by decide +kernel
theorem dX10_owner_125 : decode cX10_owner 125 = .ok (.ireturn, 1) := by decide +kernel
theorem dX10_enter_0 : decode cX10_enter 0 = .ok (.iload_n 1, 1) := by decide +kernel
theorem dX10_enter_1 : decode cX10_enter 1 = .ok (.iconst 0, 1) := by decide +kernel
theorem dX10_enter_2 : decode cX10_enter 2 = .ok (.iconst 5, 1) := by decide +kernel
theorem dX10_enter_3 : decode cX10_enter 3 = .ok (.invokestatic 65, 3) := by decide +kernel
theorem dX10_enter_6 : decode cX10_enter 6 = .ok (.ifCond .ne 5, 3) := by decide +kernel
theorem dX10_enter_9 : decode cX10_enter 9 = .ok (.iconst (-1), 1) := by decide +kernel
theorem dX10_enter_10 : decode cX10_enter 10 = .ok (.ireturn, 1) := by decide +kernel
theorem dX10_enter_11 : decode cX10_enter 11 = .ok (.aload_n 0, 1) := by decide +kernel
theorem dX10_enter_12 : decode cX10_enter 12 = .ok (.getfield 9, 3) := by decide +kernel
theorem dX10_enter_15 : decode cX10_enter 15 = .ok (.sipush 599, 3) := by decide +kernel
theorem dX10_enter_18 : decode cX10_enter 18 = .ok (.iload_n 1, 1) := by decide +kernel
theorem dX10_enter_19 : decode cX10_enter 19 = .ok (.iadd, 1) := by decide +kernel
theorem dX10_enter_20 : decode cX10_enter 20 = .ok (.iaload, 1) := by decide +kernel
theorem dX10_enter_21 : decode cX10_enter 21 = .ok (.ifCond .lt 6, 3) := by decide +kernel
theorem dX10_enter_24 : decode cX10_enter 24 = .ok (.bipush (-5), 2) := by decide +kernel
theorem dX10_enter_26 : decode cX10_enter 26 = .ok (.ireturn, 1) := by decide +kernel
theorem dX10_enter_27 : decode cX10_enter 27 = .ok (.aload_n 0, 1) := by decide +kernel
theorem dX10_enter_28 : decode cX10_enter 28 = .ok (.getfield 9, 3) := by decide +kernel
theorem dX10_enter_31 : decode cX10_enter 31 = .ok (.sipush 599, 3) := by decide +kernel
theorem dX10_enter_34 : decode cX10_enter 34 = .ok (.iload_n 1, 1) := by decide +kernel
theorem dX10_enter_35 : decode cX10_enter 35 = .ok (.iadd, 1) := by decide +kernel
theorem dX10_enter_36 : decode cX10_enter 36 = .ok (.aload_n 0, 1) := by decide +kernel
theorem dX10_enter_37 : decode cX10_enter 37 = .ok (.getfield 9, 3) := by decide +kernel
theorem dX10_enter_40 : decode cX10_enter 40 = .ok (.sipush 605, 3) := by decide +kernel
theorem dX10_enter_43 : decode cX10_enter 43 = .ok (.iaload, 1) := by decide +kernel
theorem dX10_enter_44 : decode cX10_enter 44 = .ok (.iastore, 1) := by decide +kernel
theorem dX10_enter_45 : decode cX10_enter 45 = .ok (.aload_n 0, 1) := by decide +kernel
theorem dX10_enter_46 : decode cX10_enter 46 = .ok (.getfield 9, 3) := by decide +kernel
theorem dX10_enter_49 : decode cX10_enter 49 = .ok (.sipush 605, 3) := by decide +kernel
theorem dX10_enter_52 : decode cX10_enter 52 = .ok (.iaload, 1) := by decide +kernel
theorem dX10_enter_53 : decode cX10_enter 53 = .ok (.ireturn, 1) := by decide +kernel
theorem dX10_leave_0 : decode cX10_leave 0 = .ok (.iload_n 1, 1) := by decide +kernel
theorem dX10_leave_1 : decode cX10_leave 1 = .ok (.iconst 0, 1) := by decide +kernel
theorem dX10_leave_2 : decode cX10_leave 2 = .ok (.iconst 5, 1) := by decide +kernel
theorem dX10_leave_3 : decode cX10_leave 3 = .ok (.invokestatic 65, 3) := by decide +kernel
theorem dX10_leave_6 : decode cX10_leave 6 = .ok (.ifCond .ne 5, 3) := by decide +kernel
theorem dX10_leave_9 : decode cX10_leave 9 = .ok (.iconst (-1), 1) := by decide +kernel
theorem dX10_leave_10 : decode cX10_leave 10 = .ok (.ireturn, 1) := by decide +kernel
theorem dX10_leave_11 : decode cX10_leave 11 = .ok (.aload_n 0, 1) := by decide +kernel
theorem dX10_leave_12 : decode cX10_leave 12 = .ok (.getfield 9, 3) := by decide +kernel
theorem dX10_leave_15 : decode cX10_leave 15 = .ok (.sipush 599, 3) := by decide +kernel
theorem dX10_leave_18 : decode cX10_leave 18 = .ok (.iload_n 1, 1) := by decide +kernel
theorem dX10_leave_19 : decode cX10_leave 19 = .ok (.iadd, 1) := by decide +kernel
theorem dX10_leave_20 : decode cX10_leave 20 = .ok (.iaload, 1) := by decide +kernel
theorem dX10_leave_21 : decode cX10_leave 21 = .ok (.istore_n 2, 1) := by decide +kernel
theorem dX10_leave_22 : decode cX10_leave 22 = .ok (.iload_n 2, 1) := by decide +kernel
theorem dX10_leave_23 : decode cX10_leave 23 = .ok (.ifCond .ge 6, 3) := by decide +kernel
theorem dX10_leave_26 : decode cX10_leave 26 = .ok (.bipush (-5), 2) := by decide +kernel
theorem dX10_leave_28 : decode cX10_leave 28 = .ok (.ireturn, 1) := by decide +kernel
theorem dX10_leave_29 : decode cX10_leave 29 = .ok (.aload_n 0, 1) := by decide +kernel
theorem dX10_leave_30 : decode cX10_leave 30 = .ok (.getfield 9, 3) := by decide +kernel
theorem dX10_leave_33 : decode cX10_leave 33 = .ok (.sipush 599, 3) := by decide +kernel
theorem dX10_leave_36 : decode cX10_leave 36 = .ok (.iload_n 1, 1) := by decide +kernel
theorem dX10_leave_37 : decode cX10_leave 37 = .ok (.iadd, 1) := by decide +kernel
theorem dX10_leave_38 : decode cX10_leave 38 = .ok (.iconst (-1), 1) := by decide +kernel
theorem dX10_leave_39 : decode cX10_leave 39 = .ok (.iastore, 1) := by decide +kernel
theorem dX10_leave_40 : decode cX10_leave 40 = .ok (.iload_n 2, 1) := by decide +kernel
theorem dX10_leave_41 : decode cX10_leave 41 = .ok (.ireturn, 1) := by decide +kernel
theorem dX10_isSeen_0 : decode cX10_isSeen 0 = .ok (.iconst 0, 1) := by decide +kernel
theorem dX10_isSeen_1 : decode cX10_isSeen 1 = .ok (.istore_n 2, 1) := by decide +kernel
theorem dX10_isSeen_2 : decode cX10_isSeen 2 = .ok (.iload_n 2, 1) := by decide +kernel
theorem dX10_isSeen_3 : decode cX10_isSeen 3 = .ok (.bipush 6, 2) := by decide +kernel
theorem dX10_isSeen_5 : decode cX10_isSeen 5 = .ok (.if_icmp .ge 44, 3) := by decide +kernel
theorem dX10_isSeen_8 : decode cX10_isSeen 8 = .ok (.aload_n 0, 1) := by decide +kernel
theorem dX10_isSeen_9 : decode cX10_isSeen 9 = .ok (.getfield 9, 3) := by decide +kernel
theorem dX10_isSeen_12 : decode cX10_isSeen 12 = .ok (.sipush 599, 3) := by decide +kernel
theorem dX10_isSeen_15 : decode cX10_isSeen 15 = .ok (.iload_n 2, 1) := by decide +kernel
theorem dX10_isSeen_16 : decode cX10_isSeen 16 = .ok (.iadd, 1) := by decide +kernel
theorem dX10_isSeen_17 : decode cX10_isSeen 17 = .ok (.iaload, 1) := by decide +kernel
theorem dX10_isSeen_18 : decode cX10_isSeen 18 = .ok (.ifCond .lt 25, 3) := by decide +kernel
theorem dX10_isSeen_21 : decode cX10_isSeen 21 = .ok (.aload_n 0, 1) := by decide +kernel
theorem dX10_isSeen_22 : decode cX10_isSeen 22 = .ok (.getfield 9, 3) := by decide +kernel
theorem dX10_isSeen_25 : decode cX10_isSeen 25 = .ok (.sipush 599, 3) := by decide +kernel
theorem dX10_isSeen_28 : decode cX10_isSeen 28 = .ok (.iload_n 2, 1) := by decide +kernel
theorem dX10_isSeen_29 : decode cX10_isSeen 29 = .ok (.iadd, 1) := by decide +kernel
theorem dX10_isSeen_30 : decode cX10_isSeen 30 = .ok (.iaload, 1) := by decide +kernel
theorem dX10_isSeen_31 : decode cX10_isSeen 31 = .ok (.aload_n 0, 1) := by decide +kernel
theorem dX10_isSeen_32 : decode cX10_isSeen 32 = .ok (.iload_n 1, 1) := by decide +kernel
theorem dX10_isSeen_33 : decode cX10_isSeen 33 = .ok (.bipush 9, 2) := by decide +kernel
theorem dX10_isSeen_35 : decode cX10_isSeen 35 = .ok (.invokevirtual 57, 3) := by decide +kernel
theorem dX10_isSeen_38 : decode cX10_isSeen 38 = .ok (.if_icmp .gt 5, 3) := by decide +kernel
theorem dX10_isSeen_41 : decode cX10_isSeen 41 = .ok (.iconst 1, 1) := by decide +kernel
theorem dX10_isSeen_42 : decode cX10_isSeen 42 = .ok (.ireturn, 1) := by decide +kernel
theorem dX10_isSeen_43 : decode cX10_isSeen 43 = .ok (.iinc 2 1, 3) := by decide +kernel
theorem dX10_isSeen_46 : decode cX10_isSeen 46 = .ok (.goto (-44), 3) := by decide +kernel
theorem dX10_isSeen_49 : decode cX10_isSeen 49 = .ok (.iconst 0, 1) := by decide +kernel
theorem dX10_isSeen_50 : decode cX10_isSeen 50 = .ok (.ireturn, 1) := by decide +kernel
theorem dX10_freeable_0 : decode cX10_freeable 0 = .ok (.iconst 0, 1) := by decide +kernel
theorem dX10_freeable_1 : decode cX10_freeable 1 = .ok (.istore_n 1, 1) := by decide +kernel
theorem dX10_freeable_2 : decode cX10_freeable 2 = .ok (.iconst 0, 1) := by decide +kernel
theorem dX10_freeable_3 : decode cX10_freeable 3 = .ok (.istore_n 2, 1) := by decide +kernel
theorem dX10_freeable_4 : decode cX10_freeable 4 = .ok (.iload_n 2, 1) := by decide +kernel
theorem dX10_freeable_5 : decode cX10_freeable 5 = .ok (.bipush 30, 2) := by decide +kernel
theorem dX10_freeable_7 : decode cX10_freeable 7 = .ok (.if_icmp .ge 35, 3) := by decide +kernel
theorem dX10_freeable_10 : decode cX10_freeable 10 = .ok (.iload_n 1, 1) := by decide +kernel
theorem dX10_freeable_11 : decode cX10_freeable 11 = .ok (.aload_n 0, 1) := by decide +kernel
theorem dX10_freeable_12 : decode cX10_freeable 12 = .ok (.iload_n 2, 1) := by decide +kernel
theorem dX10_freeable_13 : decode cX10_freeable 13 = .ok (.iconst 0, 1) := by decide +kernel
theorem dX10_freeable_14 : decode cX10_freeable 14 = .ok (.invokevirtual 57, 3) := by decide +kernel
theorem dX10_freeable_17 : decode cX10_freeable 17 = .ok (.iconst 2, 1) := by decide +kernel
theorem dX10_freeable_18 : decode cX10_freeable 18 = .ok (.if_icmp .ne 15, 3) := by decide +kernel
theorem dX10_freeable_21 : decode cX10_freeable 21 = .ok (.aload_n 0, 1) := by decide +kernel
theorem dX10_freeable_22 : decode cX10_freeable 22 = .ok (.iload_n 2, 1) := by decide +kernel
theorem dX10_freeable_23 : decode cX10_freeable 23 = .ok (.invokevirtual 130, 3) := by decide +kernel
theorem dX10_freeable_26 : decode cX10_freeable 26 = .ok (.ifCond .ne 7, 3) := by decide +kernel
theorem dX10_freeable_29 : decode cX10_freeable 29 = .ok (.iconst 1, 1) := by decide +kernel
theorem dX10_freeable_30 : decode cX10_freeable 30 = .ok (.goto 4, 3) := by decide +kernel
theorem dX10_freeable_33 : decode cX10_freeable 33 = .ok (.iconst 0, 1) := by decide +kernel
theorem dX10_freeable_34 : decode cX10_freeable 34 = .ok (.iadd, 1) := by decide +kernel
theorem dX10_freeable_35 : decode cX10_freeable 35 = .ok (.istore_n 1, 1) := by decide +kernel
theorem dX10_freeable_36 : decode cX10_freeable 36 = .ok (.iinc 2 1, 3) := by decide +kernel
theorem dX10_freeable_39 : decode cX10_freeable 39 = .ok (.goto (-35), 3) := by decide +kernel
theorem dX10_freeable_42 : decode cX10_freeable 42 = .ok (.iload_n 1, 1) := by decide +kernel
theorem dX10_freeable_43 : decode cX10_freeable 43 = .ok (.ireturn, 1) := by decide +kernel
theorem dX10_advance_0 : decode cX10_advance 0 = .ok (.aload_n 0, 1) := by decide +kernel
theorem dX10_advance_1 : decode cX10_advance 1 = .ok (.invokevirtual 133, 3) := by decide +kernel
theorem dX10_advance_4 : decode cX10_advance 4 = .ok (.istore_n 1, 1) := by decide +kernel
theorem dX10_advance_5 : decode cX10_advance 5 = .ok (.aload_n 0, 1) := by decide +kernel
theorem dX10_advance_6 : decode cX10_advance 6 = .ok (.getfield 9, 3) := by decide +kernel
theorem dX10_advance_9 : decode cX10_advance 9 = .ok (.sipush 605, 3) := by decide +kernel
theorem dX10_advance_12 : decode cX10_advance 12 = .ok (.dup2, 1) := by decide +kernel
theorem dX10_advance_13 : decode cX10_advance 13 = .ok (.iaload, 1) := by decide +kernel
theorem dX10_advance_14 : decode cX10_advance 14 = .ok (.iconst 1, 1) := by decide +kernel
theorem dX10_advance_15 : decode cX10_advance 15 = .ok (.iadd, 1) := by decide +kernel
theorem dX10_advance_16 : decode cX10_advance 16 = .ok (.iastore, 1) := by decide +kernel
theorem dX10_advance_17 : decode cX10_advance 17 = .ok (.iconst 0, 1) := by decide +kernel
theorem dX10_advance_18 : decode cX10_advance 18 = .ok (.istore_n 2, 1) := by decide +kernel
theorem dX10_advance_19 : decode cX10_advance 19 = .ok (.iload_n 2, 1) := by decide +kernel
theorem dX10_advance_20 : decode cX10_advance 20 = .ok (.bipush 30, 2) := by decide +kernel
theorem dX10_advance_22 : decode cX10_advance 22 = .ok (.if_icmp .ge 34, 3) := by decide +kernel
theorem dX10_advance_25 : decode cX10_advance 25 = .ok (.aload_n 0, 1) := by decide +kernel
theorem dX10_advance_26 : decode cX10_advance 26 = .ok (.iload_n 2, 1) := by decide +kernel
theorem dX10_advance_27 : decode cX10_advance 27 = .ok (.iconst 0, 1) := by decide +kernel
theorem dX10_advance_28 : decode cX10_advance 28 = .ok (.invokevirtual 57, 3) := by decide +kernel
theorem dX10_advance_31 : decode cX10_advance 31 = .ok (.iconst 2, 1) := by decide +kernel
theorem dX10_advance_32 : decode cX10_advance 32 = .ok (.if_icmp .ne 18, 3) := by decide +kernel
theorem dX10_advance_35 : decode cX10_advance 35 = .ok (.aload_n 0, 1) := by decide +kernel
theorem dX10_advance_36 : decode cX10_advance 36 = .ok (.iload_n 2, 1) := by decide +kernel
theorem dX10_advance_37 : decode cX10_advance 37 = .ok (.invokevirtual 130, 3) := by decide +kernel
theorem dX10_advance_40 : decode cX10_advance 40 = .ok (.ifCond .ne 10, 3) := by decide +kernel
theorem dX10_advance_43 : decode cX10_advance 43 = .ok (.aload_n 0, 1) := by decide +kernel
theorem dX10_advance_44 : decode cX10_advance 44 = .ok (.iload_n 2, 1) := by decide +kernel
theorem dX10_advance_45 : decode cX10_advance 45 = .ok (.iconst 0, 1) := by decide +kernel
theorem dX10_advance_46 : decode cX10_advance 46 = .ok (.iconst 0, 1) := by decide +kernel
theorem dX10_advance_47 : decode cX10_advance 47 = .ok (.invokevirtual 89, 3) := by decide +kernel
theorem dX10_advance_50 : decode cX10_advance 50 = .ok (.iinc 2 1, 3) := by decide +kernel
theorem dX10_advance_53 : decode cX10_advance 53 = .ok (.goto (-34), 3) := by decide +kernel
theorem dX10_advance_56 : decode cX10_advance 56 = .ok (.iload_n 1, 1) := by decide +kernel
theorem dX10_advance_57 : decode cX10_advance 57 = .ok (.ireturn, 1) := by decide +kernel
theorem dX10_freeIn_0 : decode cX10_freeIn 0 = .ok (.iconst 0, 1) := by decide +kernel
theorem dX10_freeIn_1 : decode cX10_freeIn 1 = .ok (.istore_n 3, 1) := by decide +kernel
theorem dX10_freeIn_2 : decode cX10_freeIn 2 = .ok (.iconst 0, 1) := by decide +kernel
theorem dX10_freeIn_3 : decode cX10_freeIn 3 = .ok (.istore 4, 2) := by decide +kernel
theorem dX10_freeIn_5 : decode cX10_freeIn 5 = .ok (.iconst 0, 1) := by decide +kernel
theorem dX10_freeIn_6 : decode cX10_freeIn 6 = .ok (.istore 5, 2) := by decide +kernel
theorem dX10_freeIn_8 : decode cX10_freeIn 8 = .ok (.iconst 0, 1) := by decide +kernel
theorem dX10_freeIn_9 : decode cX10_freeIn 9 = .ok (.istore 6, 2) := by decide +kernel
theorem dX10_freeIn_11 : decode cX10_freeIn 11 = .ok (.aload_n 0, 1) := by decide +kernel
theorem dX10_freeIn_12 : decode cX10_freeIn 12 = .ok (.getfield 9, 3) := by decide +kernel
theorem dX10_freeIn_15 : decode cX10_freeIn 15 = .ok (.sipush 571, 3) := by decide +kernel
theorem dX10_freeIn_18 : decode cX10_freeIn 18 = .ok (.iload_n 1, 1) := by decide +kernel
theorem dX10_freeIn_19 : decode cX10_freeIn 19 = .ok (.iadd, 1) := by decide +kernel
theorem dX10_freeIn_20 : decode cX10_freeIn 20 = .ok (.iaload, 1) := by decide +kernel
theorem dX10_freeIn_21 : decode cX10_freeIn 21 = .ok (.istore 7, 2) := by decide +kernel
theorem dX10_freeIn_23 : decode cX10_freeIn 23 = .ok (.iload 7, 2) := by decide +kernel
theorem dX10_freeIn_25 : decode cX10_freeIn 25 = .ok (.aload_n 0, 1) := by decide +kernel
theorem dX10_freeIn_26 : decode cX10_freeIn 26 = .ok (.iload_n 1, 1) := by decide +kernel
theorem dX10_freeIn_27 : decode cX10_freeIn 27 = .ok (.invokevirtual 69, 3) := by decide +kernel
theorem dX10_freeIn_30 : decode cX10_freeIn 30 = .ok (.if_icmp .ge 92, 3) := by decide +kernel
theorem dX10_freeIn_33 : decode cX10_freeIn 33 = .ok (.aload_n 0, 1) := by decide +kernel
theorem dX10_freeIn_34 : decode cX10_freeIn 34 = .ok (.getfield 22, 3) := by decide +kernel
theorem dX10_freeIn_37 : decode cX10_freeIn 37 = .ok (.iload 7, 2) := by decide +kernel
theorem dX10_freeIn_39 : decode cX10_freeIn 39 = .ok (.iaload, 1) := by decide +kernel
theorem dX10_freeIn_40 : decode cX10_freeIn 40 = .ok (.bipush 100, 2) := by decide +kernel
theorem dX10_freeIn_42 : decode cX10_freeIn 42 = .ok (.if_icmp .ne 7, 3) := by decide +kernel
theorem dX10_freeIn_45 : decode cX10_freeIn 45 = .ok (.iconst 1, 1) := by decide +kernel
theorem dX10_freeIn_46 : decode cX10_freeIn 46 = .ok (.goto 4, 3) := by decide +kernel
theorem dX10_freeIn_49 : decode cX10_freeIn 49 = .ok (.iconst 0, 1) := by decide +kernel
theorem dX10_freeIn_50 : decode cX10_freeIn 50 = .ok (.istore 8, 2) := by decide +kernel
theorem dX10_freeIn_52 : decode cX10_freeIn 52 = .ok (.iload_n 3, 1) := by decide +kernel
theorem dX10_freeIn_53 : decode cX10_freeIn 53 = .ok (.iload 8, 2) := by decide +kernel
theorem dX10_freeIn_55 : decode cX10_freeIn 55 = .ok (.ifCond .eq 7, 3) := by decide +kernel
theorem dX10_freeIn_58 : decode cX10_freeIn 58 = .ok (.iconst 1, 1) := by decide +kernel
theorem dX10_freeIn_59 : decode cX10_freeIn 59 = .ok (.goto 4, 3) := by decide +kernel
theorem dX10_freeIn_62 : decode cX10_freeIn 62 = .ok (.iconst 0, 1) := by decide +kernel
theorem dX10_freeIn_63 : decode cX10_freeIn 63 = .ok (.iadd, 1) := by decide +kernel
theorem dX10_freeIn_64 : decode cX10_freeIn 64 = .ok (.istore_n 3, 1) := by decide +kernel
theorem dX10_freeIn_65 : decode cX10_freeIn 65 = .ok (.iload 6, 2) := by decide +kernel
theorem dX10_freeIn_67 : decode cX10_freeIn 67 = .ok (.iload 8, 2) := by decide +kernel
theorem dX10_freeIn_69 : decode cX10_freeIn 69 = .ok (.ifCond .eq 12, 3) := by decide +kernel
theorem dX10_freeIn_72 : decode cX10_freeIn 72 = .ok (.iload 4, 2) := by decide +kernel
theorem dX10_freeIn_74 : decode cX10_freeIn 74 = .ok (.ifCond .ne 7, 3) := by decide +kernel
theorem dX10_freeIn_77 : decode cX10_freeIn 77 = .ok (.iconst 1, 1) := by decide +kernel
theorem dX10_freeIn_78 : decode cX10_freeIn 78 = .ok (.goto 4, 3) := by decide +kernel
theorem dX10_freeIn_81 : decode cX10_freeIn 81 = .ok (.iconst 0, 1) := by decide +kernel
theorem dX10_freeIn_82 : decode cX10_freeIn 82 = .ok (.iadd, 1) := by decide +kernel
theorem dX10_freeIn_83 : decode cX10_freeIn 83 = .ok (.istore 6, 2) := by decide +kernel
theorem dX10_freeIn_85 : decode cX10_freeIn 85 = .ok (.iload 8, 2) := by decide +kernel
theorem dX10_freeIn_87 : decode cX10_freeIn 87 = .ok (.ifCond .eq 10, 3) := by decide +kernel
theorem dX10_freeIn_90 : decode cX10_freeIn 90 = .ok (.iload 4, 2) := by decide +kernel
theorem dX10_freeIn_92 : decode cX10_freeIn 92 = .ok (.iconst 1, 1) := by decide +kernel
theorem dX10_freeIn_93 : decode cX10_freeIn 93 = .ok (.iadd, 1) := by decide +kernel
theorem dX10_freeIn_94 : decode cX10_freeIn 94 = .ok (.goto 4, 3) := by decide +kernel
theorem dX10_freeIn_97 : decode cX10_freeIn 97 = .ok (.iconst 0, 1) := by decide +kernel
theorem dX10_freeIn_98 : decode cX10_freeIn 98 = .ok (.istore 4, 2) := by decide +kernel
theorem dX10_freeIn_100 : decode cX10_freeIn 100 = .ok (.iload 4, 2) := by decide +kernel
theorem dX10_freeIn_102 : decode cX10_freeIn 102 = .ok (.iload 5, 2) := by decide +kernel
theorem dX10_freeIn_104 : decode cX10_freeIn 104 = .ok (.if_icmp .le 8, 3) := by decide +kernel
theorem dX10_freeIn_107 : decode cX10_freeIn 107 = .ok (.iload 4, 2) := by decide +kernel
theorem dX10_freeIn_109 : decode cX10_freeIn 109 = .ok (.goto 5, 3) := by decide +kernel
theorem dX10_freeIn_112 : decode cX10_freeIn 112 = .ok (.iload 5, 2) := by decide +kernel
theorem dX10_freeIn_114 : decode cX10_freeIn 114 = .ok (.istore 5, 2) := by decide +kernel
theorem dX10_freeIn_116 : decode cX10_freeIn 116 = .ok (.iinc 7 1, 3) := by decide +kernel
theorem dX10_freeIn_119 : decode cX10_freeIn 119 = .ok (.goto (-96), 3) := by decide +kernel
theorem dX10_freeIn_122 : decode cX10_freeIn 122 = .ok (.iload_n 2, 1) := by decide +kernel
theorem dX10_freeIn_123 : decode cX10_freeIn 123 = .ok (.iconst 1, 1) := by decide +kernel
theorem dX10_freeIn_124 : decode cX10_freeIn 124 = .ok (.if_icmp .ne 7, 3) := by decide +kernel
theorem dX10_freeIn_127 : decode cX10_freeIn 127 = .ok (.iload_n 3, 1) := by decide +kernel
theorem dX10_freeIn_128 : decode cX10_freeIn 128 = .ok (.goto 15, 3) := by decide +kernel
theorem dX10_freeIn_131 : decode cX10_freeIn 131 = .ok (.iload_n 2, 1) := by decide +kernel
theorem dX10_freeIn_132 : decode cX10_freeIn 132 = .ok (.iconst 2, 1) := by decide +kernel
theorem dX10_freeIn_133 : decode cX10_freeIn 133 = .ok (.if_icmp .ne 8, 3) := by decide +kernel
theorem dX10_freeIn_136 : decode cX10_freeIn 136 = .ok (.iload 5, 2) := by decide +kernel
theorem dX10_freeIn_138 : decode cX10_freeIn 138 = .ok (.goto 5, 3) := by decide +kernel
theorem dX10_freeIn_141 : decode cX10_freeIn 141 = .ok (.iload 6, 2) := by decide +kernel
theorem dX10_freeIn_143 : decode cX10_freeIn 143 = .ok (.ireturn, 1) := by decide +kernel
theorem dX10_would_0 : decode cX10_would 0 = .ok (.aload_n 0, 1) := by decide +kernel
theorem dX10_would_1 : decode cX10_would 1 = .ok (.iload_n 1, 1) := by decide +kernel
theorem dX10_would_2 : decode cX10_would 2 = .ok (.invokevirtual 73, 3) := by decide +kernel
theorem dX10_would_5 : decode cX10_would 5 = .ok (.ifCond .eq 26, 3) := by decide +kernel
theorem dX10_would_8 : decode cX10_would 8 = .ok (.iload_n 3, 1) := by decide +kernel
theorem dX10_would_9 : decode cX10_would 9 = .ok (.iconst 0, 1) := by decide +kernel
theorem dX10_would_10 : decode cX10_would 10 = .ok (.iconst 3, 1) := by decide +kernel
theorem dX10_would_11 : decode cX10_would 11 = .ok (.invokestatic 65, 3) := by decide +kernel
theorem dX10_would_14 : decode cX10_would 14 = .ok (.ifCond .eq 17, 3) := by decide +kernel
theorem dX10_would_17 : decode cX10_would 17 = .ok (.iload_n 3, 1) := by decide +kernel
theorem dX10_would_18 : decode cX10_would 18 = .ok (.ifCond .ne 15, 3) := by decide +kernel
theorem dX10_would_21 : decode cX10_would 21 = .ok (.iload_n 2, 1) := by decide +kernel
theorem dX10_would_22 : decode cX10_would 22 = .ok (.iconst 1, 1) := by decide +kernel
theorem dX10_would_23 : decode cX10_would 23 = .ok (.bipush 40, 2) := by decide +kernel
theorem dX10_would_25 : decode cX10_would 25 = .ok (.invokestatic 65, 3) := by decide +kernel
theorem dX10_would_28 : decode cX10_would 28 = .ok (.ifCond .ne 5, 3) := by decide +kernel
theorem dX10_would_31 : decode cX10_would 31 = .ok (.iconst (-1), 1) := by decide +kernel
theorem dX10_would_32 : decode cX10_would 32 = .ok (.ireturn, 1) := by decide +kernel
theorem dX10_would_33 : decode cX10_would 33 = .ok (.aload_n 0, 1) := by decide +kernel
theorem dX10_would_34 : decode cX10_would 34 = .ok (.invokevirtual 79, 3) := by decide +kernel
theorem dX10_would_37 : decode cX10_would 37 = .ok (.iload_n 3, 1) := by decide +kernel
theorem dX10_would_38 : decode cX10_would 38 = .ok (.ifCond .ne 12, 3) := by decide +kernel
theorem dX10_would_41 : decode cX10_would 41 = .ok (.aload_n 0, 1) := by decide +kernel
theorem dX10_would_42 : decode cX10_would 42 = .ok (.iload_n 1, 1) := by decide +kernel
theorem dX10_would_43 : decode cX10_would 43 = .ok (.iload_n 2, 1) := by decide +kernel
theorem dX10_would_44 : decode cX10_would 44 = .ok (.invokevirtual 82, 3) := by decide +kernel
theorem dX10_would_47 : decode cX10_would 47 = .ok (.goto 9, 3) := by decide +kernel
theorem dX10_would_50 : decode cX10_would 50 = .ok (.aload_n 0, 1) := by decide +kernel
theorem dX10_would_51 : decode cX10_would 51 = .ok (.iload_n 1, 1) := by decide +kernel
theorem dX10_would_52 : decode cX10_would 52 = .ok (.iload_n 3, 1) := by decide +kernel
theorem dX10_would_53 : decode cX10_would 53 = .ok (.invokevirtual 136, 3) := by decide +kernel
theorem dX10_would_56 : decode cX10_would 56 = .ok (.ireturn, 1) := by decide +kernel
theorem dX10_least_0 : decode cX10_least 0 = .ok (.aload_n 0, 1) := by decide +kernel
theorem dX10_least_1 : decode cX10_least 1 = .ok (.iload_n 1, 1) := by decide +kernel
theorem dX10_least_2 : decode cX10_least 2 = .ok (.invokevirtual 73, 3) := by decide +kernel
theorem dX10_least_5 : decode cX10_least 5 = .ok (.ifCond .eq 13, 3) := by decide +kernel
theorem dX10_least_8 : decode cX10_least 8 = .ok (.iload_n 2, 1) := by decide +kernel
theorem dX10_least_9 : decode cX10_least 9 = .ok (.iconst 1, 1) := by decide +kernel
theorem dX10_least_10 : decode cX10_least 10 = .ok (.bipush 40, 2) := by decide +kernel
theorem dX10_least_12 : decode cX10_least 12 = .ok (.invokestatic 65, 3) := by decide +kernel
theorem dX10_least_15 : decode cX10_least 15 = .ok (.ifCond .ne 5, 3) := by decide +kernel
theorem dX10_least_18 : decode cX10_least 18 = .ok (.iconst (-1), 1) := by decide +kernel
theorem dX10_least_19 : decode cX10_least 19 = .ok (.ireturn, 1) := by decide +kernel
theorem dX10_least_20 : decode cX10_least 20 = .ok (.aload_n 0, 1) := by decide +kernel
theorem dX10_least_21 : decode cX10_least 21 = .ok (.getfield 9, 3) := by decide +kernel
theorem dX10_least_24 : decode cX10_least 24 = .ok (.aload_n 0, 1) := by decide +kernel
theorem dX10_least_25 : decode cX10_least 25 = .ok (.getfield 13, 3) := by decide +kernel
theorem dX10_least_28 : decode cX10_least 28 = .ok (.invokestatic 139, 3) := by decide +kernel
theorem dX10_least_31 : decode cX10_least 31 = .ok (.bipush (-2), 2) := by decide +kernel
theorem dX10_least_33 : decode cX10_least 33 = .ok (.istore_n 3, 1) := by decide +kernel
theorem dX10_least_34 : decode cX10_least 34 = .ok (.iconst 0, 1) := by decide +kernel
theorem dX10_least_35 : decode cX10_least 35 = .ok (.istore 4, 2) := by decide +kernel
theorem dX10_least_37 : decode cX10_least 37 = .ok (.iload 4, 2) := by decide +kernel
theorem dX10_least_39 : decode cX10_least 39 = .ok (.sipush 240, 3) := by decide +kernel
theorem dX10_least_42 : decode cX10_least 42 = .ok (.if_icmp .gt 53, 3) := by decide +kernel
theorem dX10_least_45 : decode cX10_least 45 = .ok (.iload_n 3, 1) := by decide +kernel
theorem dX10_least_46 : decode cX10_least 46 = .ok (.ifCond .ge 49, 3) := by decide +kernel
theorem dX10_least_49 : decode cX10_least 49 = .ok (.aload_n 0, 1) := by decide +kernel
theorem dX10_least_50 : decode cX10_least 50 = .ok (.iload_n 1, 1) := by decide +kernel
theorem dX10_least_51 : decode cX10_least 51 = .ok (.iload 4, 2) := by decide +kernel
theorem dX10_least_53 : decode cX10_least 53 = .ok (.invokevirtual 111, 3) := by decide +kernel
theorem dX10_least_56 : decode cX10_least 56 = .ok (.pop, 1) := by decide +kernel
theorem dX10_least_57 : decode cX10_least 57 = .ok (.aload_n 0, 1) := by decide +kernel
theorem dX10_least_58 : decode cX10_least 58 = .ok (.invokevirtual 79, 3) := by decide +kernel
theorem dX10_least_61 : decode cX10_least 61 = .ok (.aload_n 0, 1) := by decide +kernel
theorem dX10_least_62 : decode cX10_least 62 = .ok (.iload_n 1, 1) := by decide +kernel
theorem dX10_least_63 : decode cX10_least 63 = .ok (.iload_n 2, 1) := by decide +kernel
theorem dX10_least_64 : decode cX10_least 64 = .ok (.invokevirtual 82, 3) := by decide +kernel
theorem dX10_least_67 : decode cX10_least 67 = .ok (.ifCond .lt 8, 3) := by decide +kernel
theorem dX10_least_70 : decode cX10_least 70 = .ok (.iload 4, 2) := by decide +kernel
theorem dX10_least_72 : decode cX10_least 72 = .ok (.goto 5, 3) := by decide +kernel
theorem dX10_least_75 : decode cX10_least 75 = .ok (.bipush (-2), 2) := by decide +kernel
theorem dX10_least_77 : decode cX10_least 77 = .ok (.istore_n 3, 1) := by decide +kernel
theorem dX10_least_78 : decode cX10_least 78 = .ok (.aload_n 0, 1) := by decide +kernel
theorem dX10_least_79 : decode cX10_least 79 = .ok (.getfield 13, 3) := by decide +kernel
theorem dX10_least_82 : decode cX10_least 82 = .ok (.aload_n 0, 1) := by decide +kernel
theorem dX10_least_83 : decode cX10_least 83 = .ok (.getfield 9, 3) := by decide +kernel
theorem dX10_least_86 : decode cX10_least 86 = .ok (.invokestatic 139, 3) := by decide +kernel
theorem dX10_least_89 : decode cX10_least 89 = .ok (.iinc 4 1, 3) := by decide +kernel
theorem dX10_least_92 : decode cX10_least 92 = .ok (.goto (-55), 3) := by decide +kernel
theorem dX10_least_95 : decode cX10_least 95 = .ok (.iload_n 3, 1) := by decide +kernel
theorem dX10_least_96 : decode cX10_least 96 = .ok (.ireturn, 1) := by decide +kernel
theorem dX10_holds_0 : decode cX10_holds 0 = .ok (.iconst 0, 1) := by decide +kernel
theorem dX10_holds_1 : decode cX10_holds 1 = .ok (.istore_n 3, 1) := by decide +kernel
theorem dX10_holds_2 : decode cX10_holds 2 = .ok (.iload_n 3, 1) := by decide +kernel
theorem dX10_holds_3 : decode cX10_holds 3 = .ok (.aload_n 0, 1) := by decide +kernel
theorem dX10_holds_4 : decode cX10_holds 4 = .ok (.iload_n 1, 1) := by decide +kernel
theorem dX10_holds_5 : decode cX10_holds 5 = .ok (.iconst 3, 1) := by decide +kernel
theorem dX10_holds_6 : decode cX10_holds 6 = .ok (.invokevirtual 57, 3) := by decide +kernel
theorem dX10_holds_9 : decode cX10_holds 9 = .ok (.if_icmp .ge 36, 3) := by decide +kernel
theorem dX10_holds_12 : decode cX10_holds 12 = .ok (.aload_n 0, 1) := by decide +kernel
theorem dX10_holds_13 : decode cX10_holds 13 = .ok (.getfield 9, 3) := by decide +kernel
theorem dX10_holds_16 : decode cX10_holds 16 = .ok (.sipush 330, 3) := by decide +kernel
theorem dX10_holds_19 : decode cX10_holds 19 = .ok (.aload_n 0, 1) := by decide +kernel
theorem dX10_holds_20 : decode cX10_holds 20 = .ok (.iload_n 1, 1) := by decide +kernel
theorem dX10_holds_21 : decode cX10_holds 21 = .ok (.iconst 2, 1) := by decide +kernel
theorem dX10_holds_22 : decode cX10_holds 22 = .ok (.invokevirtual 57, 3) := by decide +kernel
theorem dX10_holds_25 : decode cX10_holds 25 = .ok (.iadd, 1) := by decide +kernel
theorem dX10_holds_26 : decode cX10_holds 26 = .ok (.iload_n 3, 1) := by decide +kernel
theorem dX10_holds_27 : decode cX10_holds 27 = .ok (.iadd, 1) := by decide +kernel
theorem dX10_holds_28 : decode cX10_holds 28 = .ok (.iaload, 1) := by decide +kernel
theorem dX10_holds_29 : decode cX10_holds 29 = .ok (.aload_n 0, 1) := by decide +kernel
theorem dX10_holds_30 : decode cX10_holds 30 = .ok (.iload_n 2, 1) := by decide +kernel
theorem dX10_holds_31 : decode cX10_holds 31 = .ok (.invokevirtual 93, 3) := by decide +kernel
theorem dX10_holds_34 : decode cX10_holds 34 = .ok (.if_icmp .ne 5, 3) := by decide +kernel
theorem dX10_holds_37 : decode cX10_holds 37 = .ok (.iconst 1, 1) := by decide +kernel
theorem dX10_holds_38 : decode cX10_holds 38 = .ok (.ireturn, 1) := by decide +kernel
theorem dX10_holds_39 : decode cX10_holds 39 = .ok (.iinc 3 1, 3) := by decide +kernel
theorem dX10_holds_42 : decode cX10_holds 42 = .ok (.goto (-40), 3) := by decide +kernel
theorem dX10_holds_45 : decode cX10_holds 45 = .ok (.iconst 0, 1) := by decide +kernel
theorem dX10_holds_46 : decode cX10_holds 46 = .ok (.ireturn, 1) := by decide +kernel
theorem dX10_leakedOnes_0 : decode cX10_leakedOnes 0 = .ok (.iconst 0, 1) := by decide +kernel
theorem dX10_leakedOnes_1 : decode cX10_leakedOnes 1 = .ok (.istore_n 1, 1) := by decide +kernel
theorem dX10_leakedOnes_2 : decode cX10_leakedOnes 2 = .ok (.iconst 0, 1) := by decide +kernel
theorem dX10_leakedOnes_3 : decode cX10_leakedOnes 3 = .ok (.istore_n 2, 1) := by decide +kernel
theorem dX10_leakedOnes_4 : decode cX10_leakedOnes 4 = .ok (.iconst 0, 1) := by decide +kernel
theorem dX10_leakedOnes_5 : decode cX10_leakedOnes 5 = .ok (.istore_n 3, 1) := by decide +kernel
theorem dX10_leakedOnes_6 : decode cX10_leakedOnes 6 = .ok (.iload_n 3, 1) := by decide +kernel
theorem dX10_leakedOnes_7 : decode cX10_leakedOnes 7 = .ok (.bipush 30, 2) := by decide +kernel
theorem dX10_leakedOnes_9 : decode cX10_leakedOnes 9 = .ok (.if_icmp .ge 65, 3) := by decide +kernel
theorem dX10_leakedOnes_12 : decode cX10_leakedOnes 12 = .ok (.iload_n 2, 1) := by decide +kernel
theorem dX10_leakedOnes_13 : decode cX10_leakedOnes 13 = .ok (.aload_n 0, 1) := by decide +kernel
theorem dX10_leakedOnes_14 : decode cX10_leakedOnes 14 = .ok (.iload_n 3, 1) := by decide +kernel
theorem dX10_leakedOnes_15 : decode cX10_leakedOnes 15 = .ok (.invokevirtual 61, 3) := by decide +kernel
theorem dX10_leakedOnes_18 : decode cX10_leakedOnes 18 = .ok (.ifCond .eq 9, 3) := by decide +kernel
theorem dX10_leakedOnes_21 : decode cX10_leakedOnes 21 = .ok (.iconst 1, 1) := by decide +kernel
theorem dX10_leakedOnes_22 : decode cX10_leakedOnes 22 = .ok (.iload_n 3, 1) := by decide +kernel
theorem dX10_leakedOnes_23 : decode cX10_leakedOnes 23 = .ok (.ishl, 1) := by decide +kernel
theorem dX10_leakedOnes_24 : decode cX10_leakedOnes 24 = .ok (.goto 4, 3) := by decide +kernel
theorem dX10_leakedOnes_27 : decode cX10_leakedOnes 27 = .ok (.iconst 0, 1) := by decide +kernel
theorem dX10_leakedOnes_28 : decode cX10_leakedOnes 28 = .ok (.ior, 1) := by decide +kernel
theorem dX10_leakedOnes_29 : decode cX10_leakedOnes 29 = .ok (.istore_n 2, 1) := by decide +kernel
theorem dX10_leakedOnes_30 : decode cX10_leakedOnes 30 = .ok (.iload_n 1, 1) := by decide +kernel
theorem dX10_leakedOnes_31 : decode cX10_leakedOnes 31 = .ok (.aload_n 0, 1) := by decide +kernel
theorem dX10_leakedOnes_32 : decode cX10_leakedOnes 32 = .ok (.iload_n 3, 1) := by decide +kernel
theorem dX10_leakedOnes_33 : decode cX10_leakedOnes 33 = .ok (.invokevirtual 61, 3) := by decide +kernel
theorem dX10_leakedOnes_36 : decode cX10_leakedOnes 36 = .ok (.ifCond .eq 29, 3) := by decide +kernel
theorem dX10_leakedOnes_39 : decode cX10_leakedOnes 39 = .ok (.aload_n 0, 1) := by decide +kernel
theorem dX10_leakedOnes_40 : decode cX10_leakedOnes 40 = .ok (.iload_n 3, 1) := by decide +kernel
theorem dX10_leakedOnes_41 : decode cX10_leakedOnes 41 = .ok (.bipush 7, 2) := by decide +kernel
theorem dX10_leakedOnes_43 : decode cX10_leakedOnes 43 = .ok (.invokevirtual 57, 3) := by decide +kernel
theorem dX10_leakedOnes_46 : decode cX10_leakedOnes 46 = .ok (.ifCond .ge 13, 3) := by decide +kernel
theorem dX10_leakedOnes_49 : decode cX10_leakedOnes 49 = .ok (.aload_n 0, 1) := by decide +kernel
theorem dX10_leakedOnes_50 : decode cX10_leakedOnes 50 = .ok (.iload_n 3, 1) := by decide +kernel
theorem dX10_leakedOnes_51 : decode cX10_leakedOnes 51 = .ok (.bipush 6, 2) := by decide +kernel
theorem dX10_leakedOnes_53 : decode cX10_leakedOnes 53 = .ok (.invokevirtual 57, 3) := by decide +kernel
theorem dX10_leakedOnes_56 : decode cX10_leakedOnes 56 = .ok (.ifCond .le 9, 3) := by decide +kernel
theorem dX10_leakedOnes_59 : decode cX10_leakedOnes 59 = .ok (.iconst 1, 1) := by decide +kernel
theorem dX10_leakedOnes_60 : decode cX10_leakedOnes 60 = .ok (.iload_n 3, 1) := by decide +kernel
theorem dX10_leakedOnes_61 : decode cX10_leakedOnes 61 = .ok (.ishl, 1) := by decide +kernel
theorem dX10_leakedOnes_62 : decode cX10_leakedOnes 62 = .ok (.goto 4, 3) := by decide +kernel
theorem dX10_leakedOnes_65 : decode cX10_leakedOnes 65 = .ok (.iconst 0, 1) := by decide +kernel
theorem dX10_leakedOnes_66 : decode cX10_leakedOnes 66 = .ok (.ior, 1) := by decide +kernel
theorem dX10_leakedOnes_67 : decode cX10_leakedOnes 67 = .ok (.istore_n 1, 1) := by decide +kernel
theorem dX10_leakedOnes_68 : decode cX10_leakedOnes 68 = .ok (.iinc 3 1, 3) := by decide +kernel
theorem dX10_leakedOnes_71 : decode cX10_leakedOnes 71 = .ok (.goto (-65), 3) := by decide +kernel
theorem dX10_leakedOnes_74 : decode cX10_leakedOnes 74 = .ok (.iconst (-1), 1) := by decide +kernel
theorem dX10_leakedOnes_75 : decode cX10_leakedOnes 75 = .ok (.istore_n 3, 1) := by decide +kernel
theorem dX10_leakedOnes_76 : decode cX10_leakedOnes 76 = .ok (.iload_n 3, 1) := by decide +kernel
theorem dX10_leakedOnes_77 : decode cX10_leakedOnes 77 = .ok (.iload_n 1, 1) := by decide +kernel
theorem dX10_leakedOnes_78 : decode cX10_leakedOnes 78 = .ok (.if_icmp .eq 81, 3) := by decide +kernel
theorem dX10_leakedOnes_81 : decode cX10_leakedOnes 81 = .ok (.iload_n 1, 1) := by decide +kernel
theorem dX10_leakedOnes_82 : decode cX10_leakedOnes 82 = .ok (.istore_n 3, 1) := by decide +kernel
theorem dX10_leakedOnes_83 : decode cX10_leakedOnes 83 = .ok (.iconst 0, 1) := by decide +kernel
theorem dX10_leakedOnes_84 : decode cX10_leakedOnes 84 = .ok (.istore 4, 2) := by decide +kernel
theorem dX10_leakedOnes_86 : decode cX10_leakedOnes 86 = .ok (.iload 4, 2) := by decide +kernel
theorem dX10_leakedOnes_88 : decode cX10_leakedOnes 88 = .ok (.bipush 30, 2) := by decide +kernel
theorem dX10_leakedOnes_90 : decode cX10_leakedOnes 90 = .ok (.if_icmp .ge 66, 3) := by decide +kernel
theorem dX10_leakedOnes_93 : decode cX10_leakedOnes 93 = .ok (.iconst 0, 1) := by decide +kernel
theorem dX10_leakedOnes_94 : decode cX10_leakedOnes 94 = .ok (.istore 5, 2) := by decide +kernel
theorem dX10_leakedOnes_96 : decode cX10_leakedOnes 96 = .ok (.iload 5, 2) := by decide +kernel
theorem dX10_leakedOnes_98 : decode cX10_leakedOnes 98 = .ok (.bipush 30, 2) := by decide +kernel
theorem dX10_leakedOnes_100 : decode cX10_leakedOnes 100 = .ok (.if_icmp .ge 50, 3) := by decide +kernel
theorem dX10_leakedOnes_103 : decode cX10_leakedOnes 103 = .ok (.iload_n 1, 1) := by decide +kernel
theorem dX10_leakedOnes_104 : decode cX10_leakedOnes 104 = .ok (.iload 4, 2) := by decide +kernel
theorem dX10_leakedOnes_106 : decode cX10_leakedOnes 106 = .ok (.ishr, 1) := by decide +kernel
theorem dX10_leakedOnes_107 : decode cX10_leakedOnes 107 = .ok (.iconst 1, 1) := by decide +kernel
theorem dX10_leakedOnes_108 : decode cX10_leakedOnes 108 = .ok (.iand, 1) := by decide +kernel
theorem dX10_leakedOnes_109 : decode cX10_leakedOnes 109 = .ok (.iconst 1, 1) := by decide +kernel
theorem dX10_leakedOnes_110 : decode cX10_leakedOnes 110 = .ok (.if_icmp .ne 40, 3) := by decide +kernel
theorem dX10_leakedOnes_113 : decode cX10_leakedOnes 113 = .ok (.iload_n 1, 1) := by decide +kernel
theorem dX10_leakedOnes_114 : decode cX10_leakedOnes 114 = .ok (.aload_n 0, 1) := by decide +kernel
theorem dX10_leakedOnes_115 : decode cX10_leakedOnes 115 = .ok (.iload 5, 2) := by decide +kernel
theorem dX10_leakedOnes_117 : decode cX10_leakedOnes 117 = .ok (.invokevirtual 61, 3) := by decide +kernel
theorem dX10_leakedOnes_120 : decode cX10_leakedOnes 120 = .ok (.ifCond .eq 21, 3) := by decide +kernel
theorem dX10_leakedOnes_123 : decode cX10_leakedOnes 123 = .ok (.aload_n 0, 1) := by decide +kernel
theorem dX10_leakedOnes_124 : decode cX10_leakedOnes 124 = .ok (.iload 4, 2) := by decide +kernel
theorem dX10_leakedOnes_126 : decode cX10_leakedOnes 126 = .ok (.iload 5, 2) := by decide +kernel
theorem dX10_leakedOnes_128 : decode cX10_leakedOnes 128 = .ok (.invokevirtual 143, 3) := by decide +kernel
theorem dX10_leakedOnes_131 : decode cX10_leakedOnes 131 = .ok (.ifCond .eq 10, 3) := by decide +kernel
theorem dX10_leakedOnes_134 : decode cX10_leakedOnes 134 = .ok (.iconst 1, 1) := by decide +kernel
theorem dX10_leakedOnes_135 : decode cX10_leakedOnes 135 = .ok (.iload 5, 2) := by decide +kernel
theorem dX10_leakedOnes_137 : decode cX10_leakedOnes 137 = .ok (.ishl, 1) := by decide +kernel
theorem dX10_leakedOnes_138 : decode cX10_leakedOnes 138 = .ok (.goto 4, 3) := by decide +kernel
theorem dX10_leakedOnes_141 : decode cX10_leakedOnes 141 = .ok (.iconst 0, 1) := by decide +kernel
theorem dX10_leakedOnes_142 : decode cX10_leakedOnes 142 = .ok (.ior, 1) := by decide +kernel
theorem dX10_leakedOnes_143 : decode cX10_leakedOnes 143 = .ok (.istore_n 1, 1) := by decide +kernel
theorem dX10_leakedOnes_144 : decode cX10_leakedOnes 144 = .ok (.iinc 5 1, 3) := by decide +kernel
theorem dX10_leakedOnes_147 : decode cX10_leakedOnes 147 = .ok (.goto (-51), 3) := by decide +kernel
theorem dX10_leakedOnes_150 : decode cX10_leakedOnes 150 = .ok (.iinc 4 1, 3) := by decide +kernel
theorem dX10_leakedOnes_153 : decode cX10_leakedOnes 153 = .ok (.goto (-67), 3) := by decide +kernel
theorem dX10_leakedOnes_156 : decode cX10_leakedOnes 156 = .ok (.goto (-80), 3) := by decide +kernel
theorem dX10_leakedOnes_159 : decode cX10_leakedOnes 159 = .ok (.iload_n 2, 1) := by decide +kernel
theorem dX10_leakedOnes_160 : decode cX10_leakedOnes 160 = .ok (.iload_n 1, 1) := by decide +kernel
theorem dX10_leakedOnes_161 : decode cX10_leakedOnes 161 = .ok (.iconst (-1), 1) := by decide +kernel
theorem dX10_leakedOnes_162 : decode cX10_leakedOnes 162 = .ok (.ixor, 1) := by decide +kernel
theorem dX10_leakedOnes_163 : decode cX10_leakedOnes 163 = .ok (.iand, 1) := by decide +kernel
theorem dX10_leakedOnes_164 : decode cX10_leakedOnes 164 = .ok (.ireturn, 1) := by decide +kernel
theorem dX10_leaked_0 : decode cX10_leaked 0 = .ok (.iload_n 1, 1) := by decide +kernel
theorem dX10_leaked_1 : decode cX10_leaked 1 = .ok (.iconst (-1), 1) := by decide +kernel
theorem dX10_leaked_2 : decode cX10_leaked 2 = .ok (.if_icmp .ge 5, 3) := by decide +kernel
theorem dX10_leaked_5 : decode cX10_leaked 5 = .ok (.iconst (-1), 1) := by decide +kernel
theorem dX10_leaked_6 : decode cX10_leaked 6 = .ok (.ireturn, 1) := by decide +kernel
theorem dX10_leaked_7 : decode cX10_leaked 7 = .ok (.aload_n 0, 1) := by decide +kernel
theorem dX10_leaked_8 : decode cX10_leaked 8 = .ok (.invokevirtual 124, 3) := by decide +kernel
theorem dX10_leaked_11 : decode cX10_leaked 11 = .ok (.istore_n 2, 1) := by decide +kernel
theorem dX10_leaked_12 : decode cX10_leaked 12 = .ok (.iconst 0, 1) := by decide +kernel
theorem dX10_leaked_13 : decode cX10_leaked 13 = .ok (.istore_n 3, 1) := by decide +kernel
theorem dX10_leaked_14 : decode cX10_leaked 14 = .ok (.iconst 0, 1) := by decide +kernel
theorem dX10_leaked_15 : decode cX10_leaked 15 = .ok (.istore 4, 2) := by decide +kernel
theorem dX10_leaked_17 : decode cX10_leaked 17 = .ok (.iload 4, 2) := by decide +kernel
theorem dX10_leaked_19 : decode cX10_leaked 19 = .ok (.bipush 30, 2) := by decide +kernel
theorem dX10_leaked_21 : decode cX10_leaked 21 = .ok (.if_icmp .ge 30, 3) := by decide +kernel
theorem dX10_leaked_24 : decode cX10_leaked 24 = .ok (.iload_n 2, 1) := by decide +kernel
theorem dX10_leaked_25 : decode cX10_leaked 25 = .ok (.iload 4, 2) := by decide +kernel
theorem dX10_leaked_27 : decode cX10_leaked 27 = .ok (.ishr, 1) := by decide +kernel
theorem dX10_leaked_28 : decode cX10_leaked 28 = .ok (.iconst 1, 1) := by decide +kernel
theorem dX10_leaked_29 : decode cX10_leaked 29 = .ok (.iand, 1) := by decide +kernel
theorem dX10_leaked_30 : decode cX10_leaked 30 = .ok (.iconst 1, 1) := by decide +kernel
theorem dX10_leaked_31 : decode cX10_leaked 31 = .ok (.if_icmp .ne 14, 3) := by decide +kernel
theorem dX10_leaked_34 : decode cX10_leaked 34 = .ok (.iload_n 3, 1) := by decide +kernel
theorem dX10_leaked_35 : decode cX10_leaked 35 = .ok (.iload_n 1, 1) := by decide +kernel
theorem dX10_leaked_36 : decode cX10_leaked 36 = .ok (.if_icmp .ne 6, 3) := by decide +kernel
theorem dX10_leaked_39 : decode cX10_leaked 39 = .ok (.iload 4, 2) := by decide +kernel
theorem dX10_leaked_41 : decode cX10_leaked 41 = .ok (.ireturn, 1) := by decide +kernel
theorem dX10_leaked_42 : decode cX10_leaked 42 = .ok (.iinc 3 1, 3) := by decide +kernel
theorem dX10_leaked_45 : decode cX10_leaked 45 = .ok (.iinc 4 1, 3) := by decide +kernel
theorem dX10_leaked_48 : decode cX10_leaked 48 = .ok (.goto (-31), 3) := by decide +kernel
theorem dX10_leaked_51 : decode cX10_leaked 51 = .ok (.iload_n 1, 1) := by decide +kernel
theorem dX10_leaked_52 : decode cX10_leaked 52 = .ok (.iconst (-1), 1) := by decide +kernel
theorem dX10_leaked_53 : decode cX10_leaked 53 = .ok (.if_icmp .ne 7, 3) := by decide +kernel
theorem dX10_leaked_56 : decode cX10_leaked 56 = .ok (.iload_n 3, 1) := by decide +kernel
theorem dX10_leaked_57 : decode cX10_leaked 57 = .ok (.goto 5, 3) := by decide +kernel
theorem dX10_leaked_60 : decode cX10_leaked 60 = .ok (.bipush (-2), 2) := by decide +kernel
theorem dX10_leaked_62 : decode cX10_leaked 62 = .ok (.ireturn, 1) := by decide +kernel
theorem dX10_path_0 : decode cX10_path 0 = .ok (.aload_n 0, 1) := by decide +kernel
theorem dX10_path_1 : decode cX10_path 1 = .ok (.iload_n 1, 1) := by decide +kernel
theorem dX10_path_2 : decode cX10_path 2 = .ok (.invokevirtual 96, 3) := by decide +kernel
end
section
theorem dX10_path_5 : decode cX10_path 5 = .ok (.istore_n 3, 1) := by decide +kernel
theorem dX10_path_6 : decode cX10_path 6 = .ok (.aload_n 0, 1) := by decide +kernel
theorem dX10_path_7 : decode cX10_path 7 = .ok (.iload_n 2, 1) := by decide +kernel
theorem dX10_path_8 : decode cX10_path 8 = .ok (.invokevirtual 96, 3) := by decide +kernel
theorem dX10_path_11 : decode cX10_path 11 = .ok (.istore 4, 2) := by decide +kernel
theorem dX10_path_13 : decode cX10_path 13 = .ok (.iload_n 3, 1) := by decide +kernel
theorem dX10_path_14 : decode cX10_path 14 = .ok (.ifCond .lt 8, 3) := by decide +kernel
theorem dX10_path_17 : decode cX10_path 17 = .ok (.iload 4, 2) := by decide +kernel
theorem dX10_path_19 : decode cX10_path 19 = .ok (.ifCond .ge 6, 3) := by decide +kernel
theorem dX10_path_22 : decode cX10_path 22 = .ok (.bipush (-4), 2) := by decide +kernel
theorem dX10_path_24 : decode cX10_path 24 = .ok (.ireturn, 1) := by decide +kernel
theorem dX10_path_25 : decode cX10_path 25 = .ok (.iconst 0, 1) := by decide +kernel
theorem dX10_path_26 : decode cX10_path 26 = .ok (.istore 5, 2) := by decide +kernel
theorem dX10_path_28 : decode cX10_path 28 = .ok (.iload 5, 2) := by decide +kernel
theorem dX10_path_30 : decode cX10_path 30 = .ok (.bipush 30, 2) := by decide +kernel
theorem dX10_path_32 : decode cX10_path 32 = .ok (.if_icmp .ge 18, 3) := by decide +kernel
theorem dX10_path_35 : decode cX10_path 35 = .ok (.aload_n 0, 1) := by decide +kernel
theorem dX10_path_36 : decode cX10_path 36 = .ok (.getfield 31, 3) := by decide +kernel
theorem dX10_path_39 : decode cX10_path 39 = .ok (.iload 5, 2) := by decide +kernel
theorem dX10_path_41 : decode cX10_path 41 = .ok (.bipush (-2), 2) := by decide +kernel
theorem dX10_path_43 : decode cX10_path 43 = .ok (.iastore, 1) := by decide +kernel
theorem dX10_path_44 : decode cX10_path 44 = .ok (.iinc 5 1, 3) := by decide +kernel
theorem dX10_path_47 : decode cX10_path 47 = .ok (.goto (-19), 3) := by decide +kernel
theorem dX10_path_50 : decode cX10_path 50 = .ok (.aload_n 0, 1) := by decide +kernel
theorem dX10_path_51 : decode cX10_path 51 = .ok (.getfield 31, 3) := by decide +kernel
theorem dX10_path_54 : decode cX10_path 54 = .ok (.iload_n 3, 1) := by decide +kernel
theorem dX10_path_55 : decode cX10_path 55 = .ok (.iconst 0, 1) := by decide +kernel
theorem dX10_path_56 : decode cX10_path 56 = .ok (.iastore, 1) := by decide +kernel
theorem dX10_path_57 : decode cX10_path 57 = .ok (.aload_n 0, 1) := by decide +kernel
theorem dX10_path_58 : decode cX10_path 58 = .ok (.getfield 34, 3) := by decide +kernel
theorem dX10_path_61 : decode cX10_path 61 = .ok (.iconst 0, 1) := by decide +kernel
theorem dX10_path_62 : decode cX10_path 62 = .ok (.iload_n 3, 1) := by decide +kernel
theorem dX10_path_63 : decode cX10_path 63 = .ok (.iastore, 1) := by decide +kernel
theorem dX10_path_64 : decode cX10_path 64 = .ok (.iconst 1, 1) := by decide +kernel
theorem dX10_path_65 : decode cX10_path 65 = .ok (.istore 5, 2) := by decide +kernel
theorem dX10_path_67 : decode cX10_path 67 = .ok (.iconst 0, 1) := by decide +kernel
theorem dX10_path_68 : decode cX10_path 68 = .ok (.istore 6, 2) := by decide +kernel
theorem dX10_path_70 : decode cX10_path 70 = .ok (.iload 6, 2) := by decide +kernel
theorem dX10_path_72 : decode cX10_path 72 = .ok (.iload 5, 2) := by decide +kernel
theorem dX10_path_74 : decode cX10_path 74 = .ok (.if_icmp .ge 93, 3) := by decide +kernel
theorem dX10_path_77 : decode cX10_path 77 = .ok (.iconst 0, 1) := by decide +kernel
theorem dX10_path_78 : decode cX10_path 78 = .ok (.istore 7, 2) := by decide +kernel
theorem dX10_path_80 : decode cX10_path 80 = .ok (.iload 7, 2) := by decide +kernel
theorem dX10_path_82 : decode cX10_path 82 = .ok (.bipush 30, 2) := by decide +kernel
theorem dX10_path_84 : decode cX10_path 84 = .ok (.if_icmp .ge 77, 3) := by decide +kernel
theorem dX10_path_87 : decode cX10_path 87 = .ok (.aload_n 0, 1) := by decide +kernel
theorem dX10_path_88 : decode cX10_path 88 = .ok (.getfield 31, 3) := by decide +kernel
theorem dX10_path_91 : decode cX10_path 91 = .ok (.iload 7, 2) := by decide +kernel
theorem dX10_path_93 : decode cX10_path 93 = .ok (.iaload, 1) := by decide +kernel
theorem dX10_path_94 : decode cX10_path 94 = .ok (.ifCond .ge 61, 3) := by decide +kernel
theorem dX10_path_97 : decode cX10_path 97 = .ok (.aload_n 0, 1) := by decide +kernel
theorem dX10_path_98 : decode cX10_path 98 = .ok (.iload 7, 2) := by decide +kernel
theorem dX10_path_100 : decode cX10_path 100 = .ok (.invokevirtual 61, 3) := by decide +kernel
theorem dX10_path_103 : decode cX10_path 103 = .ok (.ifCond .eq 52, 3) := by decide +kernel
theorem dX10_path_106 : decode cX10_path 106 = .ok (.aload_n 0, 1) := by decide +kernel
theorem dX10_path_107 : decode cX10_path 107 = .ok (.aload_n 0, 1) := by decide +kernel
theorem dX10_path_108 : decode cX10_path 108 = .ok (.getfield 34, 3) := by decide +kernel
theorem dX10_path_111 : decode cX10_path 111 = .ok (.iload 6, 2) := by decide +kernel
theorem dX10_path_113 : decode cX10_path 113 = .ok (.iaload, 1) := by decide +kernel
theorem dX10_path_114 : decode cX10_path 114 = .ok (.iload 7, 2) := by decide +kernel
theorem dX10_path_116 : decode cX10_path 116 = .ok (.invokevirtual 143, 3) := by decide +kernel
theorem dX10_path_119 : decode cX10_path 119 = .ok (.ifCond .eq 36, 3) := by decide +kernel
theorem dX10_path_122 : decode cX10_path 122 = .ok (.aload_n 0, 1) := by decide +kernel
theorem dX10_path_123 : decode cX10_path 123 = .ok (.getfield 31, 3) := by decide +kernel
theorem dX10_path_126 : decode cX10_path 126 = .ok (.iload 7, 2) := by decide +kernel
theorem dX10_path_128 : decode cX10_path 128 = .ok (.aload_n 0, 1) := by decide +kernel
theorem dX10_path_129 : decode cX10_path 129 = .ok (.getfield 31, 3) := by decide +kernel
theorem dX10_path_132 : decode cX10_path 132 = .ok (.aload_n 0, 1) := by decide +kernel
theorem dX10_path_133 : decode cX10_path 133 = .ok (.getfield 34, 3) := by decide +kernel
theorem dX10_path_136 : decode cX10_path 136 = .ok (.iload 6, 2) := by decide +kernel
theorem dX10_path_138 : decode cX10_path 138 = .ok (.iaload, 1) := by decide +kernel
theorem dX10_path_139 : decode cX10_path 139 = .ok (.iaload, 1) := by decide +kernel
theorem dX10_path_140 : decode cX10_path 140 = .ok (.iconst 1, 1) := by decide +kernel
theorem dX10_path_141 : decode cX10_path 141 = .ok (.iadd, 1) := by decide +kernel
theorem dX10_path_142 : decode cX10_path 142 = .ok (.iastore, 1) := by decide +kernel
theorem dX10_path_143 : decode cX10_path 143 = .ok (.aload_n 0, 1) := by decide +kernel
theorem dX10_path_144 : decode cX10_path 144 = .ok (.getfield 34, 3) := by decide +kernel
theorem dX10_path_147 : decode cX10_path 147 = .ok (.iload 5, 2) := by decide +kernel
theorem dX10_path_149 : decode cX10_path 149 = .ok (.iinc 5 1, 3) := by decide +kernel
theorem dX10_path_152 : decode cX10_path 152 = .ok (.iload 7, 2) := by decide +kernel
theorem dX10_path_154 : decode cX10_path 154 = .ok (.iastore, 1) := by decide +kernel
theorem dX10_path_155 : decode cX10_path 155 = .ok (.iinc 7 1, 3) := by decide +kernel
theorem dX10_path_158 : decode cX10_path 158 = .ok (.goto (-78), 3) := by decide +kernel
theorem dX10_path_161 : decode cX10_path 161 = .ok (.iinc 6 1, 3) := by decide +kernel
theorem dX10_path_164 : decode cX10_path 164 = .ok (.goto (-94), 3) := by decide +kernel
theorem dX10_path_167 : decode cX10_path 167 = .ok (.aload_n 0, 1) := by decide +kernel
theorem dX10_path_168 : decode cX10_path 168 = .ok (.getfield 31, 3) := by decide +kernel
theorem dX10_path_171 : decode cX10_path 171 = .ok (.iload 4, 2) := by decide +kernel
theorem dX10_path_173 : decode cX10_path 173 = .ok (.iaload, 1) := by decide +kernel
theorem dX10_path_174 : decode cX10_path 174 = .ok (.ireturn, 1) := by decide +kernel
theorem dX10_epochs_0 : decode cX10_epochs 0 = .ok (.iload_n 1, 1) := by decide +kernel
theorem dX10_epochs_1 : decode cX10_epochs 1 = .ok (.iconst 0, 1) := by decide +kernel
theorem dX10_epochs_2 : decode cX10_epochs 2 = .ok (.iconst 2, 1) := by decide +kernel
theorem dX10_epochs_3 : decode cX10_epochs 3 = .ok (.invokestatic 65, 3) := by decide +kernel
theorem dX10_epochs_6 : decode cX10_epochs 6 = .ok (.ifCond .ne 5, 3) := by decide +kernel
theorem dX10_epochs_9 : decode cX10_epochs 9 = .ok (.iconst (-1), 1) := by decide +kernel
theorem dX10_epochs_10 : decode cX10_epochs 10 = .ok (.ireturn, 1) := by decide +kernel
theorem dX10_epochs_11 : decode cX10_epochs 11 = .ok (.iconst 0, 1) := by decide +kernel
theorem dX10_epochs_12 : decode cX10_epochs 12 = .ok (.istore_n 2, 1) := by decide +kernel
theorem dX10_epochs_13 : decode cX10_epochs 13 = .ok (.bipush (-2), 2) := by decide +kernel
theorem dX10_epochs_15 : decode cX10_epochs 15 = .ok (.istore_n 3, 1) := by decide +kernel
theorem dX10_epochs_16 : decode cX10_epochs 16 = .ok (.iconst 0, 1) := by decide +kernel
theorem dX10_epochs_17 : decode cX10_epochs 17 = .ok (.istore 4, 2) := by decide +kernel
theorem dX10_epochs_19 : decode cX10_epochs 19 = .ok (.iload 4, 2) := by decide +kernel
theorem dX10_epochs_21 : decode cX10_epochs 21 = .ok (.bipush 6, 2) := by decide +kernel
theorem dX10_epochs_23 : decode cX10_epochs 23 = .ok (.if_icmp .ge 65, 3) := by decide +kernel
theorem dX10_epochs_26 : decode cX10_epochs 26 = .ok (.aload_n 0, 1) := by decide +kernel
theorem dX10_epochs_27 : decode cX10_epochs 27 = .ok (.getfield 9, 3) := by decide +kernel
theorem dX10_epochs_30 : decode cX10_epochs 30 = .ok (.sipush 599, 3) := by decide +kernel
theorem dX10_epochs_33 : decode cX10_epochs 33 = .ok (.iload 4, 2) := by decide +kernel
theorem dX10_epochs_35 : decode cX10_epochs 35 = .ok (.iadd, 1) := by decide +kernel
theorem dX10_epochs_36 : decode cX10_epochs 36 = .ok (.iaload, 1) := by decide +kernel
theorem dX10_epochs_37 : decode cX10_epochs 37 = .ok (.ifCond .lt 45, 3) := by decide +kernel
theorem dX10_epochs_40 : decode cX10_epochs 40 = .ok (.iload_n 2, 1) := by decide +kernel
theorem dX10_epochs_41 : decode cX10_epochs 41 = .ok (.iconst 1, 1) := by decide +kernel
theorem dX10_epochs_42 : decode cX10_epochs 42 = .ok (.iload 4, 2) := by decide +kernel
theorem dX10_epochs_44 : decode cX10_epochs 44 = .ok (.ishl, 1) := by decide +kernel
theorem dX10_epochs_45 : decode cX10_epochs 45 = .ok (.ior, 1) := by decide +kernel
theorem dX10_epochs_46 : decode cX10_epochs 46 = .ok (.istore_n 2, 1) := by decide +kernel
theorem dX10_epochs_47 : decode cX10_epochs 47 = .ok (.iload_n 3, 1) := by decide +kernel
theorem dX10_epochs_48 : decode cX10_epochs 48 = .ok (.ifCond .lt 27, 3) := by decide +kernel
theorem dX10_epochs_51 : decode cX10_epochs 51 = .ok (.aload_n 0, 1) := by decide +kernel
theorem dX10_epochs_52 : decode cX10_epochs 52 = .ok (.getfield 9, 3) := by decide +kernel
theorem dX10_epochs_55 : decode cX10_epochs 55 = .ok (.sipush 599, 3) := by decide +kernel
theorem dX10_epochs_58 : decode cX10_epochs 58 = .ok (.iload 4, 2) := by decide +kernel
theorem dX10_epochs_60 : decode cX10_epochs 60 = .ok (.iadd, 1) := by decide +kernel
theorem dX10_epochs_61 : decode cX10_epochs 61 = .ok (.iaload, 1) := by decide +kernel
theorem dX10_epochs_62 : decode cX10_epochs 62 = .ok (.aload_n 0, 1) := by decide +kernel
theorem dX10_epochs_63 : decode cX10_epochs 63 = .ok (.getfield 9, 3) := by decide +kernel
theorem dX10_epochs_66 : decode cX10_epochs 66 = .ok (.sipush 599, 3) := by decide +kernel
theorem dX10_epochs_69 : decode cX10_epochs 69 = .ok (.iload_n 3, 1) := by decide +kernel
theorem dX10_epochs_70 : decode cX10_epochs 70 = .ok (.iadd, 1) := by decide +kernel
theorem dX10_epochs_71 : decode cX10_epochs 71 = .ok (.iaload, 1) := by decide +kernel
theorem dX10_epochs_72 : decode cX10_epochs 72 = .ok (.if_icmp .ge 8, 3) := by decide +kernel
theorem dX10_epochs_75 : decode cX10_epochs 75 = .ok (.iload 4, 2) := by decide +kernel
theorem dX10_epochs_77 : decode cX10_epochs 77 = .ok (.goto 4, 3) := by decide +kernel
theorem dX10_epochs_80 : decode cX10_epochs 80 = .ok (.iload_n 3, 1) := by decide +kernel
theorem dX10_epochs_81 : decode cX10_epochs 81 = .ok (.istore_n 3, 1) := by decide +kernel
theorem dX10_epochs_82 : decode cX10_epochs 82 = .ok (.iinc 4 1, 3) := by decide +kernel
theorem dX10_epochs_85 : decode cX10_epochs 85 = .ok (.goto (-66), 3) := by decide +kernel
theorem dX10_epochs_88 : decode cX10_epochs 88 = .ok (.iload_n 1, 1) := by decide +kernel
theorem dX10_epochs_89 : decode cX10_epochs 89 = .ok (.ifCond .ne 10, 3) := by decide +kernel
theorem dX10_epochs_92 : decode cX10_epochs 92 = .ok (.aload_n 0, 1) := by decide +kernel
theorem dX10_epochs_93 : decode cX10_epochs 93 = .ok (.invokevirtual 133, 3) := by decide +kernel
theorem dX10_epochs_96 : decode cX10_epochs 96 = .ok (.goto 13, 3) := by decide +kernel
theorem dX10_epochs_99 : decode cX10_epochs 99 = .ok (.iload_n 1, 1) := by decide +kernel
theorem dX10_epochs_100 : decode cX10_epochs 100 = .ok (.iconst 1, 1) := by decide +kernel
theorem dX10_epochs_101 : decode cX10_epochs 101 = .ok (.if_icmp .ne 7, 3) := by decide +kernel
theorem dX10_epochs_104 : decode cX10_epochs 104 = .ok (.iload_n 3, 1) := by decide +kernel
theorem dX10_epochs_105 : decode cX10_epochs 105 = .ok (.goto 4, 3) := by decide +kernel
theorem dX10_epochs_108 : decode cX10_epochs 108 = .ok (.iload_n 2, 1) := by decide +kernel
theorem dX10_epochs_109 : decode cX10_epochs 109 = .ok (.ireturn, 1) := by decide +kernel
theorem dX10_isHolder_0 : decode cX10_isHolder 0 = .ok (.iload_n 1, 1) := by decide +kernel
theorem dX10_isHolder_1 : decode cX10_isHolder 1 = .ok (.iconst 0, 1) := by decide +kernel
theorem dX10_isHolder_2 : decode cX10_isHolder 2 = .ok (.iconst 5, 1) := by decide +kernel
theorem dX10_isHolder_3 : decode cX10_isHolder 3 = .ok (.invokestatic 65, 3) := by decide +kernel
theorem dX10_isHolder_6 : decode cX10_isHolder 6 = .ok (.ireturn, 1) := by decide +kernel
theorem dX10_fills_0 : decode cX10_fills 0 = .ok (.iconst 0, 1) := by decide +kernel
theorem dX10_fills_1 : decode cX10_fills 1 = .ok (.istore 4, 2) := by decide +kernel
theorem dX10_fills_3 : decode cX10_fills 3 = .ok (.iload 4, 2) := by decide +kernel
theorem dX10_fills_5 : decode cX10_fills 5 = .ok (.iload_n 2, 1) := by decide +kernel
theorem dX10_fills_6 : decode cX10_fills 6 = .ok (.if_icmp .ge 19, 3) := by decide +kernel
theorem dX10_fills_9 : decode cX10_fills 9 = .ok (.aload_n 0, 1) := by decide +kernel
theorem dX10_fills_10 : decode cX10_fills 10 = .ok (.getfield 22, 3) := by decide +kernel
theorem dX10_fills_13 : decode cX10_fills 13 = .ok (.iload_n 1, 1) := by decide +kernel
theorem dX10_fills_14 : decode cX10_fills 14 = .ok (.iload 4, 2) := by decide +kernel
theorem dX10_fills_16 : decode cX10_fills 16 = .ok (.iadd, 1) := by decide +kernel
theorem dX10_fills_17 : decode cX10_fills 17 = .ok (.iload_n 3, 1) := by decide +kernel
theorem dX10_fills_18 : decode cX10_fills 18 = .ok (.iastore, 1) := by decide +kernel
theorem dX10_fills_19 : decode cX10_fills 19 = .ok (.iinc 4 1, 3) := by decide +kernel
theorem dX10_fills_22 : decode cX10_fills 22 = .ok (.goto (-19), 3) := by decide +kernel
theorem dX10_fills_25 : decode cX10_fills 25 = .ok (.return_, 1) := by decide +kernel
theorem dX10_plan_0 : decode cX10_plan 0 = .ok (.aload_n 0, 1) := by decide +kernel
theorem dX10_plan_1 : decode cX10_plan 1 = .ok (.iload_n 1, 1) := by decide +kernel
theorem dX10_plan_2 : decode cX10_plan 2 = .ok (.invokevirtual 146, 3) := by decide +kernel
theorem dX10_plan_5 : decode cX10_plan 5 = .ok (.ifCond .eq 11, 3) := by decide +kernel
theorem dX10_plan_8 : decode cX10_plan 8 = .ok (.aload_n 0, 1) := by decide +kernel
theorem dX10_plan_9 : decode cX10_plan 9 = .ok (.iload_n 2, 1) := by decide +kernel
theorem dX10_plan_10 : decode cX10_plan 10 = .ok (.invokevirtual 73, 3) := by decide +kernel
theorem dX10_plan_13 : decode cX10_plan 13 = .ok (.ifCond .ne 5, 3) := by decide +kernel
theorem dX10_plan_16 : decode cX10_plan 16 = .ok (.iconst (-1), 1) := by decide +kernel
theorem dX10_plan_17 : decode cX10_plan 17 = .ok (.ireturn, 1) := by decide +kernel
theorem dX10_plan_18 : decode cX10_plan 18 = .ok (.aload_n 0, 1) := by decide +kernel
theorem dX10_plan_19 : decode cX10_plan 19 = .ok (.getfield 40, 3) := by decide +kernel
theorem dX10_plan_22 : decode cX10_plan 22 = .ok (.iload_n 1, 1) := by decide +kernel
theorem dX10_plan_23 : decode cX10_plan 23 = .ok (.iaload, 1) := by decide +kernel
theorem dX10_plan_24 : decode cX10_plan 24 = .ok (.iconst 2, 1) := by decide +kernel
theorem dX10_plan_25 : decode cX10_plan 25 = .ok (.if_icmp .eq 20, 3) := by decide +kernel
theorem dX10_plan_28 : decode cX10_plan 28 = .ok (.aload_n 0, 1) := by decide +kernel
theorem dX10_plan_29 : decode cX10_plan 29 = .ok (.getfield 40, 3) := by decide +kernel
theorem dX10_plan_32 : decode cX10_plan 32 = .ok (.iload_n 1, 1) := by decide +kernel
theorem dX10_plan_33 : decode cX10_plan 33 = .ok (.iaload, 1) := by decide +kernel
theorem dX10_plan_34 : decode cX10_plan 34 = .ok (.ifCond .ne 8, 3) := by decide +kernel
theorem dX10_plan_37 : decode cX10_plan 37 = .ok (.bipush (-11), 2) := by decide +kernel
theorem dX10_plan_39 : decode cX10_plan 39 = .ok (.goto 5, 3) := by decide +kernel
theorem dX10_plan_42 : decode cX10_plan 42 = .ok (.bipush (-12), 2) := by decide +kernel
theorem dX10_plan_44 : decode cX10_plan 44 = .ok (.ireturn, 1) := by decide +kernel
theorem dX10_plan_45 : decode cX10_plan 45 = .ok (.aload_n 0, 1) := by decide +kernel
theorem dX10_plan_46 : decode cX10_plan 46 = .ok (.invokevirtual 79, 3) := by decide +kernel
theorem dX10_plan_49 : decode cX10_plan 49 = .ok (.iconst 0, 1) := by decide +kernel
theorem dX10_plan_50 : decode cX10_plan 50 = .ok (.istore_n 3, 1) := by decide +kernel
theorem dX10_plan_51 : decode cX10_plan 51 = .ok (.iconst 0, 1) := by decide +kernel
theorem dX10_plan_52 : decode cX10_plan 52 = .ok (.istore 4, 2) := by decide +kernel
theorem dX10_plan_54 : decode cX10_plan 54 = .ok (.iload 4, 2) := by decide +kernel
theorem dX10_plan_56 : decode cX10_plan 56 = .ok (.aload_n 0, 1) := by decide +kernel
theorem dX10_plan_57 : decode cX10_plan 57 = .ok (.getfield 46, 3) := by decide +kernel
theorem dX10_plan_60 : decode cX10_plan 60 = .ok (.iload_n 1, 1) := by decide +kernel
theorem dX10_plan_61 : decode cX10_plan 61 = .ok (.iaload, 1) := by decide +kernel
theorem dX10_plan_62 : decode cX10_plan 62 = .ok (.if_icmp .ge 160, 3) := by decide +kernel
theorem dX10_plan_65 : decode cX10_plan 65 = .ok (.aload_n 0, 1) := by decide +kernel
theorem dX10_plan_66 : decode cX10_plan 66 = .ok (.getfield 51, 3) := by decide +kernel
theorem dX10_plan_69 : decode cX10_plan 69 = .ok (.iload_n 1, 1) := by decide +kernel
theorem dX10_plan_70 : decode cX10_plan 70 = .ok (.aaload, 1) := by decide +kernel
theorem dX10_plan_71 : decode cX10_plan 71 = .ok (.iload 4, 2) := by decide +kernel
theorem dX10_plan_73 : decode cX10_plan 73 = .ok (.iaload, 1) := by decide +kernel
theorem dX10_plan_74 : decode cX10_plan 74 = .ok (.istore 5, 2) := by decide +kernel
theorem dX10_plan_76 : decode cX10_plan 76 = .ok (.iload 5, 2) := by decide +kernel
theorem dX10_plan_78 : decode cX10_plan 78 = .ok (.ifCond .le 61, 3) := by decide +kernel
theorem dX10_plan_81 : decode cX10_plan 81 = .ok (.iload 5, 2) := by decide +kernel
theorem dX10_plan_83 : decode cX10_plan 83 = .ok (.bipush 40, 2) := by decide +kernel
theorem dX10_plan_85 : decode cX10_plan 85 = .ok (.if_icmp .le 8, 3) := by decide +kernel
theorem dX10_plan_88 : decode cX10_plan 88 = .ok (.bipush (-2), 2) := by decide +kernel
theorem dX10_plan_90 : decode cX10_plan 90 = .ok (.goto 10, 3) := by decide +kernel
theorem dX10_plan_93 : decode cX10_plan 93 = .ok (.aload_n 0, 1) := by decide +kernel
theorem dX10_plan_94 : decode cX10_plan 94 = .ok (.iload_n 2, 1) := by decide +kernel
theorem dX10_plan_95 : decode cX10_plan 95 = .ok (.iload 5, 2) := by decide +kernel
theorem dX10_plan_97 : decode cX10_plan 97 = .ok (.invokevirtual 82, 3) := by decide +kernel
theorem dX10_plan_100 : decode cX10_plan 100 = .ok (.istore 6, 2) := by decide +kernel
theorem dX10_plan_102 : decode cX10_plan 102 = .ok (.iload 6, 2) := by decide +kernel
theorem dX10_plan_104 : decode cX10_plan 104 = .ok (.ifCond .ge 6, 3) := by decide +kernel
theorem dX10_plan_107 : decode cX10_plan 107 = .ok (.iload 4, 2) := by decide +kernel
theorem dX10_plan_109 : decode cX10_plan 109 = .ok (.ireturn, 1) := by decide +kernel
theorem dX10_plan_110 : decode cX10_plan 110 = .ok (.aload_n 0, 1) := by decide +kernel
theorem dX10_plan_111 : decode cX10_plan 111 = .ok (.iload 6, 2) := by decide +kernel
theorem dX10_plan_113 : decode cX10_plan 113 = .ok (.iload 5, 2) := by decide +kernel
theorem dX10_plan_115 : decode cX10_plan 115 = .ok (.iconst 0, 1) := by decide +kernel
theorem dX10_plan_116 : decode cX10_plan 116 = .ok (.invokevirtual 149, 3) := by decide +kernel
theorem dX10_plan_119 : decode cX10_plan 119 = .ok (.aload_n 0, 1) := by decide +kernel
theorem dX10_plan_120 : decode cX10_plan 120 = .ok (.getfield 28, 3) := by decide +kernel
theorem dX10_plan_123 : decode cX10_plan 123 = .ok (.iload_n 3, 1) := by decide +kernel
theorem dX10_plan_124 : decode cX10_plan 124 = .ok (.iinc 3 1, 3) := by decide +kernel
theorem dX10_plan_127 : decode cX10_plan 127 = .ok (.bipush 100, 2) := by decide +kernel
theorem dX10_plan_129 : decode cX10_plan 129 = .ok (.iload 6, 2) := by decide +kernel
theorem dX10_plan_131 : decode cX10_plan 131 = .ok (.imul, 1) := by decide +kernel
theorem dX10_plan_132 : decode cX10_plan 132 = .ok (.iload 5, 2) := by decide +kernel
theorem dX10_plan_134 : decode cX10_plan 134 = .ok (.iadd, 1) := by decide +kernel
theorem dX10_plan_135 : decode cX10_plan 135 = .ok (.iastore, 1) := by decide +kernel
theorem dX10_plan_136 : decode cX10_plan 136 = .ok (.goto 80, 3) := by decide +kernel
theorem dX10_plan_139 : decode cX10_plan 139 = .ok (.iload 5, 2) := by decide +kernel
theorem dX10_plan_141 : decode cX10_plan 141 = .ok (.iload_n 3, 1) := by decide +kernel
theorem dX10_plan_142 : decode cX10_plan 142 = .ok (.ineg, 1) := by decide +kernel
theorem dX10_plan_143 : decode cX10_plan 143 = .ok (.if_icmp .lt 8, 3) := by decide +kernel
theorem dX10_plan_146 : decode cX10_plan 146 = .ok (.iload 5, 2) := by decide +kernel
theorem dX10_plan_148 : decode cX10_plan 148 = .ok (.ifCond .ne 8, 3) := by decide +kernel
theorem dX10_plan_151 : decode cX10_plan 151 = .ok (.bipush (-2), 2) := by decide +kernel
theorem dX10_plan_153 : decode cX10_plan 153 = .ok (.goto 8, 3) := by decide +kernel
theorem dX10_plan_156 : decode cX10_plan 156 = .ok (.iload 5, 2) := by decide +kernel
theorem dX10_plan_158 : decode cX10_plan 158 = .ok (.ineg, 1) := by decide +kernel
theorem dX10_plan_159 : decode cX10_plan 159 = .ok (.iconst 1, 1) := by decide +kernel
theorem dX10_plan_160 : decode cX10_plan 160 = .ok (.isub, 1) := by decide +kernel
theorem dX10_plan_161 : decode cX10_plan 161 = .ok (.istore 6, 2) := by decide +kernel
theorem dX10_plan_163 : decode cX10_plan 163 = .ok (.iload 6, 2) := by decide +kernel
theorem dX10_plan_165 : decode cX10_plan 165 = .ok (.ifCond .lt 13, 3) := by decide +kernel
theorem dX10_plan_168 : decode cX10_plan 168 = .ok (.aload_n 0, 1) := by decide +kernel
theorem dX10_plan_169 : decode cX10_plan 169 = .ok (.getfield 28, 3) := by decide +kernel
theorem dX10_plan_172 : decode cX10_plan 172 = .ok (.iload 6, 2) := by decide +kernel
theorem dX10_plan_174 : decode cX10_plan 174 = .ok (.iaload, 1) := by decide +kernel
theorem dX10_plan_175 : decode cX10_plan 175 = .ok (.ifCond .ge 6, 3) := by decide +kernel
theorem dX10_plan_178 : decode cX10_plan 178 = .ok (.iload 4, 2) := by decide +kernel
theorem dX10_plan_180 : decode cX10_plan 180 = .ok (.ireturn, 1) := by decide +kernel
theorem dX10_plan_181 : decode cX10_plan 181 = .ok (.aload_n 0, 1) := by decide +kernel
theorem dX10_plan_182 : decode cX10_plan 182 = .ok (.aload_n 0, 1) := by decide +kernel
theorem dX10_plan_183 : decode cX10_plan 183 = .ok (.getfield 28, 3) := by decide +kernel
theorem dX10_plan_186 : decode cX10_plan 186 = .ok (.iload 6, 2) := by decide +kernel
theorem dX10_plan_188 : decode cX10_plan 188 = .ok (.iaload, 1) := by decide +kernel
theorem dX10_plan_189 : decode cX10_plan 189 = .ok (.bipush 100, 2) := by decide +kernel
theorem dX10_plan_191 : decode cX10_plan 191 = .ok (.idiv, 1) := by decide +kernel
theorem dX10_plan_192 : decode cX10_plan 192 = .ok (.aload_n 0, 1) := by decide +kernel
theorem dX10_plan_193 : decode cX10_plan 193 = .ok (.getfield 28, 3) := by decide +kernel
theorem dX10_plan_196 : decode cX10_plan 196 = .ok (.iload 6, 2) := by decide +kernel
theorem dX10_plan_198 : decode cX10_plan 198 = .ok (.iaload, 1) := by decide +kernel
theorem dX10_plan_199 : decode cX10_plan 199 = .ok (.bipush 100, 2) := by decide +kernel
theorem dX10_plan_201 : decode cX10_plan 201 = .ok (.irem, 1) := by decide +kernel
theorem dX10_plan_202 : decode cX10_plan 202 = .ok (.bipush 100, 2) := by decide +kernel
theorem dX10_plan_204 : decode cX10_plan 204 = .ok (.invokevirtual 149, 3) := by decide +kernel
theorem dX10_plan_207 : decode cX10_plan 207 = .ok (.aload_n 0, 1) := by decide +kernel
theorem dX10_plan_208 : decode cX10_plan 208 = .ok (.getfield 28, 3) := by decide +kernel
theorem dX10_plan_211 : decode cX10_plan 211 = .ok (.iload 6, 2) := by decide +kernel
theorem dX10_plan_213 : decode cX10_plan 213 = .ok (.bipush (-2), 2) := by decide +kernel
theorem dX10_plan_215 : decode cX10_plan 215 = .ok (.iastore, 1) := by decide +kernel
theorem dX10_plan_216 : decode cX10_plan 216 = .ok (.iinc 4 1, 3) := by decide +kernel
theorem dX10_plan_219 : decode cX10_plan 219 = .ok (.goto (-165), 3) := by decide +kernel
theorem dX10_plan_222 : decode cX10_plan 222 = .ok (.bipush (-2), 2) := by decide +kernel
theorem dX10_plan_224 : decode cX10_plan 224 = .ok (.ireturn, 1) := by decide +kernel
theorem dX10_told_0 : decode cX10_told 0 = .ok (.aload_n 0, 1) := by decide +kernel
theorem dX10_told_1 : decode cX10_told 1 = .ok (.iload_n 1, 1) := by decide +kernel
theorem dX10_told_2 : decode cX10_told 2 = .ok (.invokevirtual 146, 3) := by decide +kernel
theorem dX10_told_5 : decode cX10_told 5 = .ok (.ifCond .ne 5, 3) := by decide +kernel
theorem dX10_told_8 : decode cX10_told 8 = .ok (.iconst (-1), 1) := by decide +kernel
theorem dX10_told_9 : decode cX10_told 9 = .ok (.ireturn, 1) := by decide +kernel
theorem dX10_told_10 : decode cX10_told 10 = .ok (.aload_n 0, 1) := by decide +kernel
theorem dX10_told_11 : decode cX10_told 11 = .ok (.getfield 40, 3) := by decide +kernel
theorem dX10_told_14 : decode cX10_told 14 = .ok (.iload_n 1, 1) := by decide +kernel
theorem dX10_told_15 : decode cX10_told 15 = .ok (.iaload, 1) := by decide +kernel
theorem dX10_told_16 : decode cX10_told 16 = .ok (.iconst 2, 1) := by decide +kernel
theorem dX10_told_17 : decode cX10_told 17 = .ok (.if_icmp .eq 20, 3) := by decide +kernel
theorem dX10_told_20 : decode cX10_told 20 = .ok (.aload_n 0, 1) := by decide +kernel
theorem dX10_told_21 : decode cX10_told 21 = .ok (.getfield 40, 3) := by decide +kernel
theorem dX10_told_24 : decode cX10_told 24 = .ok (.iload_n 1, 1) := by decide +kernel
theorem dX10_told_25 : decode cX10_told 25 = .ok (.iaload, 1) := by decide +kernel
theorem dX10_told_26 : decode cX10_told 26 = .ok (.ifCond .ne 8, 3) := by decide +kernel
theorem dX10_told_29 : decode cX10_told 29 = .ok (.bipush (-11), 2) := by decide +kernel
theorem dX10_told_31 : decode cX10_told 31 = .ok (.goto 5, 3) := by decide +kernel
theorem dX10_told_34 : decode cX10_told 34 = .ok (.bipush (-12), 2) := by decide +kernel
theorem dX10_told_36 : decode cX10_told 36 = .ok (.ireturn, 1) := by decide +kernel
theorem dX10_told_37 : decode cX10_told 37 = .ok (.aload_n 0, 1) := by decide +kernel
theorem dX10_told_38 : decode cX10_told 38 = .ok (.iload_n 2, 1) := by decide +kernel
theorem dX10_told_39 : decode cX10_told 39 = .ok (.invokevirtual 96, 3) := by decide +kernel
theorem dX10_told_42 : decode cX10_told 42 = .ok (.istore_n 3, 1) := by decide +kernel
theorem dX10_told_43 : decode cX10_told 43 = .ok (.iload_n 3, 1) := by decide +kernel
theorem dX10_told_44 : decode cX10_told 44 = .ok (.ifCond .ge 6, 3) := by decide +kernel
theorem dX10_told_47 : decode cX10_told 47 = .ok (.bipush (-4), 2) := by decide +kernel
theorem dX10_told_49 : decode cX10_told 49 = .ok (.ireturn, 1) := by decide +kernel
theorem dX10_told_50 : decode cX10_told 50 = .ok (.iconst 0, 1) := by decide +kernel
theorem dX10_told_51 : decode cX10_told 51 = .ok (.istore 4, 2) := by decide +kernel
theorem dX10_told_53 : decode cX10_told 53 = .ok (.iload 4, 2) := by decide +kernel
theorem dX10_told_55 : decode cX10_told 55 = .ok (.aload_n 0, 1) := by decide +kernel
theorem dX10_told_56 : decode cX10_told 56 = .ok (.getfield 46, 3) := by decide +kernel
theorem dX10_told_59 : decode cX10_told 59 = .ok (.iload_n 1, 1) := by decide +kernel
theorem dX10_told_60 : decode cX10_told 60 = .ok (.iaload, 1) := by decide +kernel
theorem dX10_told_61 : decode cX10_told 61 = .ok (.if_icmp .ge 42, 3) := by decide +kernel
theorem dX10_told_64 : decode cX10_told 64 = .ok (.iload 4, 2) := by decide +kernel
theorem dX10_told_66 : decode cX10_told 66 = .ok (.aload_n 0, 1) := by decide +kernel
theorem dX10_told_67 : decode cX10_told 67 = .ok (.iload_n 3, 1) := by decide +kernel
theorem dX10_told_68 : decode cX10_told 68 = .ok (.iconst 3, 1) := by decide +kernel
theorem dX10_told_69 : decode cX10_told 69 = .ok (.invokevirtual 57, 3) := by decide +kernel
theorem dX10_told_72 : decode cX10_told 72 = .ok (.if_icmp .ge 22, 3) := by decide +kernel
theorem dX10_told_75 : decode cX10_told 75 = .ok (.aload_n 0, 1) := by decide +kernel
theorem dX10_told_76 : decode cX10_told 76 = .ok (.iload_n 3, 1) := by decide +kernel
theorem dX10_told_77 : decode cX10_told 77 = .ok (.iload 4, 2) := by decide +kernel
theorem dX10_told_79 : decode cX10_told 79 = .ok (.invokevirtual 115, 3) := by decide +kernel
theorem dX10_told_82 : decode cX10_told 82 = .ok (.aload_n 0, 1) := by decide +kernel
theorem dX10_told_83 : decode cX10_told 83 = .ok (.getfield 51, 3) := by decide +kernel
theorem dX10_told_86 : decode cX10_told 86 = .ok (.iload_n 1, 1) := by decide +kernel
theorem dX10_told_87 : decode cX10_told 87 = .ok (.aaload, 1) := by decide +kernel
theorem dX10_told_88 : decode cX10_told 88 = .ok (.iload 4, 2) := by decide +kernel
theorem dX10_told_90 : decode cX10_told 90 = .ok (.iaload, 1) := by decide +kernel
theorem dX10_told_91 : decode cX10_told 91 = .ok (.if_icmp .eq 6, 3) := by decide +kernel
theorem dX10_told_94 : decode cX10_told 94 = .ok (.iload 4, 2) := by decide +kernel
theorem dX10_told_96 : decode cX10_told 96 = .ok (.ireturn, 1) := by decide +kernel
theorem dX10_told_97 : decode cX10_told 97 = .ok (.iinc 4 1, 3) := by decide +kernel
theorem dX10_told_100 : decode cX10_told 100 = .ok (.goto (-47), 3) := by decide +kernel
theorem dX10_told_103 : decode cX10_told 103 = .ok (.aload_n 0, 1) := by decide +kernel
theorem dX10_told_104 : decode cX10_told 104 = .ok (.iload_n 3, 1) := by decide +kernel
theorem dX10_told_105 : decode cX10_told 105 = .ok (.iconst 3, 1) := by decide +kernel
theorem dX10_told_106 : decode cX10_told 106 = .ok (.invokevirtual 57, 3) := by decide +kernel
theorem dX10_told_109 : decode cX10_told 109 = .ok (.aload_n 0, 1) := by decide +kernel
theorem dX10_told_110 : decode cX10_told 110 = .ok (.getfield 46, 3) := by decide +kernel
theorem dX10_told_113 : decode cX10_told 113 = .ok (.iload_n 1, 1) := by decide +kernel
theorem dX10_told_114 : decode cX10_told 114 = .ok (.iaload, 1) := by decide +kernel
theorem dX10_told_115 : decode cX10_told 115 = .ok (.if_icmp .le 12, 3) := by decide +kernel
theorem dX10_told_118 : decode cX10_told 118 = .ok (.aload_n 0, 1) := by decide +kernel
theorem dX10_told_119 : decode cX10_told 119 = .ok (.getfield 46, 3) := by decide +kernel
theorem dX10_told_122 : decode cX10_told 122 = .ok (.iload_n 1, 1) := by decide +kernel
theorem dX10_told_123 : decode cX10_told 123 = .ok (.iaload, 1) := by decide +kernel
theorem dX10_told_124 : decode cX10_told 124 = .ok (.goto 5, 3) := by decide +kernel
theorem dX10_told_127 : decode cX10_told 127 = .ok (.bipush (-2), 2) := by decide +kernel
theorem dX10_told_129 : decode cX10_told 129 = .ok (.ireturn, 1) := by decide +kernel
theorem dX10_feed_0 : decode cX10_feed 0 = .ok (.iload_n 1, 1) := by decide +kernel
theorem dX10_feed_1 : decode cX10_feed 1 = .ok (.iconst 0, 1) := by decide +kernel
theorem dX10_feed_2 : decode cX10_feed 2 = .ok (.sipush 255, 3) := by decide +kernel
theorem dX10_feed_5 : decode cX10_feed 5 = .ok (.invokestatic 65, 3) := by decide +kernel
theorem dX10_feed_8 : decode cX10_feed 8 = .ok (.ifCond .ne 5, 3) := by decide +kernel
theorem dX10_feed_11 : decode cX10_feed 11 = .ok (.iconst (-1), 1) := by decide +kernel
theorem dX10_feed_12 : decode cX10_feed 12 = .ok (.ireturn, 1) := by decide +kernel
theorem dX10_feed_13 : decode cX10_feed 13 = .ok (.aload_n 0, 1) := by decide +kernel
theorem dX10_feed_14 : decode cX10_feed 14 = .ok (.getfield 152, 3) := by decide +kernel
theorem dX10_feed_17 : decode cX10_feed 17 = .ok (.bipush 120, 2) := by decide +kernel
theorem dX10_feed_19 : decode cX10_feed 19 = .ok (.if_icmp .ne 6, 3) := by decide +kernel
theorem dX10_feed_22 : decode cX10_feed 22 = .ok (.bipush (-3), 2) := by decide +kernel
theorem dX10_feed_24 : decode cX10_feed 24 = .ok (.ireturn, 1) := by decide +kernel
theorem dX10_feed_25 : decode cX10_feed 25 = .ok (.aload_n 0, 1) := by decide +kernel
theorem dX10_feed_26 : decode cX10_feed 26 = .ok (.getfield 37, 3) := by decide +kernel
theorem dX10_feed_29 : decode cX10_feed 29 = .ok (.aload_n 0, 1) := by decide +kernel
theorem dX10_feed_30 : decode cX10_feed 30 = .ok (.dup, 1) := by decide +kernel
theorem dX10_feed_31 : decode cX10_feed 31 = .ok (.getfield 152, 3) := by decide +kernel
theorem dX10_feed_34 : decode cX10_feed 34 = .ok (.dup_x1, 1) := by decide +kernel
theorem dX10_feed_35 : decode cX10_feed 35 = .ok (.iconst 1, 1) := by decide +kernel
theorem dX10_feed_36 : decode cX10_feed 36 = .ok (.iadd, 1) := by decide +kernel
theorem dX10_feed_37 : decode cX10_feed 37 = .ok (.putfield 152, 3) := by decide +kernel
theorem dX10_feed_40 : decode cX10_feed 40 = .ok (.iload_n 1, 1) := by decide +kernel
theorem dX10_feed_41 : decode cX10_feed 41 = .ok (.iastore, 1) := by decide +kernel
theorem dX10_feed_42 : decode cX10_feed 42 = .ok (.aload_n 0, 1) := by decide +kernel
theorem dX10_feed_43 : decode cX10_feed 43 = .ok (.getfield 152, 3) := by decide +kernel
theorem dX10_feed_46 : decode cX10_feed 46 = .ok (.ireturn, 1) := by decide +kernel
theorem dX10_sees_0 : decode cX10_sees 0 = .ok (.aload_n 0, 1) := by decide +kernel
theorem dX10_sees_1 : decode cX10_sees 1 = .ok (.getfield 156, 3) := by decide +kernel
theorem dX10_sees_4 : decode cX10_sees 4 = .ok (.ifCond .ge 35, 3) := by decide +kernel
theorem dX10_sees_7 : decode cX10_sees 7 = .ok (.aload_n 0, 1) := by decide +kernel
theorem dX10_sees_8 : decode cX10_sees 8 = .ok (.getfield 159, 3) := by decide +kernel
theorem dX10_sees_11 : decode cX10_sees 11 = .ok (.aload_n 0, 1) := by decide +kernel
theorem dX10_sees_12 : decode cX10_sees 12 = .ok (.getfield 152, 3) := by decide +kernel
theorem dX10_sees_15 : decode cX10_sees 15 = .ok (.if_icmp .ge 24, 3) := by decide +kernel
theorem dX10_sees_18 : decode cX10_sees 18 = .ok (.aload_n 0, 1) := by decide +kernel
theorem dX10_sees_19 : decode cX10_sees 19 = .ok (.getfield 37, 3) := by decide +kernel
theorem dX10_sees_22 : decode cX10_sees 22 = .ok (.aload_n 0, 1) := by decide +kernel
theorem dX10_sees_23 : decode cX10_sees 23 = .ok (.getfield 159, 3) := by decide +kernel
theorem dX10_sees_26 : decode cX10_sees 26 = .ok (.iaload, 1) := by decide +kernel
theorem dX10_sees_27 : decode cX10_sees 27 = .ok (.iload_n 1, 1) := by decide +kernel
theorem dX10_sees_28 : decode cX10_sees 28 = .ok (.iload_n 2, 1) := by decide +kernel
theorem dX10_sees_29 : decode cX10_sees 29 = .ok (.invokestatic 65, 3) := by decide +kernel
theorem dX10_sees_32 : decode cX10_sees 32 = .ok (.ifCond .eq 7, 3) := by decide +kernel
theorem dX10_sees_35 : decode cX10_sees 35 = .ok (.iconst 1, 1) := by decide +kernel
theorem dX10_sees_36 : decode cX10_sees 36 = .ok (.goto 4, 3) := by decide +kernel
theorem dX10_sees_39 : decode cX10_sees 39 = .ok (.iconst 0, 1) := by decide +kernel
theorem dX10_sees_40 : decode cX10_sees 40 = .ok (.ireturn, 1) := by decide +kernel
theorem dX10_must_0 : decode cX10_must 0 = .ok (.aload_n 0, 1) := by decide +kernel
theorem dX10_must_1 : decode cX10_must 1 = .ok (.iload_n 1, 1) := by decide +kernel
theorem dX10_must_2 : decode cX10_must 2 = .ok (.iload_n 2, 1) := by decide +kernel
theorem dX10_must_3 : decode cX10_must 3 = .ok (.invokevirtual 162, 3) := by decide +kernel
theorem dX10_must_6 : decode cX10_must 6 = .ok (.ifCond .ne 27, 3) := by decide +kernel
theorem dX10_must_9 : decode cX10_must 9 = .ok (.aload_n 0, 1) := by decide +kernel
theorem dX10_must_10 : decode cX10_must 10 = .ok (.aload_n 0, 1) := by decide +kernel
theorem dX10_must_11 : decode cX10_must 11 = .ok (.getfield 156, 3) := by decide +kernel
theorem dX10_must_14 : decode cX10_must 14 = .ok (.ifCond .ge 10, 3) := by decide +kernel
theorem dX10_must_17 : decode cX10_must 17 = .ok (.aload_n 0, 1) := by decide +kernel
theorem dX10_must_18 : decode cX10_must 18 = .ok (.getfield 159, 3) := by decide +kernel
theorem dX10_must_21 : decode cX10_must 21 = .ok (.goto 7, 3) := by decide +kernel
theorem dX10_must_24 : decode cX10_must 24 = .ok (.aload_n 0, 1) := by decide +kernel
theorem dX10_must_25 : decode cX10_must 25 = .ok (.getfield 156, 3) := by decide +kernel
theorem dX10_must_28 : decode cX10_must 28 = .ok (.putfield 156, 3) := by decide +kernel
theorem dX10_must_31 : decode cX10_must 31 = .ok (.iload_n 1, 1) := by decide +kernel
theorem dX10_must_32 : decode cX10_must 32 = .ok (.ireturn, 1) := by decide +kernel
theorem dX10_must_33 : decode cX10_must 33 = .ok (.aload_n 0, 1) := by decide +kernel
theorem dX10_must_34 : decode cX10_must 34 = .ok (.getfield 37, 3) := by decide +kernel
theorem dX10_must_37 : decode cX10_must 37 = .ok (.aload_n 0, 1) := by decide +kernel
theorem dX10_must_38 : decode cX10_must 38 = .ok (.dup, 1) := by decide +kernel
theorem dX10_must_39 : decode cX10_must 39 = .ok (.getfield 159, 3) := by decide +kernel
theorem dX10_must_42 : decode cX10_must 42 = .ok (.dup_x1, 1) := by decide +kernel
theorem dX10_must_43 : decode cX10_must 43 = .ok (.iconst 1, 1) := by decide +kernel
theorem dX10_must_44 : decode cX10_must 44 = .ok (.iadd, 1) := by decide +kernel
theorem dX10_must_45 : decode cX10_must 45 = .ok (.putfield 159, 3) := by decide +kernel
theorem dX10_must_48 : decode cX10_must 48 = .ok (.iaload, 1) := by decide +kernel
theorem dX10_must_49 : decode cX10_must 49 = .ok (.ireturn, 1) := by decide +kernel
theorem dX10_number_0 : decode cX10_number 0 = .ok (.aload_n 0, 1) := by decide +kernel
theorem dX10_number_1 : decode cX10_number 1 = .ok (.bipush 32, 2) := by decide +kernel
theorem dX10_number_3 : decode cX10_number 3 = .ok (.bipush 32, 2) := by decide +kernel
theorem dX10_number_5 : decode cX10_number 5 = .ok (.invokevirtual 165, 3) := by decide +kernel
theorem dX10_number_8 : decode cX10_number 8 = .ok (.pop, 1) := by decide +kernel
theorem dX10_number_9 : decode cX10_number 9 = .ok (.aload_n 0, 1) := by decide +kernel
theorem dX10_number_10 : decode cX10_number 10 = .ok (.bipush 48, 2) := by decide +kernel
theorem dX10_number_12 : decode cX10_number 12 = .ok (.bipush 57, 2) := by decide +kernel
theorem dX10_number_14 : decode cX10_number 14 = .ok (.invokevirtual 165, 3) := by decide +kernel
theorem dX10_number_17 : decode cX10_number 17 = .ok (.bipush 48, 2) := by decide +kernel
theorem dX10_number_19 : decode cX10_number 19 = .ok (.isub, 1) := by decide +kernel
theorem dX10_number_20 : decode cX10_number 20 = .ok (.istore_n 1, 1) := by decide +kernel
theorem dX10_number_21 : decode cX10_number 21 = .ok (.iconst 0, 1) := by decide +kernel
theorem dX10_number_22 : decode cX10_number 22 = .ok (.istore_n 2, 1) := by decide +kernel
theorem dX10_number_23 : decode cX10_number 23 = .ok (.iload_n 2, 1) := by decide +kernel
theorem dX10_number_24 : decode cX10_number 24 = .ok (.iconst 2, 1) := by decide +kernel
theorem dX10_number_25 : decode cX10_number 25 = .ok (.if_icmp .ge 45, 3) := by decide +kernel
theorem dX10_number_28 : decode cX10_number 28 = .ok (.aload_n 0, 1) := by decide +kernel
theorem dX10_number_29 : decode cX10_number 29 = .ok (.bipush 48, 2) := by decide +kernel
theorem dX10_number_31 : decode cX10_number 31 = .ok (.bipush 57, 2) := by decide +kernel
theorem dX10_number_33 : decode cX10_number 33 = .ok (.invokevirtual 162, 3) := by decide +kernel
theorem dX10_number_36 : decode cX10_number 36 = .ok (.ifCond .eq 34, 3) := by decide +kernel
theorem dX10_number_39 : decode cX10_number 39 = .ok (.bipush 10, 2) := by decide +kernel
theorem dX10_number_41 : decode cX10_number 41 = .ok (.iload_n 1, 1) := by decide +kernel
theorem dX10_number_42 : decode cX10_number 42 = .ok (.imul, 1) := by decide +kernel
theorem dX10_number_43 : decode cX10_number 43 = .ok (.aload_n 0, 1) := by decide +kernel
theorem dX10_number_44 : decode cX10_number 44 = .ok (.getfield 37, 3) := by decide +kernel
theorem dX10_number_47 : decode cX10_number 47 = .ok (.aload_n 0, 1) := by decide +kernel
theorem dX10_number_48 : decode cX10_number 48 = .ok (.dup, 1) := by decide +kernel
theorem dX10_number_49 : decode cX10_number 49 = .ok (.getfield 159, 3) := by decide +kernel
theorem dX10_number_52 : decode cX10_number 52 = .ok (.dup_x1, 1) := by decide +kernel
theorem dX10_number_53 : decode cX10_number 53 = .ok (.iconst 1, 1) := by decide +kernel
theorem dX10_number_54 : decode cX10_number 54 = .ok (.iadd, 1) := by decide +kernel
theorem dX10_number_55 : decode cX10_number 55 = .ok (.putfield 159, 3) := by decide +kernel
theorem dX10_number_58 : decode cX10_number 58 = .ok (.iaload, 1) := by decide +kernel
theorem dX10_number_59 : decode cX10_number 59 = .ok (.iadd, 1) := by decide +kernel
theorem dX10_number_60 : decode cX10_number 60 = .ok (.bipush 48, 2) := by decide +kernel
theorem dX10_number_62 : decode cX10_number 62 = .ok (.isub, 1) := by decide +kernel
theorem dX10_number_63 : decode cX10_number 63 = .ok (.istore_n 1, 1) := by decide +kernel
theorem dX10_number_64 : decode cX10_number 64 = .ok (.iinc 2 1, 3) := by decide +kernel
theorem dX10_number_67 : decode cX10_number 67 = .ok (.goto (-44), 3) := by decide +kernel
theorem dX10_number_70 : decode cX10_number 70 = .ok (.iload_n 1, 1) := by decide +kernel
theorem dX10_number_71 : decode cX10_number 71 = .ok (.ireturn, 1) := by decide +kernel
theorem dX10_manyOf_0 : decode cX10_manyOf 0 = .ok (.iload_n 0, 1) := by decide +kernel
theorem dX10_manyOf_1 : decode cX10_manyOf 1 = .ok (.tableswitch 103 98 117 #[95, 103, 103, 101, 99, 103, 103, 99, 103, 103, 103, 97, 103, 99, 99, 103, 97, 103, 95, 99], 95) := by decide +kernel
theorem dX10_manyOf_96 : decode cX10_manyOf 96 = .ok (.iconst 3, 1) := by decide +kernel
theorem dX10_manyOf_97 : decode cX10_manyOf 97 = .ok (.ireturn, 1) := by decide +kernel
theorem dX10_manyOf_98 : decode cX10_manyOf 98 = .ok (.iconst 2, 1) := by decide +kernel
theorem dX10_manyOf_99 : decode cX10_manyOf 99 = .ok (.ireturn, 1) := by decide +kernel
theorem dX10_manyOf_100 : decode cX10_manyOf 100 = .ok (.iconst 1, 1) := by decide +kernel
theorem dX10_manyOf_101 : decode cX10_manyOf 101 = .ok (.ireturn, 1) := by decide +kernel
theorem dX10_manyOf_102 : decode cX10_manyOf 102 = .ok (.iconst 0, 1) := by decide +kernel
theorem dX10_manyOf_103 : decode cX10_manyOf 103 = .ok (.ireturn, 1) := by decide +kernel
theorem dX10_manyOf_104 : decode cX10_manyOf 104 = .ok (.bipush (-2), 2) := by decide +kernel
theorem dX10_manyOf_106 : decode cX10_manyOf 106 = .ok (.ireturn, 1) := by decide +kernel
theorem dX10_line_0 : decode cX10_line 0 = .ok (.aload_n 0, 1) := by decide +kernel
theorem dX10_line_1 : decode cX10_line 1 = .ok (.getfield 156, 3) := by decide +kernel
theorem dX10_line_4 : decode cX10_line 4 = .ok (.ifCond .ge 26, 3) := by decide +kernel
theorem dX10_line_7 : decode cX10_line 7 = .ok (.aload_n 0, 1) := by decide +kernel
theorem dX10_line_8 : decode cX10_line 8 = .ok (.getfield 159, 3) := by decide +kernel
theorem dX10_line_11 : decode cX10_line 11 = .ok (.aload_n 0, 1) := by decide +kernel
theorem dX10_line_12 : decode cX10_line 12 = .ok (.getfield 152, 3) := by decide +kernel
theorem dX10_line_15 : decode cX10_line 15 = .ok (.if_icmp .ge 15, 3) := by decide +kernel
theorem dX10_line_18 : decode cX10_line 18 = .ok (.aload_n 0, 1) := by decide +kernel
theorem dX10_line_19 : decode cX10_line 19 = .ok (.getfield 37, 3) := by decide +kernel
theorem dX10_line_22 : decode cX10_line 22 = .ok (.aload_n 0, 1) := by decide +kernel
theorem dX10_line_23 : decode cX10_line 23 = .ok (.getfield 159, 3) := by decide +kernel
theorem dX10_line_26 : decode cX10_line 26 = .ok (.iaload, 1) := by decide +kernel
theorem dX10_line_27 : decode cX10_line 27 = .ok (.goto 4, 3) := by decide +kernel
theorem dX10_line_30 : decode cX10_line 30 = .ok (.iconst 0, 1) := by decide +kernel
theorem dX10_line_31 : decode cX10_line 31 = .ok (.istore_n 1, 1) := by decide +kernel
theorem dX10_line_32 : decode cX10_line 32 = .ok (.iload_n 1, 1) := by decide +kernel
theorem dX10_line_33 : decode cX10_line 33 = .ok (.invokestatic 168, 3) := by decide +kernel
theorem dX10_line_36 : decode cX10_line 36 = .ok (.istore_n 2, 1) := by decide +kernel
theorem dX10_line_37 : decode cX10_line 37 = .ok (.iload_n 2, 1) := by decide +kernel
theorem dX10_line_38 : decode cX10_line 38 = .ok (.ifCond .ge 27, 3) := by decide +kernel
theorem dX10_line_41 : decode cX10_line 41 = .ok (.aload_n 0, 1) := by decide +kernel
theorem dX10_line_42 : decode cX10_line 42 = .ok (.aload_n 0, 1) := by decide +kernel
theorem dX10_line_43 : decode cX10_line 43 = .ok (.getfield 156, 3) := by decide +kernel
theorem dX10_line_46 : decode cX10_line 46 = .ok (.ifCond .ge 10, 3) := by decide +kernel
theorem dX10_line_49 : decode cX10_line 49 = .ok (.aload_n 0, 1) := by decide +kernel
theorem dX10_line_50 : decode cX10_line 50 = .ok (.getfield 159, 3) := by decide +kernel
theorem dX10_line_53 : decode cX10_line 53 = .ok (.goto 7, 3) := by decide +kernel
theorem dX10_line_56 : decode cX10_line 56 = .ok (.aload_n 0, 1) := by decide +kernel
theorem dX10_line_57 : decode cX10_line 57 = .ok (.getfield 156, 3) := by decide +kernel
theorem dX10_line_60 : decode cX10_line 60 = .ok (.putfield 156, 3) := by decide +kernel
theorem dX10_line_63 : decode cX10_line 63 = .ok (.iconst 0, 1) := by decide +kernel
theorem dX10_line_64 : decode cX10_line 64 = .ok (.ireturn, 1) := by decide +kernel
theorem dX10_line_65 : decode cX10_line 65 = .ok (.aload_n 0, 1) := by decide +kernel
theorem dX10_line_66 : decode cX10_line 66 = .ok (.dup, 1) := by decide +kernel
theorem dX10_line_67 : decode cX10_line 67 = .ok (.getfield 159, 3) := by decide +kernel
theorem dX10_line_70 : decode cX10_line 70 = .ok (.iconst 1, 1) := by decide +kernel
theorem dX10_line_71 : decode cX10_line 71 = .ok (.iadd, 1) := by decide +kernel
theorem dX10_line_72 : decode cX10_line 72 = .ok (.putfield 159, 3) := by decide +kernel
theorem dX10_line_75 : decode cX10_line 75 = .ok (.iconst 0, 1) := by decide +kernel
theorem dX10_line_76 : decode cX10_line 76 = .ok (.istore_n 3, 1) := by decide +kernel
theorem dX10_line_77 : decode cX10_line 77 = .ok (.iload_n 3, 1) := by decide +kernel
theorem dX10_line_78 : decode cX10_line 78 = .ok (.iload_n 2, 1) := by decide +kernel
theorem dX10_line_79 : decode cX10_line 79 = .ok (.if_icmp .ge 19, 3) := by decide +kernel
theorem dX10_line_82 : decode cX10_line 82 = .ok (.aload_n 0, 1) := by decide +kernel
theorem dX10_line_83 : decode cX10_line 83 = .ok (.getfield 54, 3) := by decide +kernel
theorem dX10_line_86 : decode cX10_line 86 = .ok (.iload_n 3, 1) := by decide +kernel
theorem dX10_line_87 : decode cX10_line 87 = .ok (.aload_n 0, 1) := by decide +kernel
theorem dX10_line_88 : decode cX10_line 88 = .ok (.invokevirtual 171, 3) := by decide +kernel
theorem dX10_line_91 : decode cX10_line 91 = .ok (.iastore, 1) := by decide +kernel
theorem dX10_line_92 : decode cX10_line 92 = .ok (.iinc 3 1, 3) := by decide +kernel
theorem dX10_line_95 : decode cX10_line 95 = .ok (.goto (-18), 3) := by decide +kernel
theorem dX10_line_98 : decode cX10_line 98 = .ok (.iload_n 1, 1) := by decide +kernel
theorem dX10_line_99 : decode cX10_line 99 = .ok (.ireturn, 1) := by decide +kernel
theorem dX10_isForm_0 : decode cX10_isForm 0 = .ok (.aload_n 0, 1) := by decide +kernel
theorem dX10_isForm_1 : decode cX10_isForm 1 = .ok (.iconst 0, 1) := by decide +kernel
theorem dX10_isForm_2 : decode cX10_isForm 2 = .ok (.putfield 159, 3) := by decide +kernel
theorem dX10_isForm_5 : decode cX10_isForm 5 = .ok (.aload_n 0, 1) := by decide +kernel
theorem dX10_isForm_6 : decode cX10_isForm 6 = .ok (.iconst (-1), 1) := by decide +kernel
theorem dX10_isForm_7 : decode cX10_isForm 7 = .ok (.putfield 156, 3) := by decide +kernel
theorem dX10_isForm_10 : decode cX10_isForm 10 = .ok (.aload_n 0, 1) := by decide +kernel
theorem dX10_isForm_11 : decode cX10_isForm 11 = .ok (.invokevirtual 174, 3) := by decide +kernel
theorem dX10_isForm_14 : decode cX10_isForm 14 = .ok (.pop, 1) := by decide +kernel
theorem dX10_isForm_15 : decode cX10_isForm 15 = .ok (.aload_n 0, 1) := by decide +kernel
theorem dX10_isForm_16 : decode cX10_isForm 16 = .ok (.getfield 156, 3) := by decide +kernel
theorem dX10_isForm_19 : decode cX10_isForm 19 = .ok (.ifCond .ge 31, 3) := by decide +kernel
theorem dX10_isForm_22 : decode cX10_isForm 22 = .ok (.aload_n 0, 1) := by decide +kernel
theorem dX10_isForm_23 : decode cX10_isForm 23 = .ok (.getfield 159, 3) := by decide +kernel
theorem dX10_isForm_26 : decode cX10_isForm 26 = .ok (.aload_n 0, 1) := by decide +kernel
theorem dX10_isForm_27 : decode cX10_isForm 27 = .ok (.getfield 152, 3) := by decide +kernel
theorem dX10_isForm_30 : decode cX10_isForm 30 = .ok (.if_icmp .ge 20, 3) := by decide +kernel
theorem dX10_isForm_33 : decode cX10_isForm 33 = .ok (.aload_n 0, 1) := by decide +kernel
theorem dX10_isForm_34 : decode cX10_isForm 34 = .ok (.bipush 59, 2) := by decide +kernel
theorem dX10_isForm_36 : decode cX10_isForm 36 = .ok (.bipush 59, 2) := by decide +kernel
theorem dX10_isForm_38 : decode cX10_isForm 38 = .ok (.invokevirtual 165, 3) := by decide +kernel
theorem dX10_isForm_41 : decode cX10_isForm 41 = .ok (.pop, 1) := by decide +kernel
theorem dX10_isForm_42 : decode cX10_isForm 42 = .ok (.aload_n 0, 1) := by decide +kernel
theorem dX10_isForm_43 : decode cX10_isForm 43 = .ok (.invokevirtual 174, 3) := by decide +kernel
theorem dX10_isForm_46 : decode cX10_isForm 46 = .ok (.pop, 1) := by decide +kernel
theorem dX10_isForm_47 : decode cX10_isForm 47 = .ok (.goto (-32), 3) := by decide +kernel
theorem dX10_isForm_50 : decode cX10_isForm 50 = .ok (.aload_n 0, 1) := by decide +kernel
theorem dX10_isForm_51 : decode cX10_isForm 51 = .ok (.getfield 156, 3) := by decide +kernel
theorem dX10_isForm_54 : decode cX10_isForm 54 = .ok (.ifCond .ge 7, 3) := by decide +kernel
theorem dX10_isForm_57 : decode cX10_isForm 57 = .ok (.iconst 1, 1) := by decide +kernel
theorem dX10_isForm_58 : decode cX10_isForm 58 = .ok (.goto 4, 3) := by decide +kernel
theorem dX10_isForm_61 : decode cX10_isForm 61 = .ok (.iconst 0, 1) := by decide +kernel
theorem dX10_isForm_62 : decode cX10_isForm 62 = .ok (.ireturn, 1) := by decide +kernel
theorem dX10_goodOf_0 : decode cX10_goodOf 0 = .ok (.iload_n 1, 1) := by decide +kernel
theorem dX10_goodOf_1 : decode cX10_goodOf 1 = .ok (.iconst 0, 1) := by decide +kernel
theorem dX10_goodOf_2 : decode cX10_goodOf 2 = .ok (.bipush 29, 2) := by decide +kernel
theorem dX10_goodOf_4 : decode cX10_goodOf 4 = .ok (.invokestatic 65, 3) := by decide +kernel
theorem dX10_goodOf_7 : decode cX10_goodOf 7 = .ok (.ifCond .eq 19, 3) := by decide +kernel
theorem dX10_goodOf_10 : decode cX10_goodOf 10 = .ok (.aload_n 0, 1) := by decide +kernel
theorem dX10_goodOf_11 : decode cX10_goodOf 11 = .ok (.iload_n 1, 1) := by decide +kernel
theorem dX10_goodOf_12 : decode cX10_goodOf 12 = .ok (.invokevirtual 61, 3) := by decide +kernel
theorem dX10_goodOf_15 : decode cX10_goodOf 15 = .ok (.ifCond .eq 11, 3) := by decide +kernel
theorem dX10_goodOf_18 : decode cX10_goodOf 18 = .ok (.aload_n 0, 1) := by decide +kernel
theorem dX10_goodOf_19 : decode cX10_goodOf 19 = .ok (.iload_n 1, 1) := by decide +kernel
theorem dX10_goodOf_20 : decode cX10_goodOf 20 = .ok (.invokevirtual 93, 3) := by decide +kernel
theorem dX10_goodOf_23 : decode cX10_goodOf 23 = .ok (.goto 4, 3) := by decide +kernel
theorem dX10_goodOf_26 : decode cX10_goodOf 26 = .ok (.iconst (-1), 1) := by decide +kernel
theorem dX10_goodOf_27 : decode cX10_goodOf 27 = .ok (.ireturn, 1) := by decide +kernel
theorem dX10_does_0 : decode cX10_does 0 = .ok (.aload_n 0, 1) := by decide +kernel
theorem dX10_does_1 : decode cX10_does 1 = .ok (.getfield 54, 3) := by decide +kernel
theorem dX10_does_4 : decode cX10_does 4 = .ok (.iconst 0, 1) := by decide +kernel
theorem dX10_does_5 : decode cX10_does 5 = .ok (.iaload, 1) := by decide +kernel
theorem dX10_does_6 : decode cX10_does 6 = .ok (.istore_n 2, 1) := by decide +kernel
theorem dX10_does_7 : decode cX10_does 7 = .ok (.aload_n 0, 1) := by decide +kernel
theorem dX10_does_8 : decode cX10_does 8 = .ok (.getfield 54, 3) := by decide +kernel
theorem dX10_does_11 : decode cX10_does 11 = .ok (.iconst 1, 1) := by decide +kernel
theorem dX10_does_12 : decode cX10_does 12 = .ok (.iaload, 1) := by decide +kernel
theorem dX10_does_13 : decode cX10_does 13 = .ok (.istore_n 3, 1) := by decide +kernel
theorem dX10_does_14 : decode cX10_does 14 = .ok (.iload_n 1, 1) := by decide +kernel
theorem dX10_does_15 : decode cX10_does 15 = .ok (.tableswitch 213 98 117 #[100, 213, 213, 213, 113, 213, 213, 201, 213, 213, 213, 194, 213, 207, 123, 213, 93, 213, 145, 134], 93) := by decide +kernel
theorem dX10_does_108 : decode cX10_does 108 = .ok (.aload_n 0, 1) := by decide +kernel
theorem dX10_does_109 : decode cX10_does 109 = .ok (.iload_n 2, 1) := by decide +kernel
theorem dX10_does_110 : decode cX10_does 110 = .ok (.iload_n 3, 1) := by decide +kernel
theorem dX10_does_111 : decode cX10_does 111 = .ok (.invokevirtual 177, 3) := by decide +kernel
theorem dX10_does_114 : decode cX10_does 114 = .ok (.ireturn, 1) := by decide +kernel
theorem dX10_does_115 : decode cX10_does 115 = .ok (.aload_n 0, 1) := by decide +kernel
theorem dX10_does_116 : decode cX10_does 116 = .ok (.iload_n 2, 1) := by decide +kernel
theorem dX10_does_117 : decode cX10_does 117 = .ok (.iload_n 3, 1) := by decide +kernel
theorem dX10_does_118 : decode cX10_does 118 = .ok (.aload_n 0, 1) := by decide +kernel
theorem dX10_does_119 : decode cX10_does 119 = .ok (.getfield 54, 3) := by decide +kernel
theorem dX10_does_122 : decode cX10_does 122 = .ok (.iconst 2, 1) := by decide +kernel
theorem dX10_does_123 : decode cX10_does 123 = .ok (.iaload, 1) := by decide +kernel
theorem dX10_does_124 : decode cX10_does 124 = .ok (.invokevirtual 180, 3) := by decide +kernel
theorem dX10_does_127 : decode cX10_does 127 = .ok (.ireturn, 1) := by decide +kernel
theorem dX10_does_128 : decode cX10_does 128 = .ok (.aload_n 0, 1) := by decide +kernel
theorem dX10_does_129 : decode cX10_does 129 = .ok (.aload_n 0, 1) := by decide +kernel
theorem dX10_does_130 : decode cX10_does 130 = .ok (.iload_n 2, 1) := by decide +kernel
theorem dX10_does_131 : decode cX10_does 131 = .ok (.invokevirtual 184, 3) := by decide +kernel
theorem dX10_does_134 : decode cX10_does 134 = .ok (.invokevirtual 187, 3) := by decide +kernel
theorem dX10_does_137 : decode cX10_does 137 = .ok (.ireturn, 1) := by decide +kernel
theorem dX10_does_138 : decode cX10_does 138 = .ok (.aload_n 0, 1) := by decide +kernel
theorem dX10_does_139 : decode cX10_does 139 = .ok (.aload_n 0, 1) := by decide +kernel
theorem dX10_does_140 : decode cX10_does 140 = .ok (.iload_n 2, 1) := by decide +kernel
theorem dX10_does_141 : decode cX10_does 141 = .ok (.invokevirtual 184, 3) := by decide +kernel
theorem dX10_does_144 : decode cX10_does 144 = .ok (.iconst 1, 1) := by decide +kernel
theorem dX10_does_145 : decode cX10_does 145 = .ok (.invokevirtual 190, 3) := by decide +kernel
theorem dX10_does_148 : decode cX10_does 148 = .ok (.ireturn, 1) := by decide +kernel
theorem dX10_does_149 : decode cX10_does 149 = .ok (.aload_n 0, 1) := by decide +kernel
theorem dX10_does_150 : decode cX10_does 150 = .ok (.aload_n 0, 1) := by decide +kernel
theorem dX10_does_151 : decode cX10_does 151 = .ok (.iload_n 2, 1) := by decide +kernel
theorem dX10_does_152 : decode cX10_does 152 = .ok (.invokevirtual 184, 3) := by decide +kernel
theorem dX10_does_155 : decode cX10_does 155 = .ok (.iconst (-1), 1) := by decide +kernel
theorem dX10_does_156 : decode cX10_does 156 = .ok (.invokevirtual 190, 3) := by decide +kernel
theorem dX10_does_159 : decode cX10_does 159 = .ok (.ireturn, 1) := by decide +kernel
theorem dX10_does_160 : decode cX10_does 160 = .ok (.iload_n 3, 1) := by decide +kernel
theorem dX10_does_161 : decode cX10_does 161 = .ok (.iconst 0, 1) := by decide +kernel
theorem dX10_does_162 : decode cX10_does 162 = .ok (.iconst 4, 1) := by decide +kernel
theorem dX10_does_163 : decode cX10_does 163 = .ok (.invokestatic 65, 3) := by decide +kernel
theorem dX10_does_166 : decode cX10_does 166 = .ok (.ifCond .eq 18, 3) := by decide +kernel
theorem dX10_does_169 : decode cX10_does 169 = .ok (.aload_n 0, 1) := by decide +kernel
theorem dX10_does_170 : decode cX10_does 170 = .ok (.getfield 54, 3) := by decide +kernel
theorem dX10_does_173 : decode cX10_does 173 = .ok (.iconst 2, 1) := by decide +kernel
theorem dX10_does_174 : decode cX10_does 174 = .ok (.iaload, 1) := by decide +kernel
theorem dX10_does_175 : decode cX10_does 175 = .ok (.iconst 0, 1) := by decide +kernel
theorem dX10_does_176 : decode cX10_does 176 = .ok (.bipush 99, 2) := by decide +kernel
theorem dX10_does_178 : decode cX10_does 178 = .ok (.invokestatic 65, 3) := by decide +kernel
theorem dX10_does_181 : decode cX10_does 181 = .ok (.ifCond .ne 7, 3) := by decide +kernel
theorem dX10_does_184 : decode cX10_does 184 = .ok (.iconst (-1), 1) := by decide +kernel
theorem dX10_does_185 : decode cX10_does 185 = .ok (.goto 23, 3) := by decide +kernel
theorem dX10_does_188 : decode cX10_does 188 = .ok (.aload_n 0, 1) := by decide +kernel
theorem dX10_does_189 : decode cX10_does 189 = .ok (.aload_n 0, 1) := by decide +kernel
theorem dX10_does_190 : decode cX10_does 190 = .ok (.iload_n 2, 1) := by decide +kernel
theorem dX10_does_191 : decode cX10_does 191 = .ok (.invokevirtual 184, 3) := by decide +kernel
theorem dX10_does_194 : decode cX10_does 194 = .ok (.bipush 100, 2) := by decide +kernel
theorem dX10_does_196 : decode cX10_does 196 = .ok (.iload_n 3, 1) := by decide +kernel
theorem dX10_does_197 : decode cX10_does 197 = .ok (.imul, 1) := by decide +kernel
theorem dX10_does_198 : decode cX10_does 198 = .ok (.aload_n 0, 1) := by decide +kernel
theorem dX10_does_199 : decode cX10_does 199 = .ok (.getfield 54, 3) := by decide +kernel
theorem dX10_does_202 : decode cX10_does 202 = .ok (.iconst 2, 1) := by decide +kernel
theorem dX10_does_203 : decode cX10_does 203 = .ok (.iaload, 1) := by decide +kernel
theorem dX10_does_204 : decode cX10_does 204 = .ok (.iadd, 1) := by decide +kernel
theorem dX10_does_205 : decode cX10_does 205 = .ok (.invokevirtual 193, 3) := by decide +kernel
theorem dX10_does_208 : decode cX10_does 208 = .ok (.ireturn, 1) := by decide +kernel
theorem dX10_does_209 : decode cX10_does 209 = .ok (.aload_n 0, 1) := by decide +kernel
theorem dX10_does_210 : decode cX10_does 210 = .ok (.iload_n 2, 1) := by decide +kernel
theorem dX10_does_211 : decode cX10_does 211 = .ok (.iload_n 3, 1) := by decide +kernel
theorem dX10_does_212 : decode cX10_does 212 = .ok (.invokevirtual 196, 3) := by decide +kernel
theorem dX10_does_215 : decode cX10_does 215 = .ok (.ireturn, 1) := by decide +kernel
theorem dX10_does_216 : decode cX10_does 216 = .ok (.aload_n 0, 1) := by decide +kernel
theorem dX10_does_217 : decode cX10_does 217 = .ok (.iload_n 2, 1) := by decide +kernel
theorem dX10_does_218 : decode cX10_does 218 = .ok (.invokevirtual 199, 3) := by decide +kernel
theorem dX10_does_221 : decode cX10_does 221 = .ok (.ireturn, 1) := by decide +kernel
theorem dX10_does_222 : decode cX10_does 222 = .ok (.aload_n 0, 1) := by decide +kernel
theorem dX10_does_223 : decode cX10_does 223 = .ok (.iload_n 2, 1) := by decide +kernel
theorem dX10_does_224 : decode cX10_does 224 = .ok (.invokevirtual 202, 3) := by decide +kernel
theorem dX10_does_227 : decode cX10_does 227 = .ok (.ireturn, 1) := by decide +kernel
theorem dX10_does_228 : decode cX10_does 228 = .ok (.aload_n 0, 1) := by decide +kernel
theorem dX10_does_229 : decode cX10_does 229 = .ok (.invokevirtual 205, 3) := by decide +kernel
theorem dX10_does_232 : decode cX10_does 232 = .ok (.ireturn, 1) := by decide +kernel
theorem dX10_script_0 : decode cX10_script 0 = .ok (.aload_n 0, 1) := by decide +kernel
theorem dX10_script_1 : decode cX10_script 1 = .ok (.invokevirtual 208, 3) := by decide +kernel
theorem dX10_script_4 : decode cX10_script 4 = .ok (.ifCond .ne 17, 3) := by decide +kernel
theorem dX10_script_7 : decode cX10_script 7 = .ok (.aload_n 0, 1) := by decide +kernel
theorem dX10_script_8 : decode cX10_script 8 = .ok (.iconst 0, 1) := by decide +kernel
theorem dX10_script_9 : decode cX10_script 9 = .ok (.putfield 152, 3) := by decide +kernel
theorem dX10_script_12 : decode cX10_script 12 = .ok (.sipush (-1000), 3) := by decide +kernel
theorem dX10_script_15 : decode cX10_script 15 = .ok (.aload_n 0, 1) := by decide +kernel
theorem dX10_script_16 : decode cX10_script 16 = .ok (.getfield 156, 3) := by decide +kernel
theorem dX10_script_19 : decode cX10_script 19 = .ok (.isub, 1) := by decide +kernel
theorem dX10_script_20 : decode cX10_script 20 = .ok (.ireturn, 1) := by decide +kernel
theorem dX10_script_21 : decode cX10_script 21 = .ok (.aload_n 0, 1) := by decide +kernel
theorem dX10_script_22 : decode cX10_script 22 = .ok (.getfield 9, 3) := by decide +kernel
theorem dX10_script_25 : decode cX10_script 25 = .ok (.aload_n 0, 1) := by decide +kernel
theorem dX10_script_26 : decode cX10_script 26 = .ok (.getfield 16, 3) := by decide +kernel
theorem dX10_script_29 : decode cX10_script 29 = .ok (.invokestatic 139, 3) := by decide +kernel
theorem dX10_script_32 : decode cX10_script 32 = .ok (.aload_n 0, 1) := by decide +kernel
theorem dX10_script_33 : decode cX10_script 33 = .ok (.iconst 0, 1) := by decide +kernel
theorem dX10_script_34 : decode cX10_script 34 = .ok (.putfield 159, 3) := by decide +kernel
theorem dX10_script_37 : decode cX10_script 37 = .ok (.iconst 0, 1) := by decide +kernel
theorem dX10_script_38 : decode cX10_script 38 = .ok (.istore_n 1, 1) := by decide +kernel
theorem dX10_script_39 : decode cX10_script 39 = .ok (.iconst 1, 1) := by decide +kernel
theorem dX10_script_40 : decode cX10_script 40 = .ok (.istore_n 2, 1) := by decide +kernel
theorem dX10_script_41 : decode cX10_script 41 = .ok (.iload_n 2, 1) := by decide +kernel
theorem dX10_script_42 : decode cX10_script 42 = .ok (.ifCond .eq 55, 3) := by decide +kernel
theorem dX10_script_45 : decode cX10_script 45 = .ok (.aload_n 0, 1) := by decide +kernel
theorem dX10_script_46 : decode cX10_script 46 = .ok (.getfield 159, 3) := by decide +kernel
theorem dX10_script_49 : decode cX10_script 49 = .ok (.aload_n 0, 1) := by decide +kernel
theorem dX10_script_50 : decode cX10_script 50 = .ok (.getfield 152, 3) := by decide +kernel
theorem dX10_script_53 : decode cX10_script 53 = .ok (.if_icmp .ge 44, 3) := by decide +kernel
theorem dX10_script_56 : decode cX10_script 56 = .ok (.aload_n 0, 1) := by decide +kernel
theorem dX10_script_57 : decode cX10_script 57 = .ok (.dup, 1) := by decide +kernel
theorem dX10_script_58 : decode cX10_script 58 = .ok (.getfield 159, 3) := by decide +kernel
theorem dX10_script_61 : decode cX10_script 61 = .ok (.iload_n 1, 1) := by decide +kernel
theorem dX10_script_62 : decode cX10_script 62 = .ok (.ifCond .le 7, 3) := by decide +kernel
theorem dX10_script_65 : decode cX10_script 65 = .ok (.iconst 1, 1) := by decide +kernel
theorem dX10_script_66 : decode cX10_script 66 = .ok (.goto 4, 3) := by decide +kernel
theorem dX10_script_69 : decode cX10_script 69 = .ok (.iconst 0, 1) := by decide +kernel
theorem dX10_script_70 : decode cX10_script 70 = .ok (.iadd, 1) := by decide +kernel
theorem dX10_script_71 : decode cX10_script 71 = .ok (.putfield 159, 3) := by decide +kernel
theorem dX10_script_74 : decode cX10_script 74 = .ok (.aload_n 0, 1) := by decide +kernel
theorem dX10_script_75 : decode cX10_script 75 = .ok (.aload_n 0, 1) := by decide +kernel
theorem dX10_script_76 : decode cX10_script 76 = .ok (.invokevirtual 174, 3) := by decide +kernel
theorem dX10_script_79 : decode cX10_script 79 = .ok (.invokevirtual 212, 3) := by decide +kernel
theorem dX10_script_82 : decode cX10_script 82 = .ok (.ifCond .lt 7, 3) := by decide +kernel
theorem dX10_script_85 : decode cX10_script 85 = .ok (.iconst 1, 1) := by decide +kernel
theorem dX10_script_86 : decode cX10_script 86 = .ok (.goto 4, 3) := by decide +kernel
theorem dX10_script_89 : decode cX10_script 89 = .ok (.iconst 0, 1) := by decide +kernel
theorem dX10_script_90 : decode cX10_script 90 = .ok (.istore_n 2, 1) := by decide +kernel
theorem dX10_script_91 : decode cX10_script 91 = .ok (.iinc 1 1, 3) := by decide +kernel
theorem dX10_script_94 : decode cX10_script 94 = .ok (.goto (-53), 3) := by decide +kernel
theorem dX10_script_97 : decode cX10_script 97 = .ok (.aload_n 0, 1) := by decide +kernel
theorem dX10_script_98 : decode cX10_script 98 = .ok (.iconst 0, 1) := by decide +kernel
theorem dX10_script_99 : decode cX10_script 99 = .ok (.putfield 152, 3) := by decide +kernel
theorem dX10_script_102 : decode cX10_script 102 = .ok (.iload_n 2, 1) := by decide +kernel
theorem dX10_script_103 : decode cX10_script 103 = .ok (.ifCond .ne 22, 3) := by decide +kernel
theorem dX10_script_106 : decode cX10_script 106 = .ok (.aload_n 0, 1) := by decide +kernel
theorem dX10_script_107 : decode cX10_script 107 = .ok (.getfield 16, 3) := by decide +kernel
theorem dX10_script_110 : decode cX10_script 110 = .ok (.aload_n 0, 1) := by decide +kernel
theorem dX10_script_111 : decode cX10_script 111 = .ok (.getfield 9, 3) := by decide +kernel
theorem dX10_script_114 : decode cX10_script 114 = .ok (.invokestatic 139, 3) := by decide +kernel
theorem dX10_script_117 : decode cX10_script 117 = .ok (.sipush (-2000), 3) := by decide +kernel
theorem dX10_script_120 : decode cX10_script 120 = .ok (.iload_n 1, 1) := by decide +kernel
theorem dX10_script_121 : decode cX10_script 121 = .ok (.iconst 1, 1) := by decide +kernel
theorem dX10_script_122 : decode cX10_script 122 = .ok (.isub, 1) := by decide +kernel
theorem dX10_script_123 : decode cX10_script 123 = .ok (.isub, 1) := by decide +kernel
theorem dX10_script_124 : decode cX10_script 124 = .ok (.ireturn, 1) := by decide +kernel
theorem dX10_script_125 : decode cX10_script 125 = .ok (.iload_n 1, 1) := by decide +kernel
theorem dX10_script_126 : decode cX10_script 126 = .ok (.ireturn, 1) := by decide +kernel
theorem dX10_image_0 : decode cX10_image 0 = .ok (.aload_n 0, 1) := by decide +kernel
theorem dX10_image_1 : decode cX10_image 1 = .ok (.getfield 9, 3) := by decide +kernel
theorem dX10_image_4 : decode cX10_image 4 = .ok (.aload_n 0, 1) := by decide +kernel
theorem dX10_image_5 : decode cX10_image 5 = .ok (.getfield 19, 3) := by decide +kernel
theorem dX10_image_8 : decode cX10_image 8 = .ok (.invokestatic 139, 3) := by decide +kernel
theorem dX10_image_11 : decode cX10_image 11 = .ok (.aload_n 0, 1) := by decide +kernel
theorem dX10_image_12 : decode cX10_image 12 = .ok (.iconst 1, 1) := by decide +kernel
theorem dX10_image_13 : decode cX10_image 13 = .ok (.putfield 215, 3) := by decide +kernel
theorem dX10_image_16 : decode cX10_image 16 = .ok (.aload_n 0, 1) := by decide +kernel
theorem dX10_image_17 : decode cX10_image 17 = .ok (.iconst (-1), 1) := by decide +kernel
theorem dX10_image_18 : decode cX10_image 18 = .ok (.invokevirtual 127, 3) := by decide +kernel
theorem dX10_image_21 : decode cX10_image 21 = .ok (.ireturn, 1) := by decide +kernel
theorem dX10_back_0 : decode cX10_back 0 = .ok (.aload_n 0, 1) := by decide +kernel
theorem dX10_back_1 : decode cX10_back 1 = .ok (.getfield 215, 3) := by decide +kernel
theorem dX10_back_4 : decode cX10_back 4 = .ok (.ifCond .ne 6, 3) := by decide +kernel
theorem dX10_back_7 : decode cX10_back 7 = .ok (.bipush (-5), 2) := by decide +kernel
theorem dX10_back_9 : decode cX10_back 9 = .ok (.ireturn, 1) := by decide +kernel
theorem dX10_back_10 : decode cX10_back 10 = .ok (.aload_n 0, 1) := by decide +kernel
theorem dX10_back_11 : decode cX10_back 11 = .ok (.getfield 19, 3) := by decide +kernel
theorem dX10_back_14 : decode cX10_back 14 = .ok (.aload_n 0, 1) := by decide +kernel
theorem dX10_back_15 : decode cX10_back 15 = .ok (.getfield 9, 3) := by decide +kernel
theorem dX10_back_18 : decode cX10_back 18 = .ok (.invokestatic 139, 3) := by decide +kernel
theorem dX10_back_21 : decode cX10_back 21 = .ok (.aload_n 0, 1) := by decide +kernel
theorem dX10_back_22 : decode cX10_back 22 = .ok (.iconst (-1), 1) := by decide +kernel
theorem dX10_back_23 : decode cX10_back 23 = .ok (.invokevirtual 127, 3) := by decide +kernel
theorem dX10_back_26 : decode cX10_back 26 = .ok (.ireturn, 1) := by decide +kernel
theorem dX10_hold_0 : decode cX10_hold 0 = .ok (.aload_n 0, 1) := by decide +kernel
theorem dX10_hold_1 : decode cX10_hold 1 = .ok (.iload_n 1, 1) := by decide +kernel
theorem dX10_hold_2 : decode cX10_hold 2 = .ok (.invokevirtual 146, 3) := by decide +kernel
theorem dX10_hold_5 : decode cX10_hold 5 = .ok (.ifCond .ne 5, 3) := by decide +kernel
theorem dX10_hold_8 : decode cX10_hold 8 = .ok (.iconst (-1), 1) := by decide +kernel
theorem dX10_hold_9 : decode cX10_hold 9 = .ok (.ireturn, 1) := by decide +kernel
theorem dX10_hold_10 : decode cX10_hold 10 = .ok (.iload_n 2, 1) := by decide +kernel
theorem dX10_hold_11 : decode cX10_hold 11 = .ok (.iconst (-1), 1) := by decide +kernel
theorem dX10_hold_12 : decode cX10_hold 12 = .ok (.if_icmp .eq 14, 3) := by decide +kernel
theorem dX10_hold_15 : decode cX10_hold 15 = .ok (.aload_n 0, 1) := by decide +kernel
theorem dX10_hold_16 : decode cX10_hold 16 = .ok (.iload_n 2, 1) := by decide +kernel
theorem dX10_hold_17 : decode cX10_hold 17 = .ok (.invokevirtual 96, 3) := by decide +kernel
theorem dX10_hold_20 : decode cX10_hold 20 = .ok (.ifCond .ge 6, 3) := by decide +kernel
theorem dX10_hold_23 : decode cX10_hold 23 = .ok (.bipush (-4), 2) := by decide +kernel
theorem dX10_hold_25 : decode cX10_hold 25 = .ok (.ireturn, 1) := by decide +kernel
theorem dX10_hold_26 : decode cX10_hold 26 = .ok (.aload_n 0, 1) := by decide +kernel
theorem dX10_hold_27 : decode cX10_hold 27 = .ok (.getfield 40, 3) := by decide +kernel
theorem dX10_hold_30 : decode cX10_hold 30 = .ok (.iload_n 1, 1) := by decide +kernel
theorem dX10_hold_31 : decode cX10_hold 31 = .ok (.iload_n 2, 1) := by decide +kernel
theorem dX10_hold_32 : decode cX10_hold 32 = .ok (.iconst (-1), 1) := by decide +kernel
theorem dX10_hold_33 : decode cX10_hold 33 = .ok (.if_icmp .ne 7, 3) := by decide +kernel
theorem dX10_hold_36 : decode cX10_hold 36 = .ok (.iconst 0, 1) := by decide +kernel
theorem dX10_hold_37 : decode cX10_hold 37 = .ok (.goto 4, 3) := by decide +kernel
theorem dX10_hold_40 : decode cX10_hold 40 = .ok (.iconst 1, 1) := by decide +kernel
theorem dX10_hold_41 : decode cX10_hold 41 = .ok (.iastore, 1) := by decide +kernel
theorem dX10_hold_42 : decode cX10_hold 42 = .ok (.aload_n 0, 1) := by decide +kernel
theorem dX10_hold_43 : decode cX10_hold 43 = .ok (.getfield 43, 3) := by decide +kernel
theorem dX10_hold_46 : decode cX10_hold 46 = .ok (.iload_n 1, 1) := by decide +kernel
theorem dX10_hold_47 : decode cX10_hold 47 = .ok (.iload_n 2, 1) := by decide +kernel
theorem dX10_hold_48 : decode cX10_hold 48 = .ok (.iastore, 1) := by decide +kernel
theorem dX10_hold_49 : decode cX10_hold 49 = .ok (.iconst 1, 1) := by decide +kernel
theorem dX10_hold_50 : decode cX10_hold 50 = .ok (.ireturn, 1) := by decide +kernel
theorem dX10_row_0 : decode cX10_row 0 = .ok (.aload_n 0, 1) := by decide +kernel
theorem dX10_row_1 : decode cX10_row 1 = .ok (.iload_n 1, 1) := by decide +kernel
theorem dX10_row_2 : decode cX10_row 2 = .ok (.invokevirtual 146, 3) := by decide +kernel
theorem dX10_row_5 : decode cX10_row 5 = .ok (.ifCond .eq 9, 3) := by decide +kernel
theorem dX10_row_8 : decode cX10_row 8 = .ok (.iload_n 2, 1) := by decide +kernel
theorem dX10_row_9 : decode cX10_row 9 = .ok (.bipush 60, 2) := by decide +kernel
theorem dX10_row_11 : decode cX10_row 11 = .ok (.if_icmp .le 5, 3) := by decide +kernel
theorem dX10_row_14 : decode cX10_row 14 = .ok (.iconst (-1), 1) := by decide +kernel
theorem dX10_row_15 : decode cX10_row 15 = .ok (.ireturn, 1) := by decide +kernel
theorem dX10_row_16 : decode cX10_row 16 = .ok (.iload_n 2, 1) := by decide +kernel
theorem dX10_row_17 : decode cX10_row 17 = .ok (.ifCond .ge 6, 3) := by decide +kernel
theorem dX10_row_20 : decode cX10_row 20 = .ok (.bipush (-14), 2) := by decide +kernel
theorem dX10_row_22 : decode cX10_row 22 = .ok (.ireturn, 1) := by decide +kernel
theorem dX10_row_23 : decode cX10_row 23 = .ok (.aload_n 0, 1) := by decide +kernel
theorem dX10_row_24 : decode cX10_row 24 = .ok (.getfield 40, 3) := by decide +kernel
theorem dX10_row_27 : decode cX10_row 27 = .ok (.iload_n 1, 1) := by decide +kernel
theorem dX10_row_28 : decode cX10_row 28 = .ok (.iconst 2, 1) := by decide +kernel
theorem dX10_row_29 : decode cX10_row 29 = .ok (.iastore, 1) := by decide +kernel
theorem dX10_row_30 : decode cX10_row 30 = .ok (.aload_n 0, 1) := by decide +kernel
theorem dX10_row_31 : decode cX10_row 31 = .ok (.getfield 46, 3) := by decide +kernel
theorem dX10_row_34 : decode cX10_row 34 = .ok (.iload_n 1, 1) := by decide +kernel
theorem dX10_row_35 : decode cX10_row 35 = .ok (.iload_n 2, 1) := by decide +kernel
theorem dX10_row_36 : decode cX10_row 36 = .ok (.iastore, 1) := by decide +kernel
theorem dX10_row_37 : decode cX10_row 37 = .ok (.iconst 0, 1) := by decide +kernel
theorem dX10_row_38 : decode cX10_row 38 = .ok (.istore_n 3, 1) := by decide +kernel
theorem dX10_row_39 : decode cX10_row 39 = .ok (.iload_n 3, 1) := by decide +kernel
theorem dX10_row_40 : decode cX10_row 40 = .ok (.bipush 60, 2) := by decide +kernel
theorem dX10_row_42 : decode cX10_row 42 = .ok (.if_icmp .ge 18, 3) := by decide +kernel
theorem dX10_row_45 : decode cX10_row 45 = .ok (.aload_n 0, 1) := by decide +kernel
theorem dX10_row_46 : decode cX10_row 46 = .ok (.getfield 51, 3) := by decide +kernel
theorem dX10_row_49 : decode cX10_row 49 = .ok (.iload_n 1, 1) := by decide +kernel
theorem dX10_row_50 : decode cX10_row 50 = .ok (.aaload, 1) := by decide +kernel
theorem dX10_row_51 : decode cX10_row 51 = .ok (.iload_n 3, 1) := by decide +kernel
theorem dX10_row_52 : decode cX10_row 52 = .ok (.iconst 0, 1) := by decide +kernel
theorem dX10_row_53 : decode cX10_row 53 = .ok (.iastore, 1) := by decide +kernel
theorem dX10_row_54 : decode cX10_row 54 = .ok (.iinc 3 1, 3) := by decide +kernel
theorem dX10_row_57 : decode cX10_row 57 = .ok (.goto (-18), 3) := by decide +kernel
theorem dX10_row_60 : decode cX10_row 60 = .ok (.iconst 1, 1) := by decide +kernel
theorem dX10_row_61 : decode cX10_row 61 = .ok (.ireturn, 1) := by decide +kernel
theorem dX10_put_0 : decode cX10_put 0 = .ok (.aload_n 0, 1) := by decide +kernel
theorem dX10_put_1 : decode cX10_put 1 = .ok (.iload_n 1, 1) := by decide +kernel
theorem dX10_put_2 : decode cX10_put 2 = .ok (.invokevirtual 146, 3) := by decide +kernel
theorem dX10_put_5 : decode cX10_put 5 = .ok (.ifCond .eq 29, 3) := by decide +kernel
theorem dX10_put_8 : decode cX10_put 8 = .ok (.aload_n 0, 1) := by decide +kernel
theorem dX10_put_9 : decode cX10_put 9 = .ok (.getfield 40, 3) := by decide +kernel
theorem dX10_put_12 : decode cX10_put 12 = .ok (.iload_n 1, 1) := by decide +kernel
theorem dX10_put_13 : decode cX10_put 13 = .ok (.iaload, 1) := by decide +kernel
theorem dX10_put_14 : decode cX10_put 14 = .ok (.iconst 2, 1) := by decide +kernel
theorem dX10_put_15 : decode cX10_put 15 = .ok (.if_icmp .ne 19, 3) := by decide +kernel
theorem dX10_put_18 : decode cX10_put 18 = .ok (.iload_n 2, 1) := by decide +kernel
theorem dX10_put_19 : decode cX10_put 19 = .ok (.iconst 0, 1) := by decide +kernel
theorem dX10_put_20 : decode cX10_put 20 = .ok (.aload_n 0, 1) := by decide +kernel
theorem dX10_put_21 : decode cX10_put 21 = .ok (.getfield 46, 3) := by decide +kernel
theorem dX10_put_24 : decode cX10_put 24 = .ok (.iload_n 1, 1) := by decide +kernel
theorem dX10_put_25 : decode cX10_put 25 = .ok (.iaload, 1) := by decide +kernel
theorem dX10_put_26 : decode cX10_put 26 = .ok (.iconst 1, 1) := by decide +kernel
theorem dX10_put_27 : decode cX10_put 27 = .ok (.isub, 1) := by decide +kernel
theorem dX10_put_28 : decode cX10_put 28 = .ok (.invokestatic 65, 3) := by decide +kernel
theorem dX10_put_31 : decode cX10_put 31 = .ok (.ifCond .ne 6, 3) := by decide +kernel
theorem dX10_put_34 : decode cX10_put 34 = .ok (.ldc 114, 2) := by decide +kernel
theorem dX10_put_36 : decode cX10_put 36 = .ok (.ireturn, 1) := by decide +kernel
theorem dX10_put_37 : decode cX10_put 37 = .ok (.aload_n 0, 1) := by decide +kernel
theorem dX10_put_38 : decode cX10_put 38 = .ok (.getfield 51, 3) := by decide +kernel
theorem dX10_put_41 : decode cX10_put 41 = .ok (.iload_n 1, 1) := by decide +kernel
theorem dX10_put_42 : decode cX10_put 42 = .ok (.aaload, 1) := by decide +kernel
theorem dX10_put_43 : decode cX10_put 43 = .ok (.iload_n 2, 1) := by decide +kernel
theorem dX10_put_44 : decode cX10_put 44 = .ok (.iaload, 1) := by decide +kernel
theorem dX10_put_45 : decode cX10_put 45 = .ok (.istore 4, 2) := by decide +kernel
theorem dX10_put_47 : decode cX10_put 47 = .ok (.aload_n 0, 1) := by decide +kernel
theorem dX10_put_48 : decode cX10_put 48 = .ok (.getfield 51, 3) := by decide +kernel
theorem dX10_put_51 : decode cX10_put 51 = .ok (.iload_n 1, 1) := by decide +kernel
theorem dX10_put_52 : decode cX10_put 52 = .ok (.aaload, 1) := by decide +kernel
theorem dX10_put_53 : decode cX10_put 53 = .ok (.iload_n 2, 1) := by decide +kernel
theorem dX10_put_54 : decode cX10_put 54 = .ok (.iload_n 3, 1) := by decide +kernel
theorem dX10_put_55 : decode cX10_put 55 = .ok (.iastore, 1) := by decide +kernel
theorem dX10_put_56 : decode cX10_put 56 = .ok (.iload 4, 2) := by decide +kernel
theorem dX10_put_58 : decode cX10_put 58 = .ok (.ireturn, 1) := by decide +kernel
theorem dX10_tells_0 : decode cX10_tells 0 = .ok (.aload_n 0, 1) := by decide +kernel
theorem dX10_tells_1 : decode cX10_tells 1 = .ok (.iload_n 1, 1) := by decide +kernel
theorem dX10_tells_2 : decode cX10_tells 2 = .ok (.invokevirtual 146, 3) := by decide +kernel
theorem dX10_tells_5 : decode cX10_tells 5 = .ok (.ifCond .eq 12, 3) := by decide +kernel
theorem dX10_tells_8 : decode cX10_tells 8 = .ok (.iload_n 2, 1) := by decide +kernel
theorem dX10_tells_9 : decode cX10_tells 9 = .ok (.iconst 0, 1) := by decide +kernel
theorem dX10_tells_10 : decode cX10_tells 10 = .ok (.iconst 3, 1) := by decide +kernel
theorem dX10_tells_11 : decode cX10_tells 11 = .ok (.invokestatic 65, 3) := by decide +kernel
theorem dX10_tells_14 : decode cX10_tells 14 = .ok (.ifCond .ne 5, 3) := by decide +kernel
theorem dX10_tells_17 : decode cX10_tells 17 = .ok (.iconst (-1), 1) := by decide +kernel
theorem dX10_tells_18 : decode cX10_tells 18 = .ok (.ireturn, 1) := by decide +kernel
theorem dX10_tells_19 : decode cX10_tells 19 = .ok (.aload_n 0, 1) := by decide +kernel
theorem dX10_tells_20 : decode cX10_tells 20 = .ok (.getfield 40, 3) := by decide +kernel
theorem dX10_tells_23 : decode cX10_tells 23 = .ok (.iload_n 1, 1) := by decide +kernel
theorem dX10_tells_24 : decode cX10_tells 24 = .ok (.iaload, 1) := by decide +kernel
theorem dX10_tells_25 : decode cX10_tells 25 = .ok (.iconst 1, 1) := by decide +kernel
theorem dX10_tells_26 : decode cX10_tells 26 = .ok (.if_icmp .eq 20, 3) := by decide +kernel
theorem dX10_tells_29 : decode cX10_tells 29 = .ok (.aload_n 0, 1) := by decide +kernel
theorem dX10_tells_30 : decode cX10_tells 30 = .ok (.getfield 40, 3) := by decide +kernel
theorem dX10_tells_33 : decode cX10_tells 33 = .ok (.iload_n 1, 1) := by decide +kernel
theorem dX10_tells_34 : decode cX10_tells 34 = .ok (.iaload, 1) := by decide +kernel
theorem dX10_tells_35 : decode cX10_tells 35 = .ok (.ifCond .ne 8, 3) := by decide +kernel
theorem dX10_tells_38 : decode cX10_tells 38 = .ok (.bipush (-11), 2) := by decide +kernel
theorem dX10_tells_40 : decode cX10_tells 40 = .ok (.goto 5, 3) := by decide +kernel
theorem dX10_tells_43 : decode cX10_tells 43 = .ok (.bipush (-12), 2) := by decide +kernel
theorem dX10_tells_45 : decode cX10_tells 45 = .ok (.ireturn, 1) := by decide +kernel
theorem dX10_tells_46 : decode cX10_tells 46 = .ok (.iload_n 2, 1) := by decide +kernel
theorem dX10_tells_47 : decode cX10_tells 47 = .ok (.ifCond .ne 13, 3) := by decide +kernel
theorem dX10_tells_50 : decode cX10_tells 50 = .ok (.aload_n 0, 1) := by decide +kernel
theorem dX10_tells_51 : decode cX10_tells 51 = .ok (.getfield 43, 3) := by decide +kernel
theorem dX10_tells_54 : decode cX10_tells 54 = .ok (.iload_n 1, 1) := by decide +kernel
theorem dX10_tells_55 : decode cX10_tells 55 = .ok (.iaload, 1) := by decide +kernel
theorem dX10_tells_56 : decode cX10_tells 56 = .ok (.bipush 100, 2) := by decide +kernel
theorem dX10_tells_58 : decode cX10_tells 58 = .ok (.idiv, 1) := by decide +kernel
theorem dX10_tells_59 : decode cX10_tells 59 = .ok (.ireturn, 1) := by decide +kernel
theorem dX10_tells_60 : decode cX10_tells 60 = .ok (.aload_n 0, 1) := by decide +kernel
theorem dX10_tells_61 : decode cX10_tells 61 = .ok (.aload_n 0, 1) := by decide +kernel
theorem dX10_tells_62 : decode cX10_tells 62 = .ok (.getfield 43, 3) := by decide +kernel
theorem dX10_tells_65 : decode cX10_tells 65 = .ok (.iload_n 1, 1) := by decide +kernel
theorem dX10_tells_66 : decode cX10_tells 66 = .ok (.iaload, 1) := by decide +kernel
theorem dX10_tells_67 : decode cX10_tells 67 = .ok (.invokevirtual 96, 3) := by decide +kernel
theorem dX10_tells_70 : decode cX10_tells 70 = .ok (.istore_n 3, 1) := by decide +kernel
theorem dX10_tells_71 : decode cX10_tells 71 = .ok (.iload_n 3, 1) := by decide +kernel
theorem dX10_tells_72 : decode cX10_tells 72 = .ok (.ifCond .lt 33, 3) := by decide +kernel
theorem dX10_tells_75 : decode cX10_tells 75 = .ok (.iload_n 2, 1) := by decide +kernel
theorem dX10_tells_76 : decode cX10_tells 76 = .ok (.iconst 2, 1) := by decide +kernel
theorem dX10_tells_77 : decode cX10_tells 77 = .ok (.if_icmp .ne 13, 3) := by decide +kernel
theorem dX10_tells_80 : decode cX10_tells 80 = .ok (.aload_n 0, 1) := by decide +kernel
theorem dX10_tells_81 : decode cX10_tells 81 = .ok (.iload_n 3, 1) := by decide +kernel
theorem dX10_tells_82 : decode cX10_tells 82 = .ok (.bipush 6, 2) := by decide +kernel
theorem dX10_tells_84 : decode cX10_tells 84 = .ok (.invokevirtual 57, 3) := by decide +kernel
theorem dX10_tells_87 : decode cX10_tells 87 = .ok (.ifCond .eq 18, 3) := by decide +kernel
theorem dX10_tells_90 : decode cX10_tells 90 = .ok (.iload_n 2, 1) := by decide +kernel
theorem dX10_tells_91 : decode cX10_tells 91 = .ok (.iconst 3, 1) := by decide +kernel
theorem dX10_tells_92 : decode cX10_tells 92 = .ok (.if_icmp .ne 16, 3) := by decide +kernel
theorem dX10_tells_95 : decode cX10_tells 95 = .ok (.aload_n 0, 1) := by decide +kernel
theorem dX10_tells_96 : decode cX10_tells 96 = .ok (.iload_n 3, 1) := by decide +kernel
theorem dX10_tells_97 : decode cX10_tells 97 = .ok (.bipush 7, 2) := by decide +kernel
theorem dX10_tells_99 : decode cX10_tells 99 = .ok (.invokevirtual 57, 3) := by decide +kernel
theorem dX10_tells_102 : decode cX10_tells 102 = .ok (.ifCond .ge 6, 3) := by decide +kernel
theorem dX10_tells_105 : decode cX10_tells 105 = .ok (.bipush (-12), 2) := by decide +kernel
theorem dX10_tells_107 : decode cX10_tells 107 = .ok (.ireturn, 1) := by decide +kernel
theorem dX10_tells_108 : decode cX10_tells 108 = .ok (.aload_n 0, 1) := by decide +kernel
theorem dX10_tells_109 : decode cX10_tells 109 = .ok (.iload_n 3, 1) := by decide +kernel
theorem dX10_tells_110 : decode cX10_tells 110 = .ok (.iload_n 2, 1) := by decide +kernel
theorem dX10_tells_111 : decode cX10_tells 111 = .ok (.iconst 1, 1) := by decide +kernel
theorem dX10_tells_112 : decode cX10_tells 112 = .ok (.if_icmp .ne 7, 3) := by decide +kernel
theorem dX10_tells_115 : decode cX10_tells 115 = .ok (.iconst 3, 1) := by decide +kernel
theorem dX10_tells_116 : decode cX10_tells 116 = .ok (.goto 15, 3) := by decide +kernel
theorem dX10_tells_119 : decode cX10_tells 119 = .ok (.iload_n 2, 1) := by decide +kernel
theorem dX10_tells_120 : decode cX10_tells 120 = .ok (.iconst 2, 1) := by decide +kernel
theorem dX10_tells_121 : decode cX10_tells 121 = .ok (.if_icmp .ne 8, 3) := by decide +kernel
theorem dX10_tells_124 : decode cX10_tells 124 = .ok (.bipush 6, 2) := by decide +kernel
theorem dX10_tells_126 : decode cX10_tells 126 = .ok (.goto 5, 3) := by decide +kernel
theorem dX10_tells_129 : decode cX10_tells 129 = .ok (.bipush 7, 2) := by decide +kernel
theorem dX10_tells_131 : decode cX10_tells 131 = .ok (.invokevirtual 57, 3) := by decide +kernel
theorem dX10_tells_134 : decode cX10_tells 134 = .ok (.ireturn, 1) := by decide +kernel
theorem dX10_count_0 : decode cX10_count 0 = .ok (.iconst 0, 1) := by decide +kernel
theorem dX10_count_1 : decode cX10_count 1 = .ok (.istore_n 2, 1) := by decide +kernel
theorem dX10_count_2 : decode cX10_count 2 = .ok (.iload_n 1, 1) := by decide +kernel
theorem dX10_count_3 : decode cX10_count 3 = .ok (.tableswitch 184 0 7 #[45, 54, 60, 94, 99, 108, 146, 151], 45) := by decide +kernel
theorem dX10_count_48 : decode cX10_count 48 = .ok (.aload_n 0, 1) := by decide +kernel
theorem dX10_count_49 : decode cX10_count 49 = .ok (.getfield 9, 3) := by decide +kernel
theorem dX10_count_52 : decode cX10_count 52 = .ok (.sipush 570, 3) := by decide +kernel
theorem dX10_count_55 : decode cX10_count 55 = .ok (.iaload, 1) := by decide +kernel
theorem dX10_count_56 : decode cX10_count 56 = .ok (.ireturn, 1) := by decide +kernel
theorem dX10_count_57 : decode cX10_count 57 = .ok (.aload_n 0, 1) := by decide +kernel
theorem dX10_count_58 : decode cX10_count 58 = .ok (.iconst (-1), 1) := by decide +kernel
theorem dX10_count_59 : decode cX10_count 59 = .ok (.invokevirtual 127, 3) := by decide +kernel
theorem dX10_count_62 : decode cX10_count 62 = .ok (.ireturn, 1) := by decide +kernel
theorem dX10_count_63 : decode cX10_count 63 = .ok (.iconst 0, 1) := by decide +kernel
theorem dX10_count_64 : decode cX10_count 64 = .ok (.istore_n 3, 1) := by decide +kernel
theorem dX10_count_65 : decode cX10_count 65 = .ok (.iload_n 3, 1) := by decide +kernel
theorem dX10_count_66 : decode cX10_count 66 = .ok (.bipush 30, 2) := by decide +kernel
theorem dX10_count_68 : decode cX10_count 68 = .ok (.if_icmp .ge 27, 3) := by decide +kernel
theorem dX10_count_71 : decode cX10_count 71 = .ok (.iload_n 2, 1) := by decide +kernel
theorem dX10_count_72 : decode cX10_count 72 = .ok (.aload_n 0, 1) := by decide +kernel
theorem dX10_count_73 : decode cX10_count 73 = .ok (.iload_n 3, 1) := by decide +kernel
theorem dX10_count_74 : decode cX10_count 74 = .ok (.iconst 0, 1) := by decide +kernel
theorem dX10_count_75 : decode cX10_count 75 = .ok (.invokevirtual 57, 3) := by decide +kernel
theorem dX10_count_78 : decode cX10_count 78 = .ok (.iconst 2, 1) := by decide +kernel
theorem dX10_count_79 : decode cX10_count 79 = .ok (.if_icmp .ne 7, 3) := by decide +kernel
theorem dX10_count_82 : decode cX10_count 82 = .ok (.iconst 1, 1) := by decide +kernel
theorem dX10_count_83 : decode cX10_count 83 = .ok (.goto 4, 3) := by decide +kernel
theorem dX10_count_86 : decode cX10_count 86 = .ok (.iconst 0, 1) := by decide +kernel
theorem dX10_count_87 : decode cX10_count 87 = .ok (.iadd, 1) := by decide +kernel
theorem dX10_count_88 : decode cX10_count 88 = .ok (.istore_n 2, 1) := by decide +kernel
theorem dX10_count_89 : decode cX10_count 89 = .ok (.iinc 3 1, 3) := by decide +kernel
theorem dX10_count_92 : decode cX10_count 92 = .ok (.goto (-27), 3) := by decide +kernel
theorem dX10_count_95 : decode cX10_count 95 = .ok (.iload_n 2, 1) := by decide +kernel
theorem dX10_count_96 : decode cX10_count 96 = .ok (.ireturn, 1) := by decide +kernel
theorem dX10_count_97 : decode cX10_count 97 = .ok (.aload_n 0, 1) := by decide +kernel
theorem dX10_count_98 : decode cX10_count 98 = .ok (.invokevirtual 121, 3) := by decide +kernel
theorem dX10_count_101 : decode cX10_count 101 = .ok (.ireturn, 1) := by decide +kernel
theorem dX10_count_102 : decode cX10_count 102 = .ok (.aload_n 0, 1) := by decide +kernel
theorem dX10_count_103 : decode cX10_count 103 = .ok (.getfield 9, 3) := by decide +kernel
theorem dX10_count_106 : decode cX10_count 106 = .ok (.sipush 605, 3) := by decide +kernel
theorem dX10_count_109 : decode cX10_count 109 = .ok (.iaload, 1) := by decide +kernel
theorem dX10_count_110 : decode cX10_count 110 = .ok (.ireturn, 1) := by decide +kernel
theorem dX10_count_111 : decode cX10_count 111 = .ok (.iconst 0, 1) := by decide +kernel
theorem dX10_count_112 : decode cX10_count 112 = .ok (.istore_n 3, 1) := by decide +kernel
theorem dX10_count_113 : decode cX10_count 113 = .ok (.iload_n 3, 1) := by decide +kernel
theorem dX10_count_114 : decode cX10_count 114 = .ok (.bipush 30, 2) := by decide +kernel
theorem dX10_count_116 : decode cX10_count 116 = .ok (.if_icmp .ge 31, 3) := by decide +kernel
theorem dX10_count_119 : decode cX10_count 119 = .ok (.iload_n 2, 1) := by decide +kernel
theorem dX10_count_120 : decode cX10_count 120 = .ok (.aload_n 0, 1) := by decide +kernel
theorem dX10_count_121 : decode cX10_count 121 = .ok (.iload_n 3, 1) := by decide +kernel
theorem dX10_count_122 : decode cX10_count 122 = .ok (.iconst 0, 1) := by decide +kernel
theorem dX10_count_123 : decode cX10_count 123 = .ok (.invokevirtual 57, 3) := by decide +kernel
theorem dX10_count_126 : decode cX10_count 126 = .ok (.ifCond .eq 12, 3) := by decide +kernel
theorem dX10_count_129 : decode cX10_count 129 = .ok (.aload_n 0, 1) := by decide +kernel
theorem dX10_count_130 : decode cX10_count 130 = .ok (.iload_n 3, 1) := by decide +kernel
theorem dX10_count_131 : decode cX10_count 131 = .ok (.iconst 3, 1) := by decide +kernel
theorem dX10_count_132 : decode cX10_count 132 = .ok (.invokevirtual 57, 3) := by decide +kernel
theorem dX10_count_135 : decode cX10_count 135 = .ok (.goto 4, 3) := by decide +kernel
theorem dX10_count_138 : decode cX10_count 138 = .ok (.iconst 0, 1) := by decide +kernel
theorem dX10_count_139 : decode cX10_count 139 = .ok (.iadd, 1) := by decide +kernel
theorem dX10_count_140 : decode cX10_count 140 = .ok (.istore_n 2, 1) := by decide +kernel
theorem dX10_count_141 : decode cX10_count 141 = .ok (.iinc 3 1, 3) := by decide +kernel
theorem dX10_count_144 : decode cX10_count 144 = .ok (.goto (-31), 3) := by decide +kernel
theorem dX10_count_147 : decode cX10_count 147 = .ok (.iload_n 2, 1) := by decide +kernel
theorem dX10_count_148 : decode cX10_count 148 = .ok (.ireturn, 1) := by decide +kernel
theorem dX10_count_149 : decode cX10_count 149 = .ok (.aload_n 0, 1) := by decide +kernel
theorem dX10_count_150 : decode cX10_count 150 = .ok (.getfield 152, 3) := by decide +kernel
theorem dX10_count_153 : decode cX10_count 153 = .ok (.ireturn, 1) := by decide +kernel
theorem dX10_count_154 : decode cX10_count 154 = .ok (.iconst 0, 1) := by decide +kernel
theorem dX10_count_155 : decode cX10_count 155 = .ok (.istore_n 3, 1) := by decide +kernel
theorem dX10_count_156 : decode cX10_count 156 = .ok (.iload_n 3, 1) := by decide +kernel
theorem dX10_count_157 : decode cX10_count 157 = .ok (.bipush 6, 2) := by decide +kernel
theorem dX10_count_159 : decode cX10_count 159 = .ok (.if_icmp .ge 26, 3) := by decide +kernel
theorem dX10_count_162 : decode cX10_count 162 = .ok (.iload_n 2, 1) := by decide +kernel
theorem dX10_count_163 : decode cX10_count 163 = .ok (.aload_n 0, 1) := by decide +kernel
theorem dX10_count_164 : decode cX10_count 164 = .ok (.getfield 40, 3) := by decide +kernel
theorem dX10_count_167 : decode cX10_count 167 = .ok (.iload_n 3, 1) := by decide +kernel
theorem dX10_count_168 : decode cX10_count 168 = .ok (.iaload, 1) := by decide +kernel
theorem dX10_count_169 : decode cX10_count 169 = .ok (.ifCond .eq 7, 3) := by decide +kernel
theorem dX10_count_172 : decode cX10_count 172 = .ok (.iconst 1, 1) := by decide +kernel
theorem dX10_count_173 : decode cX10_count 173 = .ok (.goto 4, 3) := by decide +kernel
theorem dX10_count_176 : decode cX10_count 176 = .ok (.iconst 0, 1) := by decide +kernel
theorem dX10_count_177 : decode cX10_count 177 = .ok (.iadd, 1) := by decide +kernel
theorem dX10_count_178 : decode cX10_count 178 = .ok (.istore_n 2, 1) := by decide +kernel
theorem dX10_count_179 : decode cX10_count 179 = .ok (.iinc 3 1, 3) := by decide +kernel
theorem dX10_count_182 : decode cX10_count 182 = .ok (.goto (-26), 3) := by decide +kernel
theorem dX10_count_185 : decode cX10_count 185 = .ok (.iload_n 2, 1) := by decide +kernel
theorem dX10_count_186 : decode cX10_count 186 = .ok (.ireturn, 1) := by decide +kernel
theorem dX10_count_187 : decode cX10_count 187 = .ok (.iconst (-1), 1) := by decide +kernel
theorem dX10_count_188 : decode cX10_count 188 = .ok (.ireturn, 1) := by decide +kernel
theorem dJ9_max_7cf53_0 : decode cJ9_max_7cf53 0 = .ok (.iload_n 0, 1) := by decide +kernel
theorem dJ9_max_7cf53_1 : decode cJ9_max_7cf53 1 = .ok (.iload_n 1, 1) := by decide +kernel
theorem dJ9_max_7cf53_2 : decode cJ9_max_7cf53 2 = .ok (.if_icmp .lt 7, 3) := by decide +kernel
theorem dJ9_max_7cf53_5 : decode cJ9_max_7cf53 5 = .ok (.iload_n 0, 1) := by decide +kernel
theorem dJ9_max_7cf53_6 : decode cJ9_max_7cf53 6 = .ok (.goto 4, 3) := by decide +kernel
theorem dJ9_max_7cf53_9 : decode cJ9_max_7cf53 9 = .ok (.iload_n 1, 1) := by decide +kernel
theorem dJ9_max_7cf53_10 : decode cJ9_max_7cf53 10 = .ok (.ireturn, 1) := by decide +kernel
theorem dJ9_min_7cf53_0 : decode cJ9_min_7cf53 0 = .ok (.iload_n 0, 1) := by decide +kernel
theorem dJ9_min_7cf53_1 : decode cJ9_min_7cf53 1 = .ok (.iload_n 1, 1) := by decide +kernel
theorem dJ9_min_7cf53_2 : decode cJ9_min_7cf53 2 = .ok (.if_icmp .gt 7, 3) := by decide +kernel
theorem dJ9_min_7cf53_5 : decode cJ9_min_7cf53 5 = .ok (.iload_n 0, 1) := by decide +kernel
theorem dJ9_min_7cf53_6 : decode cJ9_min_7cf53 6 = .ok (.goto 4, 3) := by decide +kernel
theorem dJ9_min_7cf53_9 : decode cJ9_min_7cf53 9 = .ok (.iload_n 1, 1) := by decide +kernel
theorem dJ9_min_7cf53_10 : decode cJ9_min_7cf53 10 = .ok (.ireturn, 1) := by decide +kernel
theorem dL_law_0 : decode cL_law 0 = .ok (.new 7, 3) := by decide +kernel
theorem dL_law_3 : decode cL_law 3 = .ok (.dup, 1) := by decide +kernel
theorem dL_law_4 : decode cL_law 4 = .ok (.invokespecial 9, 3) := by decide +kernel
theorem dL_law_7 : decode cL_law 7 = .ok (.astore_n 1, 1) := by decide +kernel
theorem dL_law_8 : decode cL_law 8 = .ok (.new 10, 3) := by decide +kernel
theorem dL_law_11 : decode cL_law 11 = .ok (.dup, 1) := by decide +kernel
theorem dL_law_12 : decode cL_law 12 = .ok (.invokespecial 12, 3) := by decide +kernel
theorem dL_law_15 : decode cL_law 15 = .ok (.astore_n 2, 1) := by decide +kernel
theorem dL_law_16 : decode cL_law 16 = .ok (.iconst 0, 1) := by decide +kernel
theorem dL_law_17 : decode cL_law 17 = .ok (.istore_n 3, 1) := by decide +kernel
theorem dL_law_18 : decode cL_law 18 = .ok (.iload_n 3, 1) := by decide +kernel
theorem dL_law_19 : decode cL_law 19 = .ok (.aload_n 0, 1) := by decide +kernel
theorem dL_law_20 : decode cL_law 20 = .ok (.arraylength, 1) := by decide +kernel
theorem dL_law_21 : decode cL_law 21 = .ok (.iconst 4, 1) := by decide +kernel
theorem dL_law_22 : decode cL_law 22 = .ok (.isub, 1) := by decide +kernel
theorem dL_law_23 : decode cL_law 23 = .ok (.if_icmp .gt 1233, 3) := by decide +kernel
theorem dL_law_26 : decode cL_law 26 = .ok (.aload_n 0, 1) := by decide +kernel
theorem dL_law_27 : decode cL_law 27 = .ok (.iload_n 3, 1) := by decide +kernel
theorem dL_law_28 : decode cL_law 28 = .ok (.iaload, 1) := by decide +kernel
theorem dL_law_29 : decode cL_law 29 = .ok (.bipush 63, 2) := by decide +kernel
theorem dL_law_31 : decode cL_law 31 = .ok (.iand, 1) := by decide +kernel
theorem dL_law_32 : decode cL_law 32 = .ok (.tableswitch 1218 0 35 #[160, 193, 236, 259, 292, 325, 358, 401, 434, 477, 510, 543, 566, 599, 622, 645, 678, 711, 734, 757, 770, 813, 846, 869, 902, 925, 958, 991, 1014, 1027, 1040, 1053, 1086, 1119, 1162, 1195], 160) := by decide +kernel
theorem dL_law_192 : decode cL_law 192 = .ok (.aload_n 1, 1) := by decide +kernel
theorem dL_law_193 : decode cL_law 193 = .ok (.aload_n 0, 1) := by decide +kernel
theorem dL_law_194 : decode cL_law 194 = .ok (.iload_n 3, 1) := by decide +kernel
theorem dL_law_195 : decode cL_law 195 = .ok (.iconst 1, 1) := by decide +kernel
theorem dL_law_196 : decode cL_law 196 = .ok (.iadd, 1) := by decide +kernel
theorem dL_law_197 : decode cL_law 197 = .ok (.iaload, 1) := by decide +kernel
theorem dL_law_198 : decode cL_law 198 = .ok (.aload_n 0, 1) := by decide +kernel
theorem dL_law_199 : decode cL_law 199 = .ok (.iload_n 3, 1) := by decide +kernel
theorem dL_law_200 : decode cL_law 200 = .ok (.iconst 2, 1) := by decide +kernel
theorem dL_law_201 : decode cL_law 201 = .ok (.iadd, 1) := by decide +kernel
theorem dL_law_202 : decode cL_law 202 = .ok (.iaload, 1) := by decide +kernel
theorem dL_law_203 : decode cL_law 203 = .ok (.invokevirtual 13, 3) := by decide +kernel
theorem dL_law_206 : decode cL_law 206 = .ok (.aload_n 2, 1) := by decide +kernel
theorem dL_law_207 : decode cL_law 207 = .ok (.aload_n 0, 1) := by decide +kernel
theorem dL_law_208 : decode cL_law 208 = .ok (.iload_n 3, 1) := by decide +kernel
theorem dL_law_209 : decode cL_law 209 = .ok (.iconst 1, 1) := by decide +kernel
theorem dL_law_210 : decode cL_law 210 = .ok (.iadd, 1) := by decide +kernel
theorem dL_law_211 : decode cL_law 211 = .ok (.iaload, 1) := by decide +kernel
theorem dL_law_212 : decode cL_law 212 = .ok (.aload_n 0, 1) := by decide +kernel
theorem dL_law_213 : decode cL_law 213 = .ok (.iload_n 3, 1) := by decide +kernel
theorem dL_law_214 : decode cL_law 214 = .ok (.iconst 2, 1) := by decide +kernel
theorem dL_law_215 : decode cL_law 215 = .ok (.iadd, 1) := by decide +kernel
theorem dL_law_216 : decode cL_law 216 = .ok (.iaload, 1) := by decide +kernel
theorem dL_law_217 : decode cL_law 217 = .ok (.invokevirtual 17, 3) := by decide +kernel
theorem dL_law_220 : decode cL_law 220 = .ok (.if_icmp .eq 1030, 3) := by decide +kernel
theorem dL_law_223 : decode cL_law 223 = .ok (.iconst 0, 1) := by decide +kernel
theorem dL_law_224 : decode cL_law 224 = .ok (.ireturn, 1) := by decide +kernel
theorem dL_law_225 : decode cL_law 225 = .ok (.aload_n 1, 1) := by decide +kernel
theorem dL_law_226 : decode cL_law 226 = .ok (.aload_n 0, 1) := by decide +kernel
theorem dL_law_227 : decode cL_law 227 = .ok (.iload_n 3, 1) := by decide +kernel
theorem dL_law_228 : decode cL_law 228 = .ok (.iconst 1, 1) := by decide +kernel
theorem dL_law_229 : decode cL_law 229 = .ok (.iadd, 1) := by decide +kernel
theorem dL_law_230 : decode cL_law 230 = .ok (.iaload, 1) := by decide +kernel
theorem dL_law_231 : decode cL_law 231 = .ok (.aload_n 0, 1) := by decide +kernel
theorem dL_law_232 : decode cL_law 232 = .ok (.iload_n 3, 1) := by decide +kernel
theorem dL_law_233 : decode cL_law 233 = .ok (.iconst 2, 1) := by decide +kernel
theorem dL_law_234 : decode cL_law 234 = .ok (.iadd, 1) := by decide +kernel
theorem dL_law_235 : decode cL_law 235 = .ok (.iaload, 1) := by decide +kernel
theorem dL_law_236 : decode cL_law 236 = .ok (.aload_n 0, 1) := by decide +kernel
theorem dL_law_237 : decode cL_law 237 = .ok (.iload_n 3, 1) := by decide +kernel
theorem dL_law_238 : decode cL_law 238 = .ok (.iconst 3, 1) := by decide +kernel
theorem dL_law_239 : decode cL_law 239 = .ok (.iadd, 1) := by decide +kernel
theorem dL_law_240 : decode cL_law 240 = .ok (.iaload, 1) := by decide +kernel
theorem dL_law_241 : decode cL_law 241 = .ok (.invokevirtual 18, 3) := by decide +kernel
theorem dL_law_244 : decode cL_law 244 = .ok (.aload_n 2, 1) := by decide +kernel
theorem dL_law_245 : decode cL_law 245 = .ok (.aload_n 0, 1) := by decide +kernel
theorem dL_law_246 : decode cL_law 246 = .ok (.iload_n 3, 1) := by decide +kernel
theorem dL_law_247 : decode cL_law 247 = .ok (.iconst 1, 1) := by decide +kernel
theorem dL_law_248 : decode cL_law 248 = .ok (.iadd, 1) := by decide +kernel
theorem dL_law_249 : decode cL_law 249 = .ok (.iaload, 1) := by decide +kernel
theorem dL_law_250 : decode cL_law 250 = .ok (.aload_n 0, 1) := by decide +kernel
theorem dL_law_251 : decode cL_law 251 = .ok (.iload_n 3, 1) := by decide +kernel
theorem dL_law_252 : decode cL_law 252 = .ok (.iconst 2, 1) := by decide +kernel
theorem dL_law_253 : decode cL_law 253 = .ok (.iadd, 1) := by decide +kernel
theorem dL_law_254 : decode cL_law 254 = .ok (.iaload, 1) := by decide +kernel
theorem dL_law_255 : decode cL_law 255 = .ok (.aload_n 0, 1) := by decide +kernel
theorem dL_law_256 : decode cL_law 256 = .ok (.iload_n 3, 1) := by decide +kernel
theorem dL_law_257 : decode cL_law 257 = .ok (.iconst 3, 1) := by decide +kernel
theorem dL_law_258 : decode cL_law 258 = .ok (.iadd, 1) := by decide +kernel
theorem dL_law_259 : decode cL_law 259 = .ok (.iaload, 1) := by decide +kernel
theorem dL_law_260 : decode cL_law 260 = .ok (.invokevirtual 22, 3) := by decide +kernel
theorem dL_law_263 : decode cL_law 263 = .ok (.if_icmp .eq 987, 3) := by decide +kernel
theorem dL_law_266 : decode cL_law 266 = .ok (.iconst 0, 1) := by decide +kernel
theorem dL_law_267 : decode cL_law 267 = .ok (.ireturn, 1) := by decide +kernel
theorem dL_law_268 : decode cL_law 268 = .ok (.aload_n 1, 1) := by decide +kernel
theorem dL_law_269 : decode cL_law 269 = .ok (.aload_n 0, 1) := by decide +kernel
theorem dL_law_270 : decode cL_law 270 = .ok (.iload_n 3, 1) := by decide +kernel
theorem dL_law_271 : decode cL_law 271 = .ok (.iconst 1, 1) := by decide +kernel
theorem dL_law_272 : decode cL_law 272 = .ok (.iadd, 1) := by decide +kernel
theorem dL_law_273 : decode cL_law 273 = .ok (.iaload, 1) := by decide +kernel
theorem dL_law_274 : decode cL_law 274 = .ok (.invokevirtual 23, 3) := by decide +kernel
theorem dL_law_277 : decode cL_law 277 = .ok (.aload_n 2, 1) := by decide +kernel
theorem dL_law_278 : decode cL_law 278 = .ok (.aload_n 0, 1) := by decide +kernel
theorem dL_law_279 : decode cL_law 279 = .ok (.iload_n 3, 1) := by decide +kernel
theorem dL_law_280 : decode cL_law 280 = .ok (.iconst 1, 1) := by decide +kernel
theorem dL_law_281 : decode cL_law 281 = .ok (.iadd, 1) := by decide +kernel
theorem dL_law_282 : decode cL_law 282 = .ok (.iaload, 1) := by decide +kernel
theorem dL_law_283 : decode cL_law 283 = .ok (.invokevirtual 27, 3) := by decide +kernel
theorem dL_law_286 : decode cL_law 286 = .ok (.if_icmp .eq 964, 3) := by decide +kernel
theorem dL_law_289 : decode cL_law 289 = .ok (.iconst 0, 1) := by decide +kernel
theorem dL_law_290 : decode cL_law 290 = .ok (.ireturn, 1) := by decide +kernel
theorem dL_law_291 : decode cL_law 291 = .ok (.aload_n 1, 1) := by decide +kernel
theorem dL_law_292 : decode cL_law 292 = .ok (.aload_n 0, 1) := by decide +kernel
theorem dL_law_293 : decode cL_law 293 = .ok (.iload_n 3, 1) := by decide +kernel
theorem dL_law_294 : decode cL_law 294 = .ok (.iconst 1, 1) := by decide +kernel
theorem dL_law_295 : decode cL_law 295 = .ok (.iadd, 1) := by decide +kernel
theorem dL_law_296 : decode cL_law 296 = .ok (.iaload, 1) := by decide +kernel
theorem dL_law_297 : decode cL_law 297 = .ok (.aload_n 0, 1) := by decide +kernel
theorem dL_law_298 : decode cL_law 298 = .ok (.iload_n 3, 1) := by decide +kernel
theorem dL_law_299 : decode cL_law 299 = .ok (.iconst 2, 1) := by decide +kernel
theorem dL_law_300 : decode cL_law 300 = .ok (.iadd, 1) := by decide +kernel
theorem dL_law_301 : decode cL_law 301 = .ok (.iaload, 1) := by decide +kernel
theorem dL_law_302 : decode cL_law 302 = .ok (.invokevirtual 28, 3) := by decide +kernel
theorem dL_law_305 : decode cL_law 305 = .ok (.aload_n 2, 1) := by decide +kernel
theorem dL_law_306 : decode cL_law 306 = .ok (.aload_n 0, 1) := by decide +kernel
theorem dL_law_307 : decode cL_law 307 = .ok (.iload_n 3, 1) := by decide +kernel
theorem dL_law_308 : decode cL_law 308 = .ok (.iconst 1, 1) := by decide +kernel
theorem dL_law_309 : decode cL_law 309 = .ok (.iadd, 1) := by decide +kernel
theorem dL_law_310 : decode cL_law 310 = .ok (.iaload, 1) := by decide +kernel
theorem dL_law_311 : decode cL_law 311 = .ok (.aload_n 0, 1) := by decide +kernel
theorem dL_law_312 : decode cL_law 312 = .ok (.iload_n 3, 1) := by decide +kernel
theorem dL_law_313 : decode cL_law 313 = .ok (.iconst 2, 1) := by decide +kernel
theorem dL_law_314 : decode cL_law 314 = .ok (.iadd, 1) := by decide +kernel
theorem dL_law_315 : decode cL_law 315 = .ok (.iaload, 1) := by decide +kernel
theorem dL_law_316 : decode cL_law 316 = .ok (.invokevirtual 31, 3) := by decide +kernel
theorem dL_law_319 : decode cL_law 319 = .ok (.if_icmp .eq 931, 3) := by decide +kernel
theorem dL_law_322 : decode cL_law 322 = .ok (.iconst 0, 1) := by decide +kernel
theorem dL_law_323 : decode cL_law 323 = .ok (.ireturn, 1) := by decide +kernel
theorem dL_law_324 : decode cL_law 324 = .ok (.aload_n 1, 1) := by decide +kernel
theorem dL_law_325 : decode cL_law 325 = .ok (.aload_n 0, 1) := by decide +kernel
theorem dL_law_326 : decode cL_law 326 = .ok (.iload_n 3, 1) := by decide +kernel
theorem dL_law_327 : decode cL_law 327 = .ok (.iconst 1, 1) := by decide +kernel
theorem dL_law_328 : decode cL_law 328 = .ok (.iadd, 1) := by decide +kernel
theorem dL_law_329 : decode cL_law 329 = .ok (.iaload, 1) := by decide +kernel
theorem dL_law_330 : decode cL_law 330 = .ok (.aload_n 0, 1) := by decide +kernel
theorem dL_law_331 : decode cL_law 331 = .ok (.iload_n 3, 1) := by decide +kernel
theorem dL_law_332 : decode cL_law 332 = .ok (.iconst 2, 1) := by decide +kernel
theorem dL_law_333 : decode cL_law 333 = .ok (.iadd, 1) := by decide +kernel
theorem dL_law_334 : decode cL_law 334 = .ok (.iaload, 1) := by decide +kernel
theorem dL_law_335 : decode cL_law 335 = .ok (.invokevirtual 32, 3) := by decide +kernel
theorem dL_law_338 : decode cL_law 338 = .ok (.aload_n 2, 1) := by decide +kernel
theorem dL_law_339 : decode cL_law 339 = .ok (.aload_n 0, 1) := by decide +kernel
theorem dL_law_340 : decode cL_law 340 = .ok (.iload_n 3, 1) := by decide +kernel
theorem dL_law_341 : decode cL_law 341 = .ok (.iconst 1, 1) := by decide +kernel
theorem dL_law_342 : decode cL_law 342 = .ok (.iadd, 1) := by decide +kernel
theorem dL_law_343 : decode cL_law 343 = .ok (.iaload, 1) := by decide +kernel
theorem dL_law_344 : decode cL_law 344 = .ok (.aload_n 0, 1) := by decide +kernel
theorem dL_law_345 : decode cL_law 345 = .ok (.iload_n 3, 1) := by decide +kernel
theorem dL_law_346 : decode cL_law 346 = .ok (.iconst 2, 1) := by decide +kernel
theorem dL_law_347 : decode cL_law 347 = .ok (.iadd, 1) := by decide +kernel
theorem dL_law_348 : decode cL_law 348 = .ok (.iaload, 1) := by decide +kernel
theorem dL_law_349 : decode cL_law 349 = .ok (.invokevirtual 35, 3) := by decide +kernel
theorem dL_law_352 : decode cL_law 352 = .ok (.if_icmp .eq 898, 3) := by decide +kernel
theorem dL_law_355 : decode cL_law 355 = .ok (.iconst 0, 1) := by decide +kernel
theorem dL_law_356 : decode cL_law 356 = .ok (.ireturn, 1) := by decide +kernel
theorem dL_law_357 : decode cL_law 357 = .ok (.aload_n 1, 1) := by decide +kernel
theorem dL_law_358 : decode cL_law 358 = .ok (.aload_n 0, 1) := by decide +kernel
theorem dL_law_359 : decode cL_law 359 = .ok (.iload_n 3, 1) := by decide +kernel
theorem dL_law_360 : decode cL_law 360 = .ok (.iconst 1, 1) := by decide +kernel
theorem dL_law_361 : decode cL_law 361 = .ok (.iadd, 1) := by decide +kernel
theorem dL_law_362 : decode cL_law 362 = .ok (.iaload, 1) := by decide +kernel
theorem dL_law_363 : decode cL_law 363 = .ok (.aload_n 0, 1) := by decide +kernel
theorem dL_law_364 : decode cL_law 364 = .ok (.iload_n 3, 1) := by decide +kernel
theorem dL_law_365 : decode cL_law 365 = .ok (.iconst 2, 1) := by decide +kernel
theorem dL_law_366 : decode cL_law 366 = .ok (.iadd, 1) := by decide +kernel
theorem dL_law_367 : decode cL_law 367 = .ok (.iaload, 1) := by decide +kernel
theorem dL_law_368 : decode cL_law 368 = .ok (.invokevirtual 36, 3) := by decide +kernel
theorem dL_law_371 : decode cL_law 371 = .ok (.aload_n 2, 1) := by decide +kernel
theorem dL_law_372 : decode cL_law 372 = .ok (.aload_n 0, 1) := by decide +kernel
theorem dL_law_373 : decode cL_law 373 = .ok (.iload_n 3, 1) := by decide +kernel
theorem dL_law_374 : decode cL_law 374 = .ok (.iconst 1, 1) := by decide +kernel
theorem dL_law_375 : decode cL_law 375 = .ok (.iadd, 1) := by decide +kernel
theorem dL_law_376 : decode cL_law 376 = .ok (.iaload, 1) := by decide +kernel
theorem dL_law_377 : decode cL_law 377 = .ok (.aload_n 0, 1) := by decide +kernel
theorem dL_law_378 : decode cL_law 378 = .ok (.iload_n 3, 1) := by decide +kernel
theorem dL_law_379 : decode cL_law 379 = .ok (.iconst 2, 1) := by decide +kernel
theorem dL_law_380 : decode cL_law 380 = .ok (.iadd, 1) := by decide +kernel
theorem dL_law_381 : decode cL_law 381 = .ok (.iaload, 1) := by decide +kernel
theorem dL_law_382 : decode cL_law 382 = .ok (.invokevirtual 39, 3) := by decide +kernel
theorem dL_law_385 : decode cL_law 385 = .ok (.if_icmp .eq 865, 3) := by decide +kernel
theorem dL_law_388 : decode cL_law 388 = .ok (.iconst 0, 1) := by decide +kernel
theorem dL_law_389 : decode cL_law 389 = .ok (.ireturn, 1) := by decide +kernel
theorem dL_law_390 : decode cL_law 390 = .ok (.aload_n 1, 1) := by decide +kernel
theorem dL_law_391 : decode cL_law 391 = .ok (.aload_n 0, 1) := by decide +kernel
theorem dL_law_392 : decode cL_law 392 = .ok (.iload_n 3, 1) := by decide +kernel
theorem dL_law_393 : decode cL_law 393 = .ok (.iconst 1, 1) := by decide +kernel
theorem dL_law_394 : decode cL_law 394 = .ok (.iadd, 1) := by decide +kernel
theorem dL_law_395 : decode cL_law 395 = .ok (.iaload, 1) := by decide +kernel
theorem dL_law_396 : decode cL_law 396 = .ok (.aload_n 0, 1) := by decide +kernel
theorem dL_law_397 : decode cL_law 397 = .ok (.iload_n 3, 1) := by decide +kernel
theorem dL_law_398 : decode cL_law 398 = .ok (.iconst 2, 1) := by decide +kernel
theorem dL_law_399 : decode cL_law 399 = .ok (.iadd, 1) := by decide +kernel
theorem dL_law_400 : decode cL_law 400 = .ok (.iaload, 1) := by decide +kernel
theorem dL_law_401 : decode cL_law 401 = .ok (.aload_n 0, 1) := by decide +kernel
theorem dL_law_402 : decode cL_law 402 = .ok (.iload_n 3, 1) := by decide +kernel
theorem dL_law_403 : decode cL_law 403 = .ok (.iconst 3, 1) := by decide +kernel
theorem dL_law_404 : decode cL_law 404 = .ok (.iadd, 1) := by decide +kernel
theorem dL_law_405 : decode cL_law 405 = .ok (.iaload, 1) := by decide +kernel
theorem dL_law_406 : decode cL_law 406 = .ok (.invokevirtual 40, 3) := by decide +kernel
theorem dL_law_409 : decode cL_law 409 = .ok (.aload_n 2, 1) := by decide +kernel
theorem dL_law_410 : decode cL_law 410 = .ok (.aload_n 0, 1) := by decide +kernel
theorem dL_law_411 : decode cL_law 411 = .ok (.iload_n 3, 1) := by decide +kernel
theorem dL_law_412 : decode cL_law 412 = .ok (.iconst 1, 1) := by decide +kernel
theorem dL_law_413 : decode cL_law 413 = .ok (.iadd, 1) := by decide +kernel
theorem dL_law_414 : decode cL_law 414 = .ok (.iaload, 1) := by decide +kernel
theorem dL_law_415 : decode cL_law 415 = .ok (.aload_n 0, 1) := by decide +kernel
theorem dL_law_416 : decode cL_law 416 = .ok (.iload_n 3, 1) := by decide +kernel
theorem dL_law_417 : decode cL_law 417 = .ok (.iconst 2, 1) := by decide +kernel
theorem dL_law_418 : decode cL_law 418 = .ok (.iadd, 1) := by decide +kernel
theorem dL_law_419 : decode cL_law 419 = .ok (.iaload, 1) := by decide +kernel
theorem dL_law_420 : decode cL_law 420 = .ok (.aload_n 0, 1) := by decide +kernel
theorem dL_law_421 : decode cL_law 421 = .ok (.iload_n 3, 1) := by decide +kernel
theorem dL_law_422 : decode cL_law 422 = .ok (.iconst 3, 1) := by decide +kernel
theorem dL_law_423 : decode cL_law 423 = .ok (.iadd, 1) := by decide +kernel
theorem dL_law_424 : decode cL_law 424 = .ok (.iaload, 1) := by decide +kernel
theorem dL_law_425 : decode cL_law 425 = .ok (.invokevirtual 43, 3) := by decide +kernel
theorem dL_law_428 : decode cL_law 428 = .ok (.if_icmp .eq 822, 3) := by decide +kernel
theorem dL_law_431 : decode cL_law 431 = .ok (.iconst 0, 1) := by decide +kernel
theorem dL_law_432 : decode cL_law 432 = .ok (.ireturn, 1) := by decide +kernel
theorem dL_law_433 : decode cL_law 433 = .ok (.aload_n 1, 1) := by decide +kernel
theorem dL_law_434 : decode cL_law 434 = .ok (.aload_n 0, 1) := by decide +kernel
theorem dL_law_435 : decode cL_law 435 = .ok (.iload_n 3, 1) := by decide +kernel
theorem dL_law_436 : decode cL_law 436 = .ok (.iconst 1, 1) := by decide +kernel
theorem dL_law_437 : decode cL_law 437 = .ok (.iadd, 1) := by decide +kernel
theorem dL_law_438 : decode cL_law 438 = .ok (.iaload, 1) := by decide +kernel
theorem dL_law_439 : decode cL_law 439 = .ok (.aload_n 0, 1) := by decide +kernel
theorem dL_law_440 : decode cL_law 440 = .ok (.iload_n 3, 1) := by decide +kernel
theorem dL_law_441 : decode cL_law 441 = .ok (.iconst 2, 1) := by decide +kernel
theorem dL_law_442 : decode cL_law 442 = .ok (.iadd, 1) := by decide +kernel
theorem dL_law_443 : decode cL_law 443 = .ok (.iaload, 1) := by decide +kernel
theorem dL_law_444 : decode cL_law 444 = .ok (.invokevirtual 44, 3) := by decide +kernel
theorem dL_law_447 : decode cL_law 447 = .ok (.aload_n 2, 1) := by decide +kernel
theorem dL_law_448 : decode cL_law 448 = .ok (.aload_n 0, 1) := by decide +kernel
theorem dL_law_449 : decode cL_law 449 = .ok (.iload_n 3, 1) := by decide +kernel
theorem dL_law_450 : decode cL_law 450 = .ok (.iconst 1, 1) := by decide +kernel
theorem dL_law_451 : decode cL_law 451 = .ok (.iadd, 1) := by decide +kernel
theorem dL_law_452 : decode cL_law 452 = .ok (.iaload, 1) := by decide +kernel
theorem dL_law_453 : decode cL_law 453 = .ok (.aload_n 0, 1) := by decide +kernel
theorem dL_law_454 : decode cL_law 454 = .ok (.iload_n 3, 1) := by decide +kernel
theorem dL_law_455 : decode cL_law 455 = .ok (.iconst 2, 1) := by decide +kernel
theorem dL_law_456 : decode cL_law 456 = .ok (.iadd, 1) := by decide +kernel
theorem dL_law_457 : decode cL_law 457 = .ok (.iaload, 1) := by decide +kernel
theorem dL_law_458 : decode cL_law 458 = .ok (.invokevirtual 47, 3) := by decide +kernel
theorem dL_law_461 : decode cL_law 461 = .ok (.if_icmp .eq 789, 3) := by decide +kernel
theorem dL_law_464 : decode cL_law 464 = .ok (.iconst 0, 1) := by decide +kernel
theorem dL_law_465 : decode cL_law 465 = .ok (.ireturn, 1) := by decide +kernel
theorem dL_law_466 : decode cL_law 466 = .ok (.aload_n 1, 1) := by decide +kernel
theorem dL_law_467 : decode cL_law 467 = .ok (.aload_n 0, 1) := by decide +kernel
theorem dL_law_468 : decode cL_law 468 = .ok (.iload_n 3, 1) := by decide +kernel
theorem dL_law_469 : decode cL_law 469 = .ok (.iconst 1, 1) := by decide +kernel
theorem dL_law_470 : decode cL_law 470 = .ok (.iadd, 1) := by decide +kernel
theorem dL_law_471 : decode cL_law 471 = .ok (.iaload, 1) := by decide +kernel
theorem dL_law_472 : decode cL_law 472 = .ok (.aload_n 0, 1) := by decide +kernel
theorem dL_law_473 : decode cL_law 473 = .ok (.iload_n 3, 1) := by decide +kernel
theorem dL_law_474 : decode cL_law 474 = .ok (.iconst 2, 1) := by decide +kernel
theorem dL_law_475 : decode cL_law 475 = .ok (.iadd, 1) := by decide +kernel
theorem dL_law_476 : decode cL_law 476 = .ok (.iaload, 1) := by decide +kernel
theorem dL_law_477 : decode cL_law 477 = .ok (.aload_n 0, 1) := by decide +kernel
theorem dL_law_478 : decode cL_law 478 = .ok (.iload_n 3, 1) := by decide +kernel
theorem dL_law_479 : decode cL_law 479 = .ok (.iconst 3, 1) := by decide +kernel
theorem dL_law_480 : decode cL_law 480 = .ok (.iadd, 1) := by decide +kernel
theorem dL_law_481 : decode cL_law 481 = .ok (.iaload, 1) := by decide +kernel
theorem dL_law_482 : decode cL_law 482 = .ok (.invokevirtual 48, 3) := by decide +kernel
theorem dL_law_485 : decode cL_law 485 = .ok (.aload_n 2, 1) := by decide +kernel
theorem dL_law_486 : decode cL_law 486 = .ok (.aload_n 0, 1) := by decide +kernel
theorem dL_law_487 : decode cL_law 487 = .ok (.iload_n 3, 1) := by decide +kernel
theorem dL_law_488 : decode cL_law 488 = .ok (.iconst 1, 1) := by decide +kernel
theorem dL_law_489 : decode cL_law 489 = .ok (.iadd, 1) := by decide +kernel
theorem dL_law_490 : decode cL_law 490 = .ok (.iaload, 1) := by decide +kernel
theorem dL_law_491 : decode cL_law 491 = .ok (.aload_n 0, 1) := by decide +kernel
theorem dL_law_492 : decode cL_law 492 = .ok (.iload_n 3, 1) := by decide +kernel
theorem dL_law_493 : decode cL_law 493 = .ok (.iconst 2, 1) := by decide +kernel
theorem dL_law_494 : decode cL_law 494 = .ok (.iadd, 1) := by decide +kernel
theorem dL_law_495 : decode cL_law 495 = .ok (.iaload, 1) := by decide +kernel
theorem dL_law_496 : decode cL_law 496 = .ok (.aload_n 0, 1) := by decide +kernel
theorem dL_law_497 : decode cL_law 497 = .ok (.iload_n 3, 1) := by decide +kernel
theorem dL_law_498 : decode cL_law 498 = .ok (.iconst 3, 1) := by decide +kernel
theorem dL_law_499 : decode cL_law 499 = .ok (.iadd, 1) := by decide +kernel
theorem dL_law_500 : decode cL_law 500 = .ok (.iaload, 1) := by decide +kernel
theorem dL_law_501 : decode cL_law 501 = .ok (.invokevirtual 51, 3) := by decide +kernel
theorem dL_law_504 : decode cL_law 504 = .ok (.if_icmp .eq 746, 3) := by decide +kernel
theorem dL_law_507 : decode cL_law 507 = .ok (.iconst 0, 1) := by decide +kernel
theorem dL_law_508 : decode cL_law 508 = .ok (.ireturn, 1) := by decide +kernel
theorem dL_law_509 : decode cL_law 509 = .ok (.aload_n 1, 1) := by decide +kernel
theorem dL_law_510 : decode cL_law 510 = .ok (.aload_n 0, 1) := by decide +kernel
theorem dL_law_511 : decode cL_law 511 = .ok (.iload_n 3, 1) := by decide +kernel
theorem dL_law_512 : decode cL_law 512 = .ok (.iconst 1, 1) := by decide +kernel
theorem dL_law_513 : decode cL_law 513 = .ok (.iadd, 1) := by decide +kernel
theorem dL_law_514 : decode cL_law 514 = .ok (.iaload, 1) := by decide +kernel
theorem dL_law_515 : decode cL_law 515 = .ok (.aload_n 0, 1) := by decide +kernel
theorem dL_law_516 : decode cL_law 516 = .ok (.iload_n 3, 1) := by decide +kernel
theorem dL_law_517 : decode cL_law 517 = .ok (.iconst 2, 1) := by decide +kernel
theorem dL_law_518 : decode cL_law 518 = .ok (.iadd, 1) := by decide +kernel
theorem dL_law_519 : decode cL_law 519 = .ok (.iaload, 1) := by decide +kernel
theorem dL_law_520 : decode cL_law 520 = .ok (.invokevirtual 52, 3) := by decide +kernel
theorem dL_law_523 : decode cL_law 523 = .ok (.aload_n 2, 1) := by decide +kernel
theorem dL_law_524 : decode cL_law 524 = .ok (.aload_n 0, 1) := by decide +kernel
theorem dL_law_525 : decode cL_law 525 = .ok (.iload_n 3, 1) := by decide +kernel
theorem dL_law_526 : decode cL_law 526 = .ok (.iconst 1, 1) := by decide +kernel
theorem dL_law_527 : decode cL_law 527 = .ok (.iadd, 1) := by decide +kernel
theorem dL_law_528 : decode cL_law 528 = .ok (.iaload, 1) := by decide +kernel
theorem dL_law_529 : decode cL_law 529 = .ok (.aload_n 0, 1) := by decide +kernel
theorem dL_law_530 : decode cL_law 530 = .ok (.iload_n 3, 1) := by decide +kernel
theorem dL_law_531 : decode cL_law 531 = .ok (.iconst 2, 1) := by decide +kernel
theorem dL_law_532 : decode cL_law 532 = .ok (.iadd, 1) := by decide +kernel
theorem dL_law_533 : decode cL_law 533 = .ok (.iaload, 1) := by decide +kernel
theorem dL_law_534 : decode cL_law 534 = .ok (.invokevirtual 55, 3) := by decide +kernel
theorem dL_law_537 : decode cL_law 537 = .ok (.if_icmp .eq 713, 3) := by decide +kernel
theorem dL_law_540 : decode cL_law 540 = .ok (.iconst 0, 1) := by decide +kernel
theorem dL_law_541 : decode cL_law 541 = .ok (.ireturn, 1) := by decide +kernel
theorem dL_law_542 : decode cL_law 542 = .ok (.aload_n 1, 1) := by decide +kernel
theorem dL_law_543 : decode cL_law 543 = .ok (.aload_n 0, 1) := by decide +kernel
theorem dL_law_544 : decode cL_law 544 = .ok (.iload_n 3, 1) := by decide +kernel
theorem dL_law_545 : decode cL_law 545 = .ok (.iconst 1, 1) := by decide +kernel
theorem dL_law_546 : decode cL_law 546 = .ok (.iadd, 1) := by decide +kernel
theorem dL_law_547 : decode cL_law 547 = .ok (.iaload, 1) := by decide +kernel
theorem dL_law_548 : decode cL_law 548 = .ok (.aload_n 0, 1) := by decide +kernel
theorem dL_law_549 : decode cL_law 549 = .ok (.iload_n 3, 1) := by decide +kernel
theorem dL_law_550 : decode cL_law 550 = .ok (.iconst 2, 1) := by decide +kernel
theorem dL_law_551 : decode cL_law 551 = .ok (.iadd, 1) := by decide +kernel
theorem dL_law_552 : decode cL_law 552 = .ok (.iaload, 1) := by decide +kernel
theorem dL_law_553 : decode cL_law 553 = .ok (.invokevirtual 56, 3) := by decide +kernel
theorem dL_law_556 : decode cL_law 556 = .ok (.aload_n 2, 1) := by decide +kernel
theorem dL_law_557 : decode cL_law 557 = .ok (.aload_n 0, 1) := by decide +kernel
theorem dL_law_558 : decode cL_law 558 = .ok (.iload_n 3, 1) := by decide +kernel
theorem dL_law_559 : decode cL_law 559 = .ok (.iconst 1, 1) := by decide +kernel
theorem dL_law_560 : decode cL_law 560 = .ok (.iadd, 1) := by decide +kernel
theorem dL_law_561 : decode cL_law 561 = .ok (.iaload, 1) := by decide +kernel
theorem dL_law_562 : decode cL_law 562 = .ok (.aload_n 0, 1) := by decide +kernel
theorem dL_law_563 : decode cL_law 563 = .ok (.iload_n 3, 1) := by decide +kernel
theorem dL_law_564 : decode cL_law 564 = .ok (.iconst 2, 1) := by decide +kernel
theorem dL_law_565 : decode cL_law 565 = .ok (.iadd, 1) := by decide +kernel
theorem dL_law_566 : decode cL_law 566 = .ok (.iaload, 1) := by decide +kernel
theorem dL_law_567 : decode cL_law 567 = .ok (.invokevirtual 59, 3) := by decide +kernel
theorem dL_law_570 : decode cL_law 570 = .ok (.if_icmp .eq 680, 3) := by decide +kernel
theorem dL_law_573 : decode cL_law 573 = .ok (.iconst 0, 1) := by decide +kernel
theorem dL_law_574 : decode cL_law 574 = .ok (.ireturn, 1) := by decide +kernel
theorem dL_law_575 : decode cL_law 575 = .ok (.aload_n 1, 1) := by decide +kernel
theorem dL_law_576 : decode cL_law 576 = .ok (.aload_n 0, 1) := by decide +kernel
theorem dL_law_577 : decode cL_law 577 = .ok (.iload_n 3, 1) := by decide +kernel
theorem dL_law_578 : decode cL_law 578 = .ok (.iconst 1, 1) := by decide +kernel
theorem dL_law_579 : decode cL_law 579 = .ok (.iadd, 1) := by decide +kernel
theorem dL_law_580 : decode cL_law 580 = .ok (.iaload, 1) := by decide +kernel
theorem dL_law_581 : decode cL_law 581 = .ok (.invokevirtual 60, 3) := by decide +kernel
theorem dL_law_584 : decode cL_law 584 = .ok (.aload_n 2, 1) := by decide +kernel
theorem dL_law_585 : decode cL_law 585 = .ok (.aload_n 0, 1) := by decide +kernel
theorem dL_law_586 : decode cL_law 586 = .ok (.iload_n 3, 1) := by decide +kernel
theorem dL_law_587 : decode cL_law 587 = .ok (.iconst 1, 1) := by decide +kernel
theorem dL_law_588 : decode cL_law 588 = .ok (.iadd, 1) := by decide +kernel
theorem dL_law_589 : decode cL_law 589 = .ok (.iaload, 1) := by decide +kernel
theorem dL_law_590 : decode cL_law 590 = .ok (.invokevirtual 63, 3) := by decide +kernel
theorem dL_law_593 : decode cL_law 593 = .ok (.if_icmp .eq 657, 3) := by decide +kernel
theorem dL_law_596 : decode cL_law 596 = .ok (.iconst 0, 1) := by decide +kernel
theorem dL_law_597 : decode cL_law 597 = .ok (.ireturn, 1) := by decide +kernel
theorem dL_law_598 : decode cL_law 598 = .ok (.aload_n 1, 1) := by decide +kernel
theorem dL_law_599 : decode cL_law 599 = .ok (.aload_n 0, 1) := by decide +kernel
theorem dL_law_600 : decode cL_law 600 = .ok (.iload_n 3, 1) := by decide +kernel
theorem dL_law_601 : decode cL_law 601 = .ok (.iconst 1, 1) := by decide +kernel
theorem dL_law_602 : decode cL_law 602 = .ok (.iadd, 1) := by decide +kernel
theorem dL_law_603 : decode cL_law 603 = .ok (.iaload, 1) := by decide +kernel
theorem dL_law_604 : decode cL_law 604 = .ok (.aload_n 0, 1) := by decide +kernel
theorem dL_law_605 : decode cL_law 605 = .ok (.iload_n 3, 1) := by decide +kernel
theorem dL_law_606 : decode cL_law 606 = .ok (.iconst 2, 1) := by decide +kernel
theorem dL_law_607 : decode cL_law 607 = .ok (.iadd, 1) := by decide +kernel
theorem dL_law_608 : decode cL_law 608 = .ok (.iaload, 1) := by decide +kernel
theorem dL_law_609 : decode cL_law 609 = .ok (.invokevirtual 64, 3) := by decide +kernel
theorem dL_law_612 : decode cL_law 612 = .ok (.aload_n 2, 1) := by decide +kernel
theorem dL_law_613 : decode cL_law 613 = .ok (.aload_n 0, 1) := by decide +kernel
theorem dL_law_614 : decode cL_law 614 = .ok (.iload_n 3, 1) := by decide +kernel
theorem dL_law_615 : decode cL_law 615 = .ok (.iconst 1, 1) := by decide +kernel
theorem dL_law_616 : decode cL_law 616 = .ok (.iadd, 1) := by decide +kernel
theorem dL_law_617 : decode cL_law 617 = .ok (.iaload, 1) := by decide +kernel
theorem dL_law_618 : decode cL_law 618 = .ok (.aload_n 0, 1) := by decide +kernel
theorem dL_law_619 : decode cL_law 619 = .ok (.iload_n 3, 1) := by decide +kernel
theorem dL_law_620 : decode cL_law 620 = .ok (.iconst 2, 1) := by decide +kernel
theorem dL_law_621 : decode cL_law 621 = .ok (.iadd, 1) := by decide +kernel
theorem dL_law_622 : decode cL_law 622 = .ok (.iaload, 1) := by decide +kernel
theorem dL_law_623 : decode cL_law 623 = .ok (.invokevirtual 67, 3) := by decide +kernel
theorem dL_law_626 : decode cL_law 626 = .ok (.if_icmp .eq 624, 3) := by decide +kernel
theorem dL_law_629 : decode cL_law 629 = .ok (.iconst 0, 1) := by decide +kernel
theorem dL_law_630 : decode cL_law 630 = .ok (.ireturn, 1) := by decide +kernel
theorem dL_law_631 : decode cL_law 631 = .ok (.aload_n 1, 1) := by decide +kernel
theorem dL_law_632 : decode cL_law 632 = .ok (.aload_n 0, 1) := by decide +kernel
theorem dL_law_633 : decode cL_law 633 = .ok (.iload_n 3, 1) := by decide +kernel
theorem dL_law_634 : decode cL_law 634 = .ok (.iconst 1, 1) := by decide +kernel
theorem dL_law_635 : decode cL_law 635 = .ok (.iadd, 1) := by decide +kernel
theorem dL_law_636 : decode cL_law 636 = .ok (.iaload, 1) := by decide +kernel
theorem dL_law_637 : decode cL_law 637 = .ok (.invokevirtual 68, 3) := by decide +kernel
theorem dL_law_640 : decode cL_law 640 = .ok (.aload_n 2, 1) := by decide +kernel
theorem dL_law_641 : decode cL_law 641 = .ok (.aload_n 0, 1) := by decide +kernel
theorem dL_law_642 : decode cL_law 642 = .ok (.iload_n 3, 1) := by decide +kernel
theorem dL_law_643 : decode cL_law 643 = .ok (.iconst 1, 1) := by decide +kernel
theorem dL_law_644 : decode cL_law 644 = .ok (.iadd, 1) := by decide +kernel
theorem dL_law_645 : decode cL_law 645 = .ok (.iaload, 1) := by decide +kernel
theorem dL_law_646 : decode cL_law 646 = .ok (.invokevirtual 71, 3) := by decide +kernel
theorem dL_law_649 : decode cL_law 649 = .ok (.if_icmp .eq 601, 3) := by decide +kernel
theorem dL_law_652 : decode cL_law 652 = .ok (.iconst 0, 1) := by decide +kernel
theorem dL_law_653 : decode cL_law 653 = .ok (.ireturn, 1) := by decide +kernel
theorem dL_law_654 : decode cL_law 654 = .ok (.aload_n 1, 1) := by decide +kernel
theorem dL_law_655 : decode cL_law 655 = .ok (.aload_n 0, 1) := by decide +kernel
theorem dL_law_656 : decode cL_law 656 = .ok (.iload_n 3, 1) := by decide +kernel
theorem dL_law_657 : decode cL_law 657 = .ok (.iconst 1, 1) := by decide +kernel
theorem dL_law_658 : decode cL_law 658 = .ok (.iadd, 1) := by decide +kernel
theorem dL_law_659 : decode cL_law 659 = .ok (.iaload, 1) := by decide +kernel
theorem dL_law_660 : decode cL_law 660 = .ok (.invokevirtual 72, 3) := by decide +kernel
theorem dL_law_663 : decode cL_law 663 = .ok (.aload_n 2, 1) := by decide +kernel
theorem dL_law_664 : decode cL_law 664 = .ok (.aload_n 0, 1) := by decide +kernel
theorem dL_law_665 : decode cL_law 665 = .ok (.iload_n 3, 1) := by decide +kernel
theorem dL_law_666 : decode cL_law 666 = .ok (.iconst 1, 1) := by decide +kernel
theorem dL_law_667 : decode cL_law 667 = .ok (.iadd, 1) := by decide +kernel
theorem dL_law_668 : decode cL_law 668 = .ok (.iaload, 1) := by decide +kernel
theorem dL_law_669 : decode cL_law 669 = .ok (.invokevirtual 75, 3) := by decide +kernel
theorem dL_law_672 : decode cL_law 672 = .ok (.if_icmp .eq 578, 3) := by decide +kernel
theorem dL_law_675 : decode cL_law 675 = .ok (.iconst 0, 1) := by decide +kernel
theorem dL_law_676 : decode cL_law 676 = .ok (.ireturn, 1) := by decide +kernel
theorem dL_law_677 : decode cL_law 677 = .ok (.aload_n 1, 1) := by decide +kernel
theorem dL_law_678 : decode cL_law 678 = .ok (.aload_n 0, 1) := by decide +kernel
theorem dL_law_679 : decode cL_law 679 = .ok (.iload_n 3, 1) := by decide +kernel
theorem dL_law_680 : decode cL_law 680 = .ok (.iconst 1, 1) := by decide +kernel
theorem dL_law_681 : decode cL_law 681 = .ok (.iadd, 1) := by decide +kernel
theorem dL_law_682 : decode cL_law 682 = .ok (.iaload, 1) := by decide +kernel
theorem dL_law_683 : decode cL_law 683 = .ok (.aload_n 0, 1) := by decide +kernel
theorem dL_law_684 : decode cL_law 684 = .ok (.iload_n 3, 1) := by decide +kernel
theorem dL_law_685 : decode cL_law 685 = .ok (.iconst 2, 1) := by decide +kernel
theorem dL_law_686 : decode cL_law 686 = .ok (.iadd, 1) := by decide +kernel
theorem dL_law_687 : decode cL_law 687 = .ok (.iaload, 1) := by decide +kernel
theorem dL_law_688 : decode cL_law 688 = .ok (.invokevirtual 76, 3) := by decide +kernel
theorem dL_law_691 : decode cL_law 691 = .ok (.aload_n 2, 1) := by decide +kernel
theorem dL_law_692 : decode cL_law 692 = .ok (.aload_n 0, 1) := by decide +kernel
theorem dL_law_693 : decode cL_law 693 = .ok (.iload_n 3, 1) := by decide +kernel
theorem dL_law_694 : decode cL_law 694 = .ok (.iconst 1, 1) := by decide +kernel
theorem dL_law_695 : decode cL_law 695 = .ok (.iadd, 1) := by decide +kernel
theorem dL_law_696 : decode cL_law 696 = .ok (.iaload, 1) := by decide +kernel
theorem dL_law_697 : decode cL_law 697 = .ok (.aload_n 0, 1) := by decide +kernel
theorem dL_law_698 : decode cL_law 698 = .ok (.iload_n 3, 1) := by decide +kernel
theorem dL_law_699 : decode cL_law 699 = .ok (.iconst 2, 1) := by decide +kernel
theorem dL_law_700 : decode cL_law 700 = .ok (.iadd, 1) := by decide +kernel
theorem dL_law_701 : decode cL_law 701 = .ok (.iaload, 1) := by decide +kernel
theorem dL_law_702 : decode cL_law 702 = .ok (.invokevirtual 79, 3) := by decide +kernel
theorem dL_law_705 : decode cL_law 705 = .ok (.if_icmp .eq 545, 3) := by decide +kernel
theorem dL_law_708 : decode cL_law 708 = .ok (.iconst 0, 1) := by decide +kernel
theorem dL_law_709 : decode cL_law 709 = .ok (.ireturn, 1) := by decide +kernel
theorem dL_law_710 : decode cL_law 710 = .ok (.aload_n 1, 1) := by decide +kernel
theorem dL_law_711 : decode cL_law 711 = .ok (.aload_n 0, 1) := by decide +kernel
theorem dL_law_712 : decode cL_law 712 = .ok (.iload_n 3, 1) := by decide +kernel
theorem dL_law_713 : decode cL_law 713 = .ok (.iconst 1, 1) := by decide +kernel
theorem dL_law_714 : decode cL_law 714 = .ok (.iadd, 1) := by decide +kernel
theorem dL_law_715 : decode cL_law 715 = .ok (.iaload, 1) := by decide +kernel
theorem dL_law_716 : decode cL_law 716 = .ok (.aload_n 0, 1) := by decide +kernel
theorem dL_law_717 : decode cL_law 717 = .ok (.iload_n 3, 1) := by decide +kernel
theorem dL_law_718 : decode cL_law 718 = .ok (.iconst 2, 1) := by decide +kernel
theorem dL_law_719 : decode cL_law 719 = .ok (.iadd, 1) := by decide +kernel
theorem dL_law_720 : decode cL_law 720 = .ok (.iaload, 1) := by decide +kernel
theorem dL_law_721 : decode cL_law 721 = .ok (.invokevirtual 80, 3) := by decide +kernel
theorem dL_law_724 : decode cL_law 724 = .ok (.aload_n 2, 1) := by decide +kernel
theorem dL_law_725 : decode cL_law 725 = .ok (.aload_n 0, 1) := by decide +kernel
theorem dL_law_726 : decode cL_law 726 = .ok (.iload_n 3, 1) := by decide +kernel
theorem dL_law_727 : decode cL_law 727 = .ok (.iconst 1, 1) := by decide +kernel
theorem dL_law_728 : decode cL_law 728 = .ok (.iadd, 1) := by decide +kernel
theorem dL_law_729 : decode cL_law 729 = .ok (.iaload, 1) := by decide +kernel
theorem dL_law_730 : decode cL_law 730 = .ok (.aload_n 0, 1) := by decide +kernel
theorem dL_law_731 : decode cL_law 731 = .ok (.iload_n 3, 1) := by decide +kernel
theorem dL_law_732 : decode cL_law 732 = .ok (.iconst 2, 1) := by decide +kernel
theorem dL_law_733 : decode cL_law 733 = .ok (.iadd, 1) := by decide +kernel
theorem dL_law_734 : decode cL_law 734 = .ok (.iaload, 1) := by decide +kernel
theorem dL_law_735 : decode cL_law 735 = .ok (.invokevirtual 83, 3) := by decide +kernel
theorem dL_law_738 : decode cL_law 738 = .ok (.if_icmp .eq 512, 3) := by decide +kernel
theorem dL_law_741 : decode cL_law 741 = .ok (.iconst 0, 1) := by decide +kernel
theorem dL_law_742 : decode cL_law 742 = .ok (.ireturn, 1) := by decide +kernel
theorem dL_law_743 : decode cL_law 743 = .ok (.aload_n 1, 1) := by decide +kernel
theorem dL_law_744 : decode cL_law 744 = .ok (.aload_n 0, 1) := by decide +kernel
theorem dL_law_745 : decode cL_law 745 = .ok (.iload_n 3, 1) := by decide +kernel
theorem dL_law_746 : decode cL_law 746 = .ok (.iconst 1, 1) := by decide +kernel
theorem dL_law_747 : decode cL_law 747 = .ok (.iadd, 1) := by decide +kernel
theorem dL_law_748 : decode cL_law 748 = .ok (.iaload, 1) := by decide +kernel
theorem dL_law_749 : decode cL_law 749 = .ok (.invokevirtual 84, 3) := by decide +kernel
theorem dL_law_752 : decode cL_law 752 = .ok (.aload_n 2, 1) := by decide +kernel
theorem dL_law_753 : decode cL_law 753 = .ok (.aload_n 0, 1) := by decide +kernel
theorem dL_law_754 : decode cL_law 754 = .ok (.iload_n 3, 1) := by decide +kernel
theorem dL_law_755 : decode cL_law 755 = .ok (.iconst 1, 1) := by decide +kernel
theorem dL_law_756 : decode cL_law 756 = .ok (.iadd, 1) := by decide +kernel
theorem dL_law_757 : decode cL_law 757 = .ok (.iaload, 1) := by decide +kernel
theorem dL_law_758 : decode cL_law 758 = .ok (.invokevirtual 87, 3) := by decide +kernel
theorem dL_law_761 : decode cL_law 761 = .ok (.if_icmp .eq 489, 3) := by decide +kernel
theorem dL_law_764 : decode cL_law 764 = .ok (.iconst 0, 1) := by decide +kernel
theorem dL_law_765 : decode cL_law 765 = .ok (.ireturn, 1) := by decide +kernel
theorem dL_law_766 : decode cL_law 766 = .ok (.aload_n 1, 1) := by decide +kernel
theorem dL_law_767 : decode cL_law 767 = .ok (.aload_n 0, 1) := by decide +kernel
theorem dL_law_768 : decode cL_law 768 = .ok (.iload_n 3, 1) := by decide +kernel
theorem dL_law_769 : decode cL_law 769 = .ok (.iconst 1, 1) := by decide +kernel
theorem dL_law_770 : decode cL_law 770 = .ok (.iadd, 1) := by decide +kernel
theorem dL_law_771 : decode cL_law 771 = .ok (.iaload, 1) := by decide +kernel
theorem dL_law_772 : decode cL_law 772 = .ok (.invokevirtual 88, 3) := by decide +kernel
theorem dL_law_775 : decode cL_law 775 = .ok (.aload_n 2, 1) := by decide +kernel
theorem dL_law_776 : decode cL_law 776 = .ok (.aload_n 0, 1) := by decide +kernel
theorem dL_law_777 : decode cL_law 777 = .ok (.iload_n 3, 1) := by decide +kernel
theorem dL_law_778 : decode cL_law 778 = .ok (.iconst 1, 1) := by decide +kernel
theorem dL_law_779 : decode cL_law 779 = .ok (.iadd, 1) := by decide +kernel
theorem dL_law_780 : decode cL_law 780 = .ok (.iaload, 1) := by decide +kernel
theorem dL_law_781 : decode cL_law 781 = .ok (.invokevirtual 91, 3) := by decide +kernel
theorem dL_law_784 : decode cL_law 784 = .ok (.if_icmp .eq 466, 3) := by decide +kernel
theorem dL_law_787 : decode cL_law 787 = .ok (.iconst 0, 1) := by decide +kernel
theorem dL_law_788 : decode cL_law 788 = .ok (.ireturn, 1) := by decide +kernel
theorem dL_law_789 : decode cL_law 789 = .ok (.aload_n 1, 1) := by decide +kernel
theorem dL_law_790 : decode cL_law 790 = .ok (.invokevirtual 92, 3) := by decide +kernel
theorem dL_law_793 : decode cL_law 793 = .ok (.aload_n 2, 1) := by decide +kernel
theorem dL_law_794 : decode cL_law 794 = .ok (.invokevirtual 96, 3) := by decide +kernel
theorem dL_law_797 : decode cL_law 797 = .ok (.if_icmp .eq 453, 3) := by decide +kernel
theorem dL_law_800 : decode cL_law 800 = .ok (.iconst 0, 1) := by decide +kernel
theorem dL_law_801 : decode cL_law 801 = .ok (.ireturn, 1) := by decide +kernel
theorem dL_law_802 : decode cL_law 802 = .ok (.aload_n 1, 1) := by decide +kernel
theorem dL_law_803 : decode cL_law 803 = .ok (.aload_n 0, 1) := by decide +kernel
theorem dL_law_804 : decode cL_law 804 = .ok (.iload_n 3, 1) := by decide +kernel
theorem dL_law_805 : decode cL_law 805 = .ok (.iconst 1, 1) := by decide +kernel
theorem dL_law_806 : decode cL_law 806 = .ok (.iadd, 1) := by decide +kernel
theorem dL_law_807 : decode cL_law 807 = .ok (.iaload, 1) := by decide +kernel
theorem dL_law_808 : decode cL_law 808 = .ok (.aload_n 0, 1) := by decide +kernel
theorem dL_law_809 : decode cL_law 809 = .ok (.iload_n 3, 1) := by decide +kernel
theorem dL_law_810 : decode cL_law 810 = .ok (.iconst 2, 1) := by decide +kernel
theorem dL_law_811 : decode cL_law 811 = .ok (.iadd, 1) := by decide +kernel
theorem dL_law_812 : decode cL_law 812 = .ok (.iaload, 1) := by decide +kernel
theorem dL_law_813 : decode cL_law 813 = .ok (.aload_n 0, 1) := by decide +kernel
theorem dL_law_814 : decode cL_law 814 = .ok (.iload_n 3, 1) := by decide +kernel
theorem dL_law_815 : decode cL_law 815 = .ok (.iconst 3, 1) := by decide +kernel
theorem dL_law_816 : decode cL_law 816 = .ok (.iadd, 1) := by decide +kernel
theorem dL_law_817 : decode cL_law 817 = .ok (.iaload, 1) := by decide +kernel
theorem dL_law_818 : decode cL_law 818 = .ok (.invokevirtual 97, 3) := by decide +kernel
theorem dL_law_821 : decode cL_law 821 = .ok (.aload_n 2, 1) := by decide +kernel
theorem dL_law_822 : decode cL_law 822 = .ok (.aload_n 0, 1) := by decide +kernel
theorem dL_law_823 : decode cL_law 823 = .ok (.iload_n 3, 1) := by decide +kernel
theorem dL_law_824 : decode cL_law 824 = .ok (.iconst 1, 1) := by decide +kernel
theorem dL_law_825 : decode cL_law 825 = .ok (.iadd, 1) := by decide +kernel
theorem dL_law_826 : decode cL_law 826 = .ok (.iaload, 1) := by decide +kernel
theorem dL_law_827 : decode cL_law 827 = .ok (.aload_n 0, 1) := by decide +kernel
theorem dL_law_828 : decode cL_law 828 = .ok (.iload_n 3, 1) := by decide +kernel
theorem dL_law_829 : decode cL_law 829 = .ok (.iconst 2, 1) := by decide +kernel
theorem dL_law_830 : decode cL_law 830 = .ok (.iadd, 1) := by decide +kernel
theorem dL_law_831 : decode cL_law 831 = .ok (.iaload, 1) := by decide +kernel
theorem dL_law_832 : decode cL_law 832 = .ok (.aload_n 0, 1) := by decide +kernel
theorem dL_law_833 : decode cL_law 833 = .ok (.iload_n 3, 1) := by decide +kernel
theorem dL_law_834 : decode cL_law 834 = .ok (.iconst 3, 1) := by decide +kernel
theorem dL_law_835 : decode cL_law 835 = .ok (.iadd, 1) := by decide +kernel
theorem dL_law_836 : decode cL_law 836 = .ok (.iaload, 1) := by decide +kernel
theorem dL_law_837 : decode cL_law 837 = .ok (.invokevirtual 100, 3) := by decide +kernel
theorem dL_law_840 : decode cL_law 840 = .ok (.if_icmp .eq 410, 3) := by decide +kernel
theorem dL_law_843 : decode cL_law 843 = .ok (.iconst 0, 1) := by decide +kernel
theorem dL_law_844 : decode cL_law 844 = .ok (.ireturn, 1) := by decide +kernel
theorem dL_law_845 : decode cL_law 845 = .ok (.aload_n 1, 1) := by decide +kernel
theorem dL_law_846 : decode cL_law 846 = .ok (.aload_n 0, 1) := by decide +kernel
theorem dL_law_847 : decode cL_law 847 = .ok (.iload_n 3, 1) := by decide +kernel
theorem dL_law_848 : decode cL_law 848 = .ok (.iconst 1, 1) := by decide +kernel
theorem dL_law_849 : decode cL_law 849 = .ok (.iadd, 1) := by decide +kernel
theorem dL_law_850 : decode cL_law 850 = .ok (.iaload, 1) := by decide +kernel
theorem dL_law_851 : decode cL_law 851 = .ok (.aload_n 0, 1) := by decide +kernel
theorem dL_law_852 : decode cL_law 852 = .ok (.iload_n 3, 1) := by decide +kernel
theorem dL_law_853 : decode cL_law 853 = .ok (.iconst 2, 1) := by decide +kernel
theorem dL_law_854 : decode cL_law 854 = .ok (.iadd, 1) := by decide +kernel
theorem dL_law_855 : decode cL_law 855 = .ok (.iaload, 1) := by decide +kernel
theorem dL_law_856 : decode cL_law 856 = .ok (.invokevirtual 101, 3) := by decide +kernel
theorem dL_law_859 : decode cL_law 859 = .ok (.aload_n 2, 1) := by decide +kernel
theorem dL_law_860 : decode cL_law 860 = .ok (.aload_n 0, 1) := by decide +kernel
theorem dL_law_861 : decode cL_law 861 = .ok (.iload_n 3, 1) := by decide +kernel
theorem dL_law_862 : decode cL_law 862 = .ok (.iconst 1, 1) := by decide +kernel
theorem dL_law_863 : decode cL_law 863 = .ok (.iadd, 1) := by decide +kernel
theorem dL_law_864 : decode cL_law 864 = .ok (.iaload, 1) := by decide +kernel
theorem dL_law_865 : decode cL_law 865 = .ok (.aload_n 0, 1) := by decide +kernel
theorem dL_law_866 : decode cL_law 866 = .ok (.iload_n 3, 1) := by decide +kernel
theorem dL_law_867 : decode cL_law 867 = .ok (.iconst 2, 1) := by decide +kernel
theorem dL_law_868 : decode cL_law 868 = .ok (.iadd, 1) := by decide +kernel
theorem dL_law_869 : decode cL_law 869 = .ok (.iaload, 1) := by decide +kernel
theorem dL_law_870 : decode cL_law 870 = .ok (.invokevirtual 104, 3) := by decide +kernel
theorem dL_law_873 : decode cL_law 873 = .ok (.if_icmp .eq 377, 3) := by decide +kernel
theorem dL_law_876 : decode cL_law 876 = .ok (.iconst 0, 1) := by decide +kernel
theorem dL_law_877 : decode cL_law 877 = .ok (.ireturn, 1) := by decide +kernel
theorem dL_law_878 : decode cL_law 878 = .ok (.aload_n 1, 1) := by decide +kernel
theorem dL_law_879 : decode cL_law 879 = .ok (.aload_n 0, 1) := by decide +kernel
theorem dL_law_880 : decode cL_law 880 = .ok (.iload_n 3, 1) := by decide +kernel
theorem dL_law_881 : decode cL_law 881 = .ok (.iconst 1, 1) := by decide +kernel
theorem dL_law_882 : decode cL_law 882 = .ok (.iadd, 1) := by decide +kernel
theorem dL_law_883 : decode cL_law 883 = .ok (.iaload, 1) := by decide +kernel
theorem dL_law_884 : decode cL_law 884 = .ok (.invokevirtual 105, 3) := by decide +kernel
theorem dL_law_887 : decode cL_law 887 = .ok (.aload_n 2, 1) := by decide +kernel
theorem dL_law_888 : decode cL_law 888 = .ok (.aload_n 0, 1) := by decide +kernel
theorem dL_law_889 : decode cL_law 889 = .ok (.iload_n 3, 1) := by decide +kernel
theorem dL_law_890 : decode cL_law 890 = .ok (.iconst 1, 1) := by decide +kernel
theorem dL_law_891 : decode cL_law 891 = .ok (.iadd, 1) := by decide +kernel
theorem dL_law_892 : decode cL_law 892 = .ok (.iaload, 1) := by decide +kernel
theorem dL_law_893 : decode cL_law 893 = .ok (.invokevirtual 108, 3) := by decide +kernel
theorem dL_law_896 : decode cL_law 896 = .ok (.if_icmp .eq 354, 3) := by decide +kernel
theorem dL_law_899 : decode cL_law 899 = .ok (.iconst 0, 1) := by decide +kernel
theorem dL_law_900 : decode cL_law 900 = .ok (.ireturn, 1) := by decide +kernel
theorem dL_law_901 : decode cL_law 901 = .ok (.aload_n 1, 1) := by decide +kernel
theorem dL_law_902 : decode cL_law 902 = .ok (.aload_n 0, 1) := by decide +kernel
theorem dL_law_903 : decode cL_law 903 = .ok (.iload_n 3, 1) := by decide +kernel
theorem dL_law_904 : decode cL_law 904 = .ok (.iconst 1, 1) := by decide +kernel
theorem dL_law_905 : decode cL_law 905 = .ok (.iadd, 1) := by decide +kernel
theorem dL_law_906 : decode cL_law 906 = .ok (.iaload, 1) := by decide +kernel
theorem dL_law_907 : decode cL_law 907 = .ok (.aload_n 0, 1) := by decide +kernel
theorem dL_law_908 : decode cL_law 908 = .ok (.iload_n 3, 1) := by decide +kernel
theorem dL_law_909 : decode cL_law 909 = .ok (.iconst 2, 1) := by decide +kernel
theorem dL_law_910 : decode cL_law 910 = .ok (.iadd, 1) := by decide +kernel
theorem dL_law_911 : decode cL_law 911 = .ok (.iaload, 1) := by decide +kernel
theorem dL_law_912 : decode cL_law 912 = .ok (.invokevirtual 109, 3) := by decide +kernel
theorem dL_law_915 : decode cL_law 915 = .ok (.aload_n 2, 1) := by decide +kernel
theorem dL_law_916 : decode cL_law 916 = .ok (.aload_n 0, 1) := by decide +kernel
theorem dL_law_917 : decode cL_law 917 = .ok (.iload_n 3, 1) := by decide +kernel
theorem dL_law_918 : decode cL_law 918 = .ok (.iconst 1, 1) := by decide +kernel
theorem dL_law_919 : decode cL_law 919 = .ok (.iadd, 1) := by decide +kernel
theorem dL_law_920 : decode cL_law 920 = .ok (.iaload, 1) := by decide +kernel
theorem dL_law_921 : decode cL_law 921 = .ok (.aload_n 0, 1) := by decide +kernel
theorem dL_law_922 : decode cL_law 922 = .ok (.iload_n 3, 1) := by decide +kernel
theorem dL_law_923 : decode cL_law 923 = .ok (.iconst 2, 1) := by decide +kernel
theorem dL_law_924 : decode cL_law 924 = .ok (.iadd, 1) := by decide +kernel
theorem dL_law_925 : decode cL_law 925 = .ok (.iaload, 1) := by decide +kernel
theorem dL_law_926 : decode cL_law 926 = .ok (.invokevirtual 112, 3) := by decide +kernel
theorem dL_law_929 : decode cL_law 929 = .ok (.if_icmp .eq 321, 3) := by decide +kernel
theorem dL_law_932 : decode cL_law 932 = .ok (.iconst 0, 1) := by decide +kernel
theorem dL_law_933 : decode cL_law 933 = .ok (.ireturn, 1) := by decide +kernel
theorem dL_law_934 : decode cL_law 934 = .ok (.aload_n 1, 1) := by decide +kernel
theorem dL_law_935 : decode cL_law 935 = .ok (.aload_n 0, 1) := by decide +kernel
theorem dL_law_936 : decode cL_law 936 = .ok (.iload_n 3, 1) := by decide +kernel
theorem dL_law_937 : decode cL_law 937 = .ok (.iconst 1, 1) := by decide +kernel
theorem dL_law_938 : decode cL_law 938 = .ok (.iadd, 1) := by decide +kernel
theorem dL_law_939 : decode cL_law 939 = .ok (.iaload, 1) := by decide +kernel
theorem dL_law_940 : decode cL_law 940 = .ok (.invokevirtual 113, 3) := by decide +kernel
theorem dL_law_943 : decode cL_law 943 = .ok (.aload_n 2, 1) := by decide +kernel
theorem dL_law_944 : decode cL_law 944 = .ok (.aload_n 0, 1) := by decide +kernel
theorem dL_law_945 : decode cL_law 945 = .ok (.iload_n 3, 1) := by decide +kernel
theorem dL_law_946 : decode cL_law 946 = .ok (.iconst 1, 1) := by decide +kernel
theorem dL_law_947 : decode cL_law 947 = .ok (.iadd, 1) := by decide +kernel
theorem dL_law_948 : decode cL_law 948 = .ok (.iaload, 1) := by decide +kernel
theorem dL_law_949 : decode cL_law 949 = .ok (.invokevirtual 116, 3) := by decide +kernel
theorem dL_law_952 : decode cL_law 952 = .ok (.if_icmp .eq 298, 3) := by decide +kernel
theorem dL_law_955 : decode cL_law 955 = .ok (.iconst 0, 1) := by decide +kernel
theorem dL_law_956 : decode cL_law 956 = .ok (.ireturn, 1) := by decide +kernel
theorem dL_law_957 : decode cL_law 957 = .ok (.aload_n 1, 1) := by decide +kernel
theorem dL_law_958 : decode cL_law 958 = .ok (.aload_n 0, 1) := by decide +kernel
theorem dL_law_959 : decode cL_law 959 = .ok (.iload_n 3, 1) := by decide +kernel
theorem dL_law_960 : decode cL_law 960 = .ok (.iconst 1, 1) := by decide +kernel
theorem dL_law_961 : decode cL_law 961 = .ok (.iadd, 1) := by decide +kernel
theorem dL_law_962 : decode cL_law 962 = .ok (.iaload, 1) := by decide +kernel
theorem dL_law_963 : decode cL_law 963 = .ok (.aload_n 0, 1) := by decide +kernel
theorem dL_law_964 : decode cL_law 964 = .ok (.iload_n 3, 1) := by decide +kernel
theorem dL_law_965 : decode cL_law 965 = .ok (.iconst 2, 1) := by decide +kernel
theorem dL_law_966 : decode cL_law 966 = .ok (.iadd, 1) := by decide +kernel
theorem dL_law_967 : decode cL_law 967 = .ok (.iaload, 1) := by decide +kernel
theorem dL_law_968 : decode cL_law 968 = .ok (.invokevirtual 117, 3) := by decide +kernel
theorem dL_law_971 : decode cL_law 971 = .ok (.aload_n 2, 1) := by decide +kernel
theorem dL_law_972 : decode cL_law 972 = .ok (.aload_n 0, 1) := by decide +kernel
theorem dL_law_973 : decode cL_law 973 = .ok (.iload_n 3, 1) := by decide +kernel
theorem dL_law_974 : decode cL_law 974 = .ok (.iconst 1, 1) := by decide +kernel
theorem dL_law_975 : decode cL_law 975 = .ok (.iadd, 1) := by decide +kernel
theorem dL_law_976 : decode cL_law 976 = .ok (.iaload, 1) := by decide +kernel
theorem dL_law_977 : decode cL_law 977 = .ok (.aload_n 0, 1) := by decide +kernel
theorem dL_law_978 : decode cL_law 978 = .ok (.iload_n 3, 1) := by decide +kernel
theorem dL_law_979 : decode cL_law 979 = .ok (.iconst 2, 1) := by decide +kernel
theorem dL_law_980 : decode cL_law 980 = .ok (.iadd, 1) := by decide +kernel
theorem dL_law_981 : decode cL_law 981 = .ok (.iaload, 1) := by decide +kernel
theorem dL_law_982 : decode cL_law 982 = .ok (.invokevirtual 120, 3) := by decide +kernel
theorem dL_law_985 : decode cL_law 985 = .ok (.if_icmp .eq 265, 3) := by decide +kernel
theorem dL_law_988 : decode cL_law 988 = .ok (.iconst 0, 1) := by decide +kernel
theorem dL_law_989 : decode cL_law 989 = .ok (.ireturn, 1) := by decide +kernel
theorem dL_law_990 : decode cL_law 990 = .ok (.aload_n 1, 1) := by decide +kernel
theorem dL_law_991 : decode cL_law 991 = .ok (.aload_n 0, 1) := by decide +kernel
theorem dL_law_992 : decode cL_law 992 = .ok (.iload_n 3, 1) := by decide +kernel
theorem dL_law_993 : decode cL_law 993 = .ok (.iconst 1, 1) := by decide +kernel
theorem dL_law_994 : decode cL_law 994 = .ok (.iadd, 1) := by decide +kernel
theorem dL_law_995 : decode cL_law 995 = .ok (.iaload, 1) := by decide +kernel
theorem dL_law_996 : decode cL_law 996 = .ok (.aload_n 0, 1) := by decide +kernel
theorem dL_law_997 : decode cL_law 997 = .ok (.iload_n 3, 1) := by decide +kernel
theorem dL_law_998 : decode cL_law 998 = .ok (.iconst 2, 1) := by decide +kernel
theorem dL_law_999 : decode cL_law 999 = .ok (.iadd, 1) := by decide +kernel
theorem dL_law_1000 : decode cL_law 1000 = .ok (.iaload, 1) := by decide +kernel
theorem dL_law_1001 : decode cL_law 1001 = .ok (.invokevirtual 121, 3) := by decide +kernel
theorem dL_law_1004 : decode cL_law 1004 = .ok (.aload_n 2, 1) := by decide +kernel
theorem dL_law_1005 : decode cL_law 1005 = .ok (.aload_n 0, 1) := by decide +kernel
theorem dL_law_1006 : decode cL_law 1006 = .ok (.iload_n 3, 1) := by decide +kernel
theorem dL_law_1007 : decode cL_law 1007 = .ok (.iconst 1, 1) := by decide +kernel
theorem dL_law_1008 : decode cL_law 1008 = .ok (.iadd, 1) := by decide +kernel
theorem dL_law_1009 : decode cL_law 1009 = .ok (.iaload, 1) := by decide +kernel
theorem dL_law_1010 : decode cL_law 1010 = .ok (.aload_n 0, 1) := by decide +kernel
theorem dL_law_1011 : decode cL_law 1011 = .ok (.iload_n 3, 1) := by decide +kernel
theorem dL_law_1012 : decode cL_law 1012 = .ok (.iconst 2, 1) := by decide +kernel
theorem dL_law_1013 : decode cL_law 1013 = .ok (.iadd, 1) := by decide +kernel
theorem dL_law_1014 : decode cL_law 1014 = .ok (.iaload, 1) := by decide +kernel
theorem dL_law_1015 : decode cL_law 1015 = .ok (.invokevirtual 124, 3) := by decide +kernel
theorem dL_law_1018 : decode cL_law 1018 = .ok (.if_icmp .eq 232, 3) := by decide +kernel
theorem dL_law_1021 : decode cL_law 1021 = .ok (.iconst 0, 1) := by decide +kernel
theorem dL_law_1022 : decode cL_law 1022 = .ok (.ireturn, 1) := by decide +kernel
theorem dL_law_1023 : decode cL_law 1023 = .ok (.aload_n 1, 1) := by decide +kernel
theorem dL_law_1024 : decode cL_law 1024 = .ok (.aload_n 0, 1) := by decide +kernel
theorem dL_law_1025 : decode cL_law 1025 = .ok (.iload_n 3, 1) := by decide +kernel
theorem dL_law_1026 : decode cL_law 1026 = .ok (.iconst 1, 1) := by decide +kernel
theorem dL_law_1027 : decode cL_law 1027 = .ok (.iadd, 1) := by decide +kernel
theorem dL_law_1028 : decode cL_law 1028 = .ok (.iaload, 1) := by decide +kernel
theorem dL_law_1029 : decode cL_law 1029 = .ok (.invokevirtual 125, 3) := by decide +kernel
theorem dL_law_1032 : decode cL_law 1032 = .ok (.aload_n 2, 1) := by decide +kernel
theorem dL_law_1033 : decode cL_law 1033 = .ok (.aload_n 0, 1) := by decide +kernel
theorem dL_law_1034 : decode cL_law 1034 = .ok (.iload_n 3, 1) := by decide +kernel
theorem dL_law_1035 : decode cL_law 1035 = .ok (.iconst 1, 1) := by decide +kernel
theorem dL_law_1036 : decode cL_law 1036 = .ok (.iadd, 1) := by decide +kernel
theorem dL_law_1037 : decode cL_law 1037 = .ok (.iaload, 1) := by decide +kernel
theorem dL_law_1038 : decode cL_law 1038 = .ok (.invokevirtual 128, 3) := by decide +kernel
theorem dL_law_1041 : decode cL_law 1041 = .ok (.if_icmp .eq 209, 3) := by decide +kernel
theorem dL_law_1044 : decode cL_law 1044 = .ok (.iconst 0, 1) := by decide +kernel
theorem dL_law_1045 : decode cL_law 1045 = .ok (.ireturn, 1) := by decide +kernel
theorem dL_law_1046 : decode cL_law 1046 = .ok (.aload_n 1, 1) := by decide +kernel
theorem dL_law_1047 : decode cL_law 1047 = .ok (.invokevirtual 129, 3) := by decide +kernel
theorem dL_law_1050 : decode cL_law 1050 = .ok (.aload_n 2, 1) := by decide +kernel
theorem dL_law_1051 : decode cL_law 1051 = .ok (.invokevirtual 132, 3) := by decide +kernel
theorem dL_law_1054 : decode cL_law 1054 = .ok (.if_icmp .eq 196, 3) := by decide +kernel
theorem dL_law_1057 : decode cL_law 1057 = .ok (.iconst 0, 1) := by decide +kernel
theorem dL_law_1058 : decode cL_law 1058 = .ok (.ireturn, 1) := by decide +kernel
theorem dL_law_1059 : decode cL_law 1059 = .ok (.aload_n 1, 1) := by decide +kernel
theorem dL_law_1060 : decode cL_law 1060 = .ok (.invokevirtual 133, 3) := by decide +kernel
theorem dL_law_1063 : decode cL_law 1063 = .ok (.aload_n 2, 1) := by decide +kernel
theorem dL_law_1064 : decode cL_law 1064 = .ok (.invokevirtual 136, 3) := by decide +kernel
theorem dL_law_1067 : decode cL_law 1067 = .ok (.if_icmp .eq 183, 3) := by decide +kernel
theorem dL_law_1070 : decode cL_law 1070 = .ok (.iconst 0, 1) := by decide +kernel
theorem dL_law_1071 : decode cL_law 1071 = .ok (.ireturn, 1) := by decide +kernel
theorem dL_law_1072 : decode cL_law 1072 = .ok (.aload_n 1, 1) := by decide +kernel
theorem dL_law_1073 : decode cL_law 1073 = .ok (.invokevirtual 137, 3) := by decide +kernel
theorem dL_law_1076 : decode cL_law 1076 = .ok (.aload_n 2, 1) := by decide +kernel
theorem dL_law_1077 : decode cL_law 1077 = .ok (.invokevirtual 140, 3) := by decide +kernel
theorem dL_law_1080 : decode cL_law 1080 = .ok (.if_icmp .eq 170, 3) := by decide +kernel
theorem dL_law_1083 : decode cL_law 1083 = .ok (.iconst 0, 1) := by decide +kernel
theorem dL_law_1084 : decode cL_law 1084 = .ok (.ireturn, 1) := by decide +kernel
theorem dL_law_1085 : decode cL_law 1085 = .ok (.aload_n 1, 1) := by decide +kernel
theorem dL_law_1086 : decode cL_law 1086 = .ok (.aload_n 0, 1) := by decide +kernel
theorem dL_law_1087 : decode cL_law 1087 = .ok (.iload_n 3, 1) := by decide +kernel
theorem dL_law_1088 : decode cL_law 1088 = .ok (.iconst 1, 1) := by decide +kernel
theorem dL_law_1089 : decode cL_law 1089 = .ok (.iadd, 1) := by decide +kernel
theorem dL_law_1090 : decode cL_law 1090 = .ok (.iaload, 1) := by decide +kernel
theorem dL_law_1091 : decode cL_law 1091 = .ok (.aload_n 0, 1) := by decide +kernel
theorem dL_law_1092 : decode cL_law 1092 = .ok (.iload_n 3, 1) := by decide +kernel
theorem dL_law_1093 : decode cL_law 1093 = .ok (.iconst 2, 1) := by decide +kernel
theorem dL_law_1094 : decode cL_law 1094 = .ok (.iadd, 1) := by decide +kernel
theorem dL_law_1095 : decode cL_law 1095 = .ok (.iaload, 1) := by decide +kernel
theorem dL_law_1096 : decode cL_law 1096 = .ok (.invokevirtual 141, 3) := by decide +kernel
theorem dL_law_1099 : decode cL_law 1099 = .ok (.aload_n 2, 1) := by decide +kernel
theorem dL_law_1100 : decode cL_law 1100 = .ok (.aload_n 0, 1) := by decide +kernel
theorem dL_law_1101 : decode cL_law 1101 = .ok (.iload_n 3, 1) := by decide +kernel
theorem dL_law_1102 : decode cL_law 1102 = .ok (.iconst 1, 1) := by decide +kernel
theorem dL_law_1103 : decode cL_law 1103 = .ok (.iadd, 1) := by decide +kernel
theorem dL_law_1104 : decode cL_law 1104 = .ok (.iaload, 1) := by decide +kernel
theorem dL_law_1105 : decode cL_law 1105 = .ok (.aload_n 0, 1) := by decide +kernel
theorem dL_law_1106 : decode cL_law 1106 = .ok (.iload_n 3, 1) := by decide +kernel
theorem dL_law_1107 : decode cL_law 1107 = .ok (.iconst 2, 1) := by decide +kernel
theorem dL_law_1108 : decode cL_law 1108 = .ok (.iadd, 1) := by decide +kernel
theorem dL_law_1109 : decode cL_law 1109 = .ok (.iaload, 1) := by decide +kernel
theorem dL_law_1110 : decode cL_law 1110 = .ok (.invokevirtual 144, 3) := by decide +kernel
theorem dL_law_1113 : decode cL_law 1113 = .ok (.if_icmp .eq 137, 3) := by decide +kernel
theorem dL_law_1116 : decode cL_law 1116 = .ok (.iconst 0, 1) := by decide +kernel
theorem dL_law_1117 : decode cL_law 1117 = .ok (.ireturn, 1) := by decide +kernel
theorem dL_law_1118 : decode cL_law 1118 = .ok (.aload_n 1, 1) := by decide +kernel
theorem dL_law_1119 : decode cL_law 1119 = .ok (.aload_n 0, 1) := by decide +kernel
theorem dL_law_1120 : decode cL_law 1120 = .ok (.iload_n 3, 1) := by decide +kernel
theorem dL_law_1121 : decode cL_law 1121 = .ok (.iconst 1, 1) := by decide +kernel
theorem dL_law_1122 : decode cL_law 1122 = .ok (.iadd, 1) := by decide +kernel
theorem dL_law_1123 : decode cL_law 1123 = .ok (.iaload, 1) := by decide +kernel
theorem dL_law_1124 : decode cL_law 1124 = .ok (.aload_n 0, 1) := by decide +kernel
theorem dL_law_1125 : decode cL_law 1125 = .ok (.iload_n 3, 1) := by decide +kernel
theorem dL_law_1126 : decode cL_law 1126 = .ok (.iconst 2, 1) := by decide +kernel
theorem dL_law_1127 : decode cL_law 1127 = .ok (.iadd, 1) := by decide +kernel
theorem dL_law_1128 : decode cL_law 1128 = .ok (.iaload, 1) := by decide +kernel
theorem dL_law_1129 : decode cL_law 1129 = .ok (.invokevirtual 145, 3) := by decide +kernel
theorem dL_law_1132 : decode cL_law 1132 = .ok (.aload_n 2, 1) := by decide +kernel
theorem dL_law_1133 : decode cL_law 1133 = .ok (.aload_n 0, 1) := by decide +kernel
theorem dL_law_1134 : decode cL_law 1134 = .ok (.iload_n 3, 1) := by decide +kernel
theorem dL_law_1135 : decode cL_law 1135 = .ok (.iconst 1, 1) := by decide +kernel
theorem dL_law_1136 : decode cL_law 1136 = .ok (.iadd, 1) := by decide +kernel
theorem dL_law_1137 : decode cL_law 1137 = .ok (.iaload, 1) := by decide +kernel
theorem dL_law_1138 : decode cL_law 1138 = .ok (.aload_n 0, 1) := by decide +kernel
theorem dL_law_1139 : decode cL_law 1139 = .ok (.iload_n 3, 1) := by decide +kernel
theorem dL_law_1140 : decode cL_law 1140 = .ok (.iconst 2, 1) := by decide +kernel
theorem dL_law_1141 : decode cL_law 1141 = .ok (.iadd, 1) := by decide +kernel
theorem dL_law_1142 : decode cL_law 1142 = .ok (.iaload, 1) := by decide +kernel
theorem dL_law_1143 : decode cL_law 1143 = .ok (.invokevirtual 148, 3) := by decide +kernel
theorem dL_law_1146 : decode cL_law 1146 = .ok (.if_icmp .eq 104, 3) := by decide +kernel
theorem dL_law_1149 : decode cL_law 1149 = .ok (.iconst 0, 1) := by decide +kernel
theorem dL_law_1150 : decode cL_law 1150 = .ok (.ireturn, 1) := by decide +kernel
theorem dL_law_1151 : decode cL_law 1151 = .ok (.aload_n 1, 1) := by decide +kernel
theorem dL_law_1152 : decode cL_law 1152 = .ok (.aload_n 0, 1) := by decide +kernel
theorem dL_law_1153 : decode cL_law 1153 = .ok (.iload_n 3, 1) := by decide +kernel
theorem dL_law_1154 : decode cL_law 1154 = .ok (.iconst 1, 1) := by decide +kernel
theorem dL_law_1155 : decode cL_law 1155 = .ok (.iadd, 1) := by decide +kernel
theorem dL_law_1156 : decode cL_law 1156 = .ok (.iaload, 1) := by decide +kernel
theorem dL_law_1157 : decode cL_law 1157 = .ok (.aload_n 0, 1) := by decide +kernel
theorem dL_law_1158 : decode cL_law 1158 = .ok (.iload_n 3, 1) := by decide +kernel
theorem dL_law_1159 : decode cL_law 1159 = .ok (.iconst 2, 1) := by decide +kernel
theorem dL_law_1160 : decode cL_law 1160 = .ok (.iadd, 1) := by decide +kernel
theorem dL_law_1161 : decode cL_law 1161 = .ok (.iaload, 1) := by decide +kernel
theorem dL_law_1162 : decode cL_law 1162 = .ok (.aload_n 0, 1) := by decide +kernel
theorem dL_law_1163 : decode cL_law 1163 = .ok (.iload_n 3, 1) := by decide +kernel
theorem dL_law_1164 : decode cL_law 1164 = .ok (.iconst 3, 1) := by decide +kernel
theorem dL_law_1165 : decode cL_law 1165 = .ok (.iadd, 1) := by decide +kernel
theorem dL_law_1166 : decode cL_law 1166 = .ok (.iaload, 1) := by decide +kernel
theorem dL_law_1167 : decode cL_law 1167 = .ok (.invokevirtual 149, 3) := by decide +kernel
theorem dL_law_1170 : decode cL_law 1170 = .ok (.aload_n 2, 1) := by decide +kernel
theorem dL_law_1171 : decode cL_law 1171 = .ok (.aload_n 0, 1) := by decide +kernel
theorem dL_law_1172 : decode cL_law 1172 = .ok (.iload_n 3, 1) := by decide +kernel
theorem dL_law_1173 : decode cL_law 1173 = .ok (.iconst 1, 1) := by decide +kernel
theorem dL_law_1174 : decode cL_law 1174 = .ok (.iadd, 1) := by decide +kernel
theorem dL_law_1175 : decode cL_law 1175 = .ok (.iaload, 1) := by decide +kernel
theorem dL_law_1176 : decode cL_law 1176 = .ok (.aload_n 0, 1) := by decide +kernel
theorem dL_law_1177 : decode cL_law 1177 = .ok (.iload_n 3, 1) := by decide +kernel
theorem dL_law_1178 : decode cL_law 1178 = .ok (.iconst 2, 1) := by decide +kernel
theorem dL_law_1179 : decode cL_law 1179 = .ok (.iadd, 1) := by decide +kernel
theorem dL_law_1180 : decode cL_law 1180 = .ok (.iaload, 1) := by decide +kernel
theorem dL_law_1181 : decode cL_law 1181 = .ok (.aload_n 0, 1) := by decide +kernel
theorem dL_law_1182 : decode cL_law 1182 = .ok (.iload_n 3, 1) := by decide +kernel
theorem dL_law_1183 : decode cL_law 1183 = .ok (.iconst 3, 1) := by decide +kernel
theorem dL_law_1184 : decode cL_law 1184 = .ok (.iadd, 1) := by decide +kernel
theorem dL_law_1185 : decode cL_law 1185 = .ok (.iaload, 1) := by decide +kernel
theorem dL_law_1186 : decode cL_law 1186 = .ok (.invokevirtual 152, 3) := by decide +kernel
theorem dL_law_1189 : decode cL_law 1189 = .ok (.if_icmp .eq 61, 3) := by decide +kernel
theorem dL_law_1192 : decode cL_law 1192 = .ok (.iconst 0, 1) := by decide +kernel
theorem dL_law_1193 : decode cL_law 1193 = .ok (.ireturn, 1) := by decide +kernel
theorem dL_law_1194 : decode cL_law 1194 = .ok (.aload_n 1, 1) := by decide +kernel
theorem dL_law_1195 : decode cL_law 1195 = .ok (.aload_n 0, 1) := by decide +kernel
theorem dL_law_1196 : decode cL_law 1196 = .ok (.iload_n 3, 1) := by decide +kernel
theorem dL_law_1197 : decode cL_law 1197 = .ok (.iconst 1, 1) := by decide +kernel
theorem dL_law_1198 : decode cL_law 1198 = .ok (.iadd, 1) := by decide +kernel
theorem dL_law_1199 : decode cL_law 1199 = .ok (.iaload, 1) := by decide +kernel
theorem dL_law_1200 : decode cL_law 1200 = .ok (.aload_n 0, 1) := by decide +kernel
theorem dL_law_1201 : decode cL_law 1201 = .ok (.iload_n 3, 1) := by decide +kernel
theorem dL_law_1202 : decode cL_law 1202 = .ok (.iconst 2, 1) := by decide +kernel
theorem dL_law_1203 : decode cL_law 1203 = .ok (.iadd, 1) := by decide +kernel
theorem dL_law_1204 : decode cL_law 1204 = .ok (.iaload, 1) := by decide +kernel
theorem dL_law_1205 : decode cL_law 1205 = .ok (.invokevirtual 153, 3) := by decide +kernel
theorem dL_law_1208 : decode cL_law 1208 = .ok (.aload_n 2, 1) := by decide +kernel
theorem dL_law_1209 : decode cL_law 1209 = .ok (.aload_n 0, 1) := by decide +kernel
theorem dL_law_1210 : decode cL_law 1210 = .ok (.iload_n 3, 1) := by decide +kernel
theorem dL_law_1211 : decode cL_law 1211 = .ok (.iconst 1, 1) := by decide +kernel
theorem dL_law_1212 : decode cL_law 1212 = .ok (.iadd, 1) := by decide +kernel
theorem dL_law_1213 : decode cL_law 1213 = .ok (.iaload, 1) := by decide +kernel
theorem dL_law_1214 : decode cL_law 1214 = .ok (.aload_n 0, 1) := by decide +kernel
theorem dL_law_1215 : decode cL_law 1215 = .ok (.iload_n 3, 1) := by decide +kernel
theorem dL_law_1216 : decode cL_law 1216 = .ok (.iconst 2, 1) := by decide +kernel
theorem dL_law_1217 : decode cL_law 1217 = .ok (.iadd, 1) := by decide +kernel
theorem dL_law_1218 : decode cL_law 1218 = .ok (.iaload, 1) := by decide +kernel
theorem dL_law_1219 : decode cL_law 1219 = .ok (.invokevirtual 156, 3) := by decide +kernel
theorem dL_law_1222 : decode cL_law 1222 = .ok (.if_icmp .eq 28, 3) := by decide +kernel
theorem dL_law_1225 : decode cL_law 1225 = .ok (.iconst 0, 1) := by decide +kernel
theorem dL_law_1226 : decode cL_law 1226 = .ok (.ireturn, 1) := by decide +kernel
theorem dL_law_1227 : decode cL_law 1227 = .ok (.aload_n 1, 1) := by decide +kernel
theorem dL_law_1228 : decode cL_law 1228 = .ok (.aload_n 0, 1) := by decide +kernel
theorem dL_law_1229 : decode cL_law 1229 = .ok (.iload_n 3, 1) := by decide +kernel
theorem dL_law_1230 : decode cL_law 1230 = .ok (.iconst 1, 1) := by decide +kernel
theorem dL_law_1231 : decode cL_law 1231 = .ok (.iadd, 1) := by decide +kernel
theorem dL_law_1232 : decode cL_law 1232 = .ok (.iaload, 1) := by decide +kernel
theorem dL_law_1233 : decode cL_law 1233 = .ok (.invokevirtual 157, 3) := by decide +kernel
theorem dL_law_1236 : decode cL_law 1236 = .ok (.aload_n 2, 1) := by decide +kernel
theorem dL_law_1237 : decode cL_law 1237 = .ok (.aload_n 0, 1) := by decide +kernel
theorem dL_law_1238 : decode cL_law 1238 = .ok (.iload_n 3, 1) := by decide +kernel
theorem dL_law_1239 : decode cL_law 1239 = .ok (.iconst 1, 1) := by decide +kernel
theorem dL_law_1240 : decode cL_law 1240 = .ok (.iadd, 1) := by decide +kernel
theorem dL_law_1241 : decode cL_law 1241 = .ok (.iaload, 1) := by decide +kernel
theorem dL_law_1242 : decode cL_law 1242 = .ok (.invokevirtual 160, 3) := by decide +kernel
theorem dL_law_1245 : decode cL_law 1245 = .ok (.if_icmp .eq 5, 3) := by decide +kernel
theorem dL_law_1248 : decode cL_law 1248 = .ok (.iconst 0, 1) := by decide +kernel
theorem dL_law_1249 : decode cL_law 1249 = .ok (.ireturn, 1) := by decide +kernel
theorem dL_law_1250 : decode cL_law 1250 = .ok (.iinc 3 4, 3) := by decide +kernel
theorem dL_law_1253 : decode cL_law 1253 = .ok (.goto (-1235), 3) := by decide +kernel
theorem dL_law_1256 : decode cL_law 1256 = .ok (.iconst 1, 1) := by decide +kernel
theorem dL_law_1257 : decode cL_law 1257 = .ok (.ireturn, 1) := by decide +kernel
end
section
/-! A SMALL MACHINE OF WHOLE NUMBERS over a fixed graph of objects: what its runs say holds of the real one (g_body below). -/
/-- the graph: kind (0..10: objects, by their number in vwCl; 11: a row of ints; 12: a row of rows; 13: the script), length, where its references go -/
abbrev gG : Type := Nat → Nat × Nat × (Nat → Nat)
/-- the numbers that the objects and rows hold -/
abbrev gM : Type := Nat → Nat → Int32
/-- a method: name, code, locals, what it returns, whose pool -/
abbrev gY : Type := MethodName × ByteArray × Nat × Option FieldType × Nat
abbrev gK : Type := Option Value → gM → Prop
abbrev gC : Type := gY → List Value → gM → gK → Prop
abbrev gP : Type := Nat → List Value → List Value → gM → Prop
def g_up (σ : gM) (a i : Nat) (v : Int32) : gM := fun b j => if b = a ∧ j = i then v else σ b j
def g_cp (σ : gM) (a b sp dp n : Nat) : gM := fun c j => if c = b ∧ dp ≤ j ∧ j < dp + n then σ a (sp + (j - dp)) else σ c j
def g_ldi (ls : List Value) (k : Nat) (f : Int32 → Prop) : Prop := match ls[k]? with
  | some (.int x) => f x
  | _ => False
def g_ldr (ls : List Value) (k : Nat) (f : Nat → Prop) : Prop := match ls[k]? with
  | some (.ref x) => f x
  | _ => False
def g_a (st : List Value) (f : Value → List Value → Prop) : Prop := match st with
  | v :: st => f v st
  | _ => False
def g_1 (st : List Value) (f : Int32 → List Value → Prop) : Prop := match st with
  | .int x :: st => f x st
  | _ => False
def g_2 (st : List Value) (f : Int32 → Int32 → List Value → Prop) : Prop := match st with
  | .int y :: .int x :: st => f x y st
  | _ => False
def g_r (st : List Value) (f : Nat → List Value → Prop) : Prop := match st with
  | .ref a :: st => f a st
  | _ => False
def g_ri (st : List Value) (f : Nat → Int32 → List Value → Prop) : Prop := match st with
  | .int i :: .ref a :: st => f a i st
  | _ => False
def g_rii (st : List Value) (f : Nat → Int32 → Int32 → List Value → Prop) : Prop := match st with
  | .int x :: .int i :: .ref a :: st => f a i x st
  | _ => False
def g_5 (st : List Value) (f : Nat → Int32 → Nat → Int32 → Int32 → List Value → Prop) : Prop := match st with
  | .int n :: .int dp :: .ref b :: .int sp :: .ref a :: st => f a sp b dp n st
  | _ => False
def g_j (pc : Nat) (off : Int) (f : Nat → Prop) : Prop := 0 ≤ (pc : Int) + off ∧ f ((pc : Int) + off).toNat
def g_b (pc : Nat) (off : Int) (c : Prop) [Decidable c] (f : Nat → Prop) (B : Prop) : Prop := 0 ≤ (pc : Int) + off ∧ if c then f ((pc : Int) + off).toNat else B
def g_sw (pc : Nat) (x : Int32) (d : Int) (f : Nat → Prop) : Int → List Int → Prop
  | _, [] => g_j pc d f
  | lo, o :: os => if x = Int32.ofInt lo then g_j pc o f else g_sw pc x d f (lo + 1) os
def g_pop (n : Nat) (st : List Value) (f : List Value → List Value → Prop) : Prop := n ≤ st.length ∧ f (st.take n).reverse (st.drop n)
def g_inv (C : gC) (Y : gY) (as : List Value) (σ : gM) (K : gK) : Prop := ∃ q : gK, C Y as σ q ∧ ∀ r σ', q r σ' → K r σ'
def g_rt (r : Option FieldType) (x : Int32) : Prop := match r with
  | some .int => True
  | some .boolean => x = 0 ∨ x = 1
  | _ => False
def gDo (fl : Nat → Nat → Option (Nat × Nat × Nat)) (cl : Nat → Nat → Option (Nat × gY × Nat)) (cn : Nat → Nat → Option Int32) (C : gC) (G : gG) (M : gY) (Q : gK) (P : gP) (pc : Nat) (ls st : List Value) (σ : gM) (i : Jvm.ClassFile.Instr) : Prop :=
  match i with
  | .iload_n k => g_ldi ls k.val fun x => P (pc + 1) ls (.int x :: st) σ
  | .iload k => g_ldi ls k fun x => P (pc + 2) ls (.int x :: st) σ
  | .aload_n k => g_ldr ls k.val fun x => P (pc + 1) ls (.ref x :: st) σ
  | .iconst n => P (pc + 1) ls (.int (Int32.ofInt n) :: st) σ
  | .bipush n => P (pc + 2) ls (.int (Int8.ofInt n).toInt32 :: st) σ
  | .sipush n => P (pc + 3) ls (.int (Int16.ofInt n).toInt32 :: st) σ
  | .ldc k => ∃ v, cn M.2.2.2.2 k = some v ∧ P (pc + 2) ls (.int v :: st) σ
  | .istore_n k => g_1 st fun x st => k.val < ls.length ∧ P (pc + 1) (ls.set k.val (.int x)) st σ
  | .istore k => g_1 st fun x st => k < ls.length ∧ P (pc + 2) (ls.set k (.int x)) st σ
  | .iinc k n => g_ldi ls k fun x => P (pc + 3) (ls.set k (.int (x + Int32.ofInt n))) st σ
  | .iadd => g_2 st fun x y st => P (pc + 1) ls (.int (x + y) :: st) σ
  | .isub => g_2 st fun x y st => P (pc + 1) ls (.int (x - y) :: st) σ
  | .imul => g_2 st fun x y st => P (pc + 1) ls (.int (x * y) :: st) σ
  | .iand => g_2 st fun x y st => P (pc + 1) ls (.int (x &&& y) :: st) σ
  | .ior => g_2 st fun x y st => P (pc + 1) ls (.int (x ||| y) :: st) σ
  | .ixor => g_2 st fun x y st => P (pc + 1) ls (.int (x ^^^ y) :: st) σ
  | .ishl => g_2 st fun x y st => P (pc + 1) ls (.int (x <<< (y &&& 31)) :: st) σ
  | .ishr => g_2 st fun x y st => P (pc + 1) ls (.int (x >>> (y &&& 31)) :: st) σ
  | .idiv => g_2 st fun x y st => ¬ y = 0 ∧ P (pc + 1) ls (.int (x / y) :: st) σ
  | .irem => g_2 st fun x y st => ¬ y = 0 ∧ P (pc + 1) ls (.int (x - x / y * y) :: st) σ
  | .ineg => g_1 st fun x st => P (pc + 1) ls (.int (-x) :: st) σ
  | .dup => g_a st fun v st => P (pc + 1) ls (v :: v :: st) σ
  | .dup_x1 => g_a st fun v st => g_a st fun w st => P (pc + 1) ls (v :: w :: v :: st) σ
  | .dup_x2 => g_a st fun v st => g_a st fun w st => g_a st fun x st => P (pc + 1) ls (v :: w :: x :: v :: st) σ
  | .dup2 => g_a st fun v st => g_a st fun w st => P (pc + 1) ls (v :: w :: v :: w :: st) σ
  | .pop => g_a st fun _ st => P (pc + 1) ls st σ
  | .goto o => g_j pc o fun t => P t ls st σ
  | .ifCond .eq o => g_1 st fun x st => g_b pc o (x = 0) (fun t => P t ls st σ) (P (pc + 3) ls st σ)
  | .ifCond .ne o => g_1 st fun x st => g_b pc o (¬ x = 0) (fun t => P t ls st σ) (P (pc + 3) ls st σ)
  | .ifCond .lt o => g_1 st fun x st => g_b pc o (x < 0) (fun t => P t ls st σ) (P (pc + 3) ls st σ)
  | .ifCond .ge o => g_1 st fun x st => g_b pc o (0 ≤ x) (fun t => P t ls st σ) (P (pc + 3) ls st σ)
  | .ifCond .gt o => g_1 st fun x st => g_b pc o (0 < x) (fun t => P t ls st σ) (P (pc + 3) ls st σ)
  | .ifCond .le o => g_1 st fun x st => g_b pc o (x ≤ 0) (fun t => P t ls st σ) (P (pc + 3) ls st σ)
  | .if_icmp .eq o => g_2 st fun x y st => g_b pc o (x = y) (fun t => P t ls st σ) (P (pc + 3) ls st σ)
  | .if_icmp .ne o => g_2 st fun x y st => g_b pc o (¬ x = y) (fun t => P t ls st σ) (P (pc + 3) ls st σ)
  | .if_icmp .lt o => g_2 st fun x y st => g_b pc o (x < y) (fun t => P t ls st σ) (P (pc + 3) ls st σ)
  | .if_icmp .ge o => g_2 st fun x y st => g_b pc o (y ≤ x) (fun t => P t ls st σ) (P (pc + 3) ls st σ)
  | .if_icmp .gt o => g_2 st fun x y st => g_b pc o (y < x) (fun t => P t ls st σ) (P (pc + 3) ls st σ)
  | .if_icmp .le o => g_2 st fun x y st => g_b pc o (x ≤ y) (fun t => P t ls st σ) (P (pc + 3) ls st σ)
  | .tableswitch d lo hi offs => g_1 st fun x st => (lo = 0 ∧ hi + 1 = (offs.toList.length : Int) ∧ hi < 2000000000) ∧ g_sw pc x d (fun t => P t ls st σ) 0 offs.toList
  | .getfield k => g_r st fun a st => match fl M.2.2.2.2 k with
    | some (ci, f, 2) => (G a).1 = ci ∧ P (pc + 3) ls (.ref ((G a).2.2 f) :: st) σ
    | some (ci, f, _) => (G a).1 = ci ∧ P (pc + 3) ls (.int (σ a f) :: st) σ
    | none => False
  | .putfield k => g_ri st fun a v st => match fl M.2.2.2.2 k with
    | some (ci, f, 0) => (G a).1 = ci ∧ P (pc + 3) ls st (g_up σ a f v)
    | some (ci, f, 1) => (G a).1 = ci ∧ (v = 0 ∨ v = 1) ∧ P (pc + 3) ls st (g_up σ a f v)
    | _ => False
  | .iaload => g_ri st fun a i st => if (G a).1 = 13 then vp_in i (G a).2.1 ∧ P (pc + 1) ls (.int (Int32.ofNat ((G a).2.2 i.toNatClampNeg)) :: st) σ else (G a).1 = 11 ∧ vp_in i (G a).2.1 ∧ P (pc + 1) ls (.int (σ a i.toNatClampNeg) :: st) σ
  | .iastore => g_rii st fun a i x st => (G a).1 = 11 ∧ vp_in i (G a).2.1 ∧ P (pc + 1) ls st (g_up σ a i.toNatClampNeg x)
  | .aaload => g_ri st fun a i st => (G a).1 = 12 ∧ vp_in i (G a).2.1 ∧ P (pc + 1) ls (.ref ((G a).2.2 i.toNatClampNeg) :: st) σ
  | .arraylength => g_r st fun a st => ((G a).1 = 11 ∨ (G a).1 = 13) ∧ P (pc + 1) ls (.int (Int32.ofNat (G a).2.1) :: st) σ
  | .invokevirtual k => ∃ kd Y np, cl M.2.2.2.2 k = some (kd, Y, np) ∧ kd = 0 ∧ g_pop (np + 1) st fun as st => (∃ b bs, as = .ref b :: bs ∧ (G b).1 = Y.2.2.2.2) ∧ st.length ≤ 8 ∧ g_inv C Y as σ fun r σ' => P (pc + 3) ls (r.toList ++ st) σ'
  | .invokestatic k => ∃ kd Y np, cl M.2.2.2.2 k = some (kd, Y, np) ∧
      if kd = 3 then st.length ≤ 10 ∧ g_2 st fun x y st => P (pc + 3) ls (.int (if y < x then y else x) :: st) σ
      else if kd = 4 then st.length ≤ 10 ∧ g_2 st fun x y st => P (pc + 3) ls (.int (if x < y then y else x) :: st) σ
      else if kd = 5 then g_5 st fun a sp b dp n st => st.length ≤ 8 ∧ (G a).1 = 11 ∧ (G b).1 = 11 ∧ ¬ sp < 0 ∧ ¬ dp < 0 ∧ ¬ n < 0 ∧ sp.toNatClampNeg + n.toNatClampNeg ≤ (G a).2.1 ∧ dp.toNatClampNeg + n.toNatClampNeg ≤ (G b).2.1 ∧ P (pc + 3) ls st (g_cp σ a b sp.toNatClampNeg dp.toNatClampNeg n.toNatClampNeg)
      else (kd = 1 ∨ kd = 2) ∧ g_pop np st fun as st => st.length ≤ 8 ∧ g_inv C Y as σ fun r σ' => P (pc + 3) ls (r.toList ++ st) σ'
  | .ireturn => g_1 st fun x st => st = [] ∧ g_rt M.2.2.2.1 x ∧ Q (some (.int x)) σ
  | .return_ => st = [] ∧ M.2.2.2.1 = none ∧ Q none σ
  | _ => False
def gLen (i : Jvm.ClassFile.Instr) (n : Nat) : Prop :=
  match i with
  | .tableswitch .. => True
  | .iload _ | .istore _ | .bipush _ | .ldc _ => n = 2
  | .sipush _ | .iinc _ _ | .goto _ | .ifCond _ _ | .if_icmp _ _ | .getfield _ | .putfield _ | .invokevirtual _ | .invokestatic _ => n = 3
  | _ => n = 1
section GM
variable {fl : Nat → Nat → Option (Nat × Nat × Nat)} {cl : Nat → Nat → Option (Nat × gY × Nat)} {cn : Nat → Nat → Option Int32} {C : gC} {G : gG} {M : gY} {Q : gK}
def gStep (fl : Nat → Nat → Option (Nat × Nat × Nat)) (cl : Nat → Nat → Option (Nat × gY × Nat)) (cn : Nat → Nat → Option Int32) (C : gC) (G : gG) (M : gY) (Q : gK) (P : gP) (pc : Nat) (ls st : List Value) (σ : gM) : Prop :=
  ∃ i n, decode M.2.1 pc = .ok (i, n) ∧ gLen i n ∧ gDo fl cl cn C G M Q P pc ls st σ i
/-- from here the method comes to an end with Q: the least such thing -/
def wp (fl : Nat → Nat → Option (Nat × Nat × Nat)) (cl : Nat → Nat → Option (Nat × gY × Nat)) (cn : Nat → Nat → Option Int32) (C : gC) (G : gG) (M : gY) (Q : gK) (pc : Nat) (ls st : List Value) (σ : gM) : Prop :=
  ∀ P : gP, (∀ pc ls st σ, gStep fl cl cn C G M Q P pc ls st σ → P pc ls st σ) → P pc ls st σ
theorem g_ldi_m {ls : List Value} {k : Nat} {f f' : Int32 → Prop} (hf : ∀ x, f x → f' x) (h : g_ldi ls k f) : g_ldi ls k f' := by
  unfold g_ldi at h ⊢
  split
  · next x hx => rw [hx] at h; exact hf _ h
  · next hx =>
    split at h
    · next x hx2 => exact absurd hx2 (hx x)
    · exact h
theorem g_ldr_m {ls : List Value} {k : Nat} {f f' : Nat → Prop} (hf : ∀ x, f x → f' x) (h : g_ldr ls k f) : g_ldr ls k f' := by
  unfold g_ldr at h ⊢
  split
  · next x hx => rw [hx] at h; exact hf _ h
  · next hx =>
    split at h
    · next x hx2 => exact absurd hx2 (hx x)
    · exact h
theorem g_ldi_e {ls : List Value} {k : Nat} {f : Int32 → Prop} (h : g_ldi ls k f) : ∃ x, ls[k]? = some (.int x) ∧ f x := by
  unfold g_ldi at h
  split at h
  · next x hx => exact ⟨x, hx, h⟩
  · exact h.elim
theorem g_ldr_e {ls : List Value} {k : Nat} {f : Nat → Prop} (h : g_ldr ls k f) : ∃ x, ls[k]? = some (.ref x) ∧ f x := by
  unfold g_ldr at h
  split at h
  · next x hx => exact ⟨x, hx, h⟩
  · exact h.elim
theorem g_a_e {st : List Value} {f : Value → List Value → Prop} (h : g_a st f) : ∃ v s, st = v :: s ∧ f v s := by
  unfold g_a at h
  split at h
  · exact ⟨_, _, rfl, h⟩
  · exact h.elim
theorem g_1_e {st : List Value} {f : Int32 → List Value → Prop} (h : g_1 st f) : ∃ x s, st = .int x :: s ∧ f x s := by
  unfold g_1 at h
  split at h
  · exact ⟨_, _, rfl, h⟩
  · exact h.elim
theorem g_2_e {st : List Value} {f : Int32 → Int32 → List Value → Prop} (h : g_2 st f) : ∃ x y s, st = .int y :: .int x :: s ∧ f x y s := by
  unfold g_2 at h
  split at h
  · exact ⟨_, _, _, rfl, h⟩
  · exact h.elim
theorem g_r_e {st : List Value} {f : Nat → List Value → Prop} (h : g_r st f) : ∃ a s, st = .ref a :: s ∧ f a s := by
  unfold g_r at h
  split at h
  · exact ⟨_, _, rfl, h⟩
  · exact h.elim
theorem g_ri_e {st : List Value} {f : Nat → Int32 → List Value → Prop} (h : g_ri st f) : ∃ a i s, st = .int i :: .ref a :: s ∧ f a i s := by
  unfold g_ri at h
  split at h
  · exact ⟨_, _, _, rfl, h⟩
  · exact h.elim
theorem g_rii_e {st : List Value} {f : Nat → Int32 → Int32 → List Value → Prop} (h : g_rii st f) : ∃ a i x s, st = .int x :: .int i :: .ref a :: s ∧ f a i x s := by
  unfold g_rii at h
  split at h
  · exact ⟨_, _, _, _, rfl, h⟩
  · exact h.elim
theorem g_5_e {st : List Value} {f : Nat → Int32 → Nat → Int32 → Int32 → List Value → Prop} (h : g_5 st f) : ∃ a sp b dp n s, st = .int n :: .int dp :: .ref b :: .int sp :: .ref a :: s ∧ f a sp b dp n s := by
  unfold g_5 at h
  split at h
  · exact ⟨_, _, _, _, _, _, rfl, h⟩
  · exact h.elim
theorem g_a_m {st : List Value} {f f' : Value → List Value → Prop} (hf : ∀ v s, f v s → f' v s) (h : g_a st f) : g_a st f' := by
  obtain ⟨v, s, rfl, h⟩ := g_a_e h
  exact hf _ _ h
theorem g_1_m {st : List Value} {f f' : Int32 → List Value → Prop} (hf : ∀ x s, f x s → f' x s) (h : g_1 st f) : g_1 st f' := by
  obtain ⟨x, s, rfl, h⟩ := g_1_e h
  exact hf _ _ h
theorem g_2_m {st : List Value} {f f' : Int32 → Int32 → List Value → Prop} (hf : ∀ x y s, f x y s → f' x y s) (h : g_2 st f) : g_2 st f' := by
  obtain ⟨x, y, s, rfl, h⟩ := g_2_e h
  exact hf _ _ _ h
theorem g_r_m {st : List Value} {f f' : Nat → List Value → Prop} (hf : ∀ a s, f a s → f' a s) (h : g_r st f) : g_r st f' := by
  obtain ⟨a, s, rfl, h⟩ := g_r_e h
  exact hf _ _ h
theorem g_ri_m {st : List Value} {f f' : Nat → Int32 → List Value → Prop} (hf : ∀ a i s, f a i s → f' a i s) (h : g_ri st f) : g_ri st f' := by
  obtain ⟨a, i, s, rfl, h⟩ := g_ri_e h
  exact hf _ _ _ h
theorem g_rii_m {st : List Value} {f f' : Nat → Int32 → Int32 → List Value → Prop} (hf : ∀ a i x s, f a i x s → f' a i x s) (h : g_rii st f) : g_rii st f' := by
  obtain ⟨a, i, x, s, rfl, h⟩ := g_rii_e h
  exact hf _ _ _ _ h
theorem g_5_m {st : List Value} {f f' : Nat → Int32 → Nat → Int32 → Int32 → List Value → Prop} (hf : ∀ a sp b dp n s, f a sp b dp n s → f' a sp b dp n s) (h : g_5 st f) : g_5 st f' := by
  obtain ⟨a, sp, b, dp, n, s, rfl, h⟩ := g_5_e h
  exact hf _ _ _ _ _ _ h
theorem g_j_m {pc : Nat} {o : Int} {f f' : Nat → Prop} (hf : ∀ t, f t → f' t) (h : g_j pc o f) : g_j pc o f' := ⟨h.1, hf _ h.2⟩
theorem g_sw_m {pc : Nat} {x : Int32} {d : Int} {f f' : Nat → Prop} (hf : ∀ t, f t → f' t) : ∀ (os : List Int) (lo : Int), g_sw pc x d f lo os → g_sw pc x d f' lo os
  | [], _, h => g_j_m hf h
  | o :: os, lo, h => by
    unfold g_sw at h ⊢
    split
    · next e => rw [if_pos e] at h; exact g_j_m hf h
    · next e => rw [if_neg e] at h; exact g_sw_m hf os (lo + 1) h
theorem g_b_m {c : Prop} [Decidable c] {pc : Nat} {o : Int} {f f' : Nat → Prop} {B B' : Prop} (hf : ∀ t, f t → f' t) (hB : B → B') (h : g_b pc o c f B) : g_b pc o c f' B' := by
  refine ⟨h.1, ?_⟩
  have h2 := h.2
  split
  · next e => rw [if_pos e] at h2; exact hf _ h2
  · next e => rw [if_neg e] at h2; exact hB h2
theorem g_b_t {c : Prop} [Decidable c] {pc : Nat} {o : Int} {f : Nat → Prop} {B : Prop} (h : g_b pc o c f B) (q : c) : f ((pc : Int) + o).toNat := by
  have h2 := h.2
  rwa [if_pos q] at h2
theorem g_b_f {c : Prop} [Decidable c] {pc : Nat} {o : Int} {f : Nat → Prop} {B : Prop} (h : g_b pc o c f B) (q : ¬ c) : B := by
  have h2 := h.2
  rwa [if_neg q] at h2
theorem g_inv_m {Y : gY} {as : List Value} {σ : gM} {K K' : gK} (hK : ∀ r s, K r s → K' r s) (h : g_inv C Y as σ K) : g_inv C Y as σ K' := by
  obtain ⟨q, h1, h2⟩ := h
  exact ⟨q, h1, fun r s h => hK _ _ (h2 r s h)⟩
theorem gDo_m {P P' : gP} (hP : ∀ pc ls st σ, P pc ls st σ → P' pc ls st σ) {pc : Nat} {ls st : List Value} {σ : gM} {i : Jvm.ClassFile.Instr} (h : gDo fl cl cn C G M Q P pc ls st σ i) : gDo fl cl cn C G M Q P' pc ls st σ i := by
  have hP1 : ∀ {pc : Nat} {ls st : List Value} {σ : gM}, P pc ls st σ → P' pc ls st σ := fun h => hP _ _ _ _ h
  cases i with
  | iload_n k => exact g_ldi_m (fun _ h => hP1 h) h
  | iload k => exact g_ldi_m (fun _ h => hP1 h) h
  | aload_n k => exact g_ldr_m (fun _ h => hP1 h) h
  | iconst n => exact hP1 h
  | bipush n => exact hP1 h
  | sipush n => exact hP1 h
  | ldc k => obtain ⟨v, h1, h2⟩ := h; exact ⟨v, h1, hP1 h2⟩
  | istore_n k => exact g_1_m (fun _ _ h => ⟨h.1, hP1 h.2⟩) h
  | istore k => exact g_1_m (fun _ _ h => ⟨h.1, hP1 h.2⟩) h
  | iinc k n => exact g_ldi_m (fun _ h => hP1 h) h
  | iadd => exact g_2_m (fun _ _ _ h => hP1 h) h
  | isub => exact g_2_m (fun _ _ _ h => hP1 h) h
  | imul => exact g_2_m (fun _ _ _ h => hP1 h) h
  | iand => exact g_2_m (fun _ _ _ h => hP1 h) h
  | ior => exact g_2_m (fun _ _ _ h => hP1 h) h
  | ixor => exact g_2_m (fun _ _ _ h => hP1 h) h
  | ishl => exact g_2_m (fun _ _ _ h => hP1 h) h
  | ishr => exact g_2_m (fun _ _ _ h => hP1 h) h
  | idiv => exact g_2_m (fun _ _ _ h => ⟨h.1, hP1 h.2⟩) h
  | irem => exact g_2_m (fun _ _ _ h => ⟨h.1, hP1 h.2⟩) h
  | ineg => exact g_1_m (fun _ _ h => hP1 h) h
  | dup => exact g_a_m (fun _ _ h => hP1 h) h
  | dup_x1 => exact g_a_m (fun _ _ h => g_a_m (fun _ _ h => hP1 h) h) h
  | dup_x2 => exact g_a_m (fun _ _ h => g_a_m (fun _ _ h => g_a_m (fun _ _ h => hP1 h) h) h) h
  | dup2 => exact g_a_m (fun _ _ h => g_a_m (fun _ _ h => hP1 h) h) h
  | pop => exact g_a_m (fun _ _ h => hP1 h) h
  | goto o => exact g_j_m (fun _ h => hP1 h) h
  | ifCond c o => cases c <;> exact g_1_m (fun _ _ h => g_b_m (fun _ h => hP1 h) (fun h => hP1 h) h) h
  | if_icmp c o => cases c <;> exact g_2_m (fun _ _ _ h => g_b_m (fun _ h => hP1 h) (fun h => hP1 h) h) h
  | tableswitch d lo hi offs => exact g_1_m (fun _ _ h => ⟨h.1, g_sw_m (fun _ h => hP1 h) _ _ h.2⟩) h
  | getfield k =>
    refine g_r_m (fun a s h => ?_) h
    generalize fl M.2.2.2.2 k = z at h ⊢
    match z, h with
    | some (ci, f, 0), h => exact ⟨h.1, hP1 h.2⟩
    | some (ci, f, 1), h => exact ⟨h.1, hP1 h.2⟩
    | some (ci, f, 2), h => exact ⟨h.1, hP1 h.2⟩
    | some (ci, f, k + 3), h => exact ⟨h.1, hP1 h.2⟩
  | putfield k =>
    refine g_ri_m (fun a v s h => ?_) h
    generalize fl M.2.2.2.2 k = z at h ⊢
    match z, h with
    | some (ci, f, 0), h => exact ⟨h.1, hP1 h.2⟩
    | some (ci, f, 1), h => exact ⟨h.1, h.2.1, hP1 h.2.2⟩
  | iaload =>
    refine g_ri_m (fun a v s h => ?_) h
    split
    · next e => rw [if_pos e] at h; exact ⟨h.1, hP1 h.2⟩
    · next e => rw [if_neg e] at h; exact ⟨h.1, h.2.1, hP1 h.2.2⟩
  | iastore => exact g_rii_m (fun _ _ _ _ h => ⟨h.1, h.2.1, hP1 h.2.2⟩) h
  | aaload => exact g_ri_m (fun _ _ _ h => ⟨h.1, h.2.1, hP1 h.2.2⟩) h
  | arraylength => exact g_r_m (fun _ _ h => ⟨h.1, hP1 h.2⟩) h
  | invokevirtual k =>
    obtain ⟨kd, Y, np, h1, h2, h3⟩ := h
    exact ⟨kd, Y, np, h1, h2, h3.1, h3.2.1, h3.2.2.1, g_inv_m (fun _ _ h => hP1 h) h3.2.2.2⟩
  | invokestatic k =>
    obtain ⟨kd, Y, np, h1, h2⟩ := h
    refine ⟨kd, Y, np, h1, ?_⟩
    split
    · next e => rw [if_pos e] at h2; exact ⟨h2.1, g_2_m (fun _ _ _ h => hP1 h) h2.2⟩
    · next e =>
      rw [if_neg e] at h2
      split
      · next e => rw [if_pos e] at h2; exact ⟨h2.1, g_2_m (fun _ _ _ h => hP1 h) h2.2⟩
      · next e =>
        rw [if_neg e] at h2
        split
        · next e => rw [if_pos e] at h2; exact g_5_m (fun _ _ _ _ _ _ h => ⟨h.1, h.2.1, h.2.2.1, h.2.2.2.1, h.2.2.2.2.1, h.2.2.2.2.2.1, h.2.2.2.2.2.2.1, h.2.2.2.2.2.2.2.1, hP1 h.2.2.2.2.2.2.2.2⟩) h2
        · next e => rw [if_neg e] at h2; exact ⟨h2.1, h2.2.1, h2.2.2.1, g_inv_m (fun _ _ h => hP1 h) h2.2.2.2⟩
  | ireturn => exact h
  | return_ => exact h
  | _ => exact h.elim
theorem gStep_m {P P' : gP} (hP : ∀ pc ls st σ, P pc ls st σ → P' pc ls st σ) {pc : Nat} {ls st : List Value} {σ : gM} (h : gStep fl cl cn C G M Q P pc ls st σ) : gStep fl cl cn C G M Q P' pc ls st σ := by
  obtain ⟨i, n, h1, h2, h3⟩ := h
  exact ⟨i, n, h1, h2, gDo_m hP h3⟩
theorem wp_le {P : gP} (hP : ∀ pc ls st σ, gStep fl cl cn C G M Q P pc ls st σ → P pc ls st σ) {pc : Nat} {ls st : List Value} {σ : gM} (h : wp fl cl cn C G M Q pc ls st σ) : P pc ls st σ := h P hP
theorem wp_in {pc : Nat} {ls st : List Value} {σ : gM} (h : gStep fl cl cn C G M Q (wp fl cl cn C G M Q) pc ls st σ) : wp fl cl cn C G M Q pc ls st σ := fun P hP => hP _ _ _ _ (gStep_m (fun _ _ _ _ h => h P hP) h)
theorem wp_out {pc : Nat} {ls st : List Value} {σ : gM} (h : wp fl cl cn C G M Q pc ls st σ) : gStep fl cl cn C G M Q (wp fl cl cn C G M Q) pc ls st σ := wp_le (P := gStep fl cl cn C G M Q (wp fl cl cn C G M Q)) (fun _ _ _ _ h => gStep_m (fun _ _ _ _ h => wp_in h) h) h
theorem wp_eq {pc : Nat} {ls st : List Value} {σ : gM} {i : Jvm.ClassFile.Instr} {n : Nat} (hd : decode M.2.1 pc = .ok (i, n)) (hn : gLen i n) : wp fl cl cn C G M Q pc ls st σ = gDo fl cl cn C G M Q (wp fl cl cn C G M Q) pc ls st σ i := by
  refine propext ⟨fun h => ?_, fun h => wp_in ⟨i, n, hd, hn, h⟩⟩
  obtain ⟨i', n', h1, -, h3⟩ := wp_out h
  rw [hd] at h1
  cases h1
  exact h3
/-- more for the end of calls and the end: the same -/
theorem wp_mono {Q' : gK} (hQ : ∀ r s, Q r s → Q' r s) {pc : Nat} {ls st : List Value} {σ : gM} (h : wp fl cl cn C G M Q pc ls st σ) : wp fl cl cn C G M Q' pc ls st σ := by
  refine wp_le (P := wp fl cl cn C G M Q') (fun pc ls st σ h => wp_in ?_) h
  obtain ⟨i, n, h1, h2, h3⟩ := h
  refine ⟨i, n, h1, h2, ?_⟩
  cases i with
  | ireturn => exact g_1_m (fun _ _ h => ⟨h.1, h.2.1, hQ _ _ h.2.2⟩) h3
  | return_ => exact ⟨h3.1, h3.2.1, hQ _ _ h3.2.2⟩
  | ifCond c o => cases c <;> exact h3
  | if_icmp c o => cases c <;> exact h3
  | _ => exact h3
end GM
/-- the methods, by the depth of their calls -/
def gCm (fl : Nat → Nat → Option (Nat × Nat × Nat)) (cl : Nat → Nat → Option (Nat × gY × Nat)) (cn : Nat → Nat → Option Int32) (G : gG) : Nat → gC
  | 0 => fun _ _ _ _ => False
  | d + 1 => fun Y as σ q => as.length ≤ Y.2.2.1 ∧ wp fl cl cn (gCm fl cl cn G d) G Y q 0 (as ++ List.replicate (Y.2.2.1 - as.length) (.long 0)) [] σ
end
section
def gT : List Cond := lw_tbl.filter goodWord
theorem gT_in {w : Cond} (h : w ∈ lw_tbl) (hg : goodWord w = true) : w ∈ gT := List.mem_filter.mpr ⟨h, hg⟩
/-- the links of nest mates: they hold in every state behind the first -/
def gNs : List (String × Nat × MethodName × String) := [("RegionHandles$Memory", 17, yX5_init, "RegionHandles"), ("RegionHandles$Ground", 19, yX9_fill, "RegionHandles"), ("RegionHandles$Memory", 31, yX0_init, "RegionHandles"), ("RegionHandles$Memory", 38, yX6_init, "RegionHandles"), ("RegionHandles$Memory", 49, yX9_fill, "RegionHandles"), ("RegionHandles", 27, yX8_init, "RegionHandles"), ("RegionHandles", 34, yX4_init, "RegionHandles"), ("RegionHandles", 41, yX7_init, "RegionHandles"), ("RegionHandles", 48, yX2_init, "RegionHandles"), ("RegionHandles$Walk", 46, yX9_fill, "RegionHandles"), ("RegionHandles$Memory", 57, yX9_copyAll, "RegionHandles"), ("RegionHandles$Regions", 37, yX9_copyAll, "RegionHandles"), ("RegionHandles$Ground", 48, yX9_copyAll, "RegionHandles"), ("RegionHandles$Blocks", 46, yX9_copyAll, "RegionHandles"), ("RegionHandles$TagOrder", 19, yX9_copyAll, "RegionHandles"), ("RegionHandles$Holders", 24, yX9_fill, "RegionHandles")]
def gNw (U : State) : Prop := ∀ q ∈ gNs, va_Nw (.methodLinkNest q.1 q.2.1 q.2.2.1 q.2.2.2) U
def gWs (Y : gY) : List Cond := Cond.code Y.1 Y.2.1 Y.2.2.1 Y.2.2.2.1 :: gT
def gRn (c : Nat) : String := if c = 11 then RL else ((vwCl[c]?).map (·.1)).getD ""
def g_nf (c : Nat) : Nat := ((vwCl[c]?).map (·.2.2)).getD 0
def g_isr (c k : Nat) : Bool := match vwCl[c]? with
  | some q => !((q.2.1 k).2.2.1 == "I" || (q.2.1 k).2.2.1 == "Z")
  | none => false
/-- a method that may be called -/
def gOkM (Y : gY) (np : Nat) : Prop := Cond.code Y.1 Y.2.1 Y.2.2.1 Y.2.2.2.1 ∈ gT ∧ plainName Y.1.cls = true ∧ (Y.1.cls ≠ "java/lang/invoke/MethodHandle" ∧ Y.1.cls ≠ "java/lang/invoke/VarHandle") ∧ (parseMethodDescriptor Y.1.desc).map (fun d => d.parameters.length) = some np ∧ Y.2.2.1 ≤ 18 ∧ gRn Y.2.2.2.2 = Y.1.cls ∧ Cond.initialized Y.1.cls ∈ gT
def gOkF (c k ci f ty : Nat) : Prop := ∃ (Cn : String) (T : u_T) (N : Nat) (tf : Nat → FieldType), vwCl[ci]? = some (Cn, T, N) ∧ ci < 11 ∧ f < N ∧ Cond.fieldLink (gRn c) k (T f).1 (T f).2.1 (T f).2.2.1 ∈ gT ∧ (∀ w ∈ u_ws Cn T N, w ∈ gT) ∧ g_isr ci f = (ty == 2) ∧ (∀ k, k < N → parseFieldDescriptor (T k).2.2.1 = some (tf k)) ∧ (∀ a, a < N → ∀ b, b < N → a ≠ b → (T a).2.1 ≠ (T b).2.1) ∧ (ty = 0 → tf f = .int ∧ (T f).2.2.2 = false) ∧ (ty = 1 → tf f = .boolean ∧ (T f).2.2.2 = false)
def gOkC (c k kd : Nat) (Y : gY) (np : Nat) : Prop :=
  (kd = 0 ∧ gOkM Y np ∧ Cond.methodLink (gRn c) k Y.1 ∈ gT ∧ Cond.instanceMethod Y.1 ∈ gT ∧ Cond.selects Y.1.cls Y.1 Y.1 ∈ gT ∧ Y.2.2.2.2 < 11) ∨
  (kd = 1 ∧ gOkM Y np ∧ Cond.methodLink (gRn c) k Y.1 ∈ gT ∧ Cond.static Y.1 ∈ gT) ∨
  (kd = 2 ∧ gOkM Y np ∧ (∃ host, (gRn c, k, Y.1, host) ∈ gNs) ∧ Cond.static Y.1 ∈ gT) ∨
  (kd = 3 ∧ Cond.methodLink (gRn c) k Lib.Math.min.name ∈ gT ∧ Cond.static Lib.Math.min.name ∈ gT ∧ Cond.initialized "java/lang/Math" ∈ gT ∧ Cond.code Lib.Math.min.name Lib.Math.min.code 2 (some .int) ∈ gT) ∨
  (kd = 4 ∧ Cond.methodLink (gRn c) k Lib.Math.max.name ∈ gT ∧ Cond.static Lib.Math.max.name ∈ gT ∧ Cond.initialized "java/lang/Math" ∈ gT ∧ Cond.code Lib.Math.max.name Lib.Math.max.code 2 (some .int) ∈ gT) ∨
  (kd = 5 ∧ Cond.methodLink (gRn c) k arraycopyName ∈ gT ∧ Cond.native arraycopyName ∈ gT ∧ Cond.static arraycopyName ∈ gT ∧ Cond.initialized "java/lang/System" ∈ gT)
def gOkT (fl : Nat → Nat → Option (Nat × Nat × Nat)) (cl : Nat → Nat → Option (Nat × gY × Nat)) (cn : Nat → Nat → Option Int32) : Prop :=
  (∀ c k ci f ty, fl c k = some (ci, f, ty) → gOkF c k ci f ty) ∧ (∀ c k kd Y np, cl c k = some (kd, Y, np) → gOkC c k kd Y np) ∧ (∀ c k v, cn c k = some v → Cond.constant (gRn c) k v ∈ gT)
/-! pictures -/
def gV (ad : Nat → Nat) : Value → Value
  | .ref k => .ref (ad k)
  | v => v
def gOk : Value → Bool
  | .int _ => true
  | .ref _ => true
  | _ => false
theorem gOk_cat {ad : Nat → Nat} {v : Value} (h : gOk v = true) : (gV ad v).category = 1 := by
  cases v <;> first | rfl | cases h
theorem gOk_sum {ad : Nat → Nat} : ∀ (st : List Value), (∀ v ∈ st, gOk v = true) → ((st.map (gV ad)).map fun v => v.category).sum = st.length
  | [], _ => rfl
  | v :: st, h => by
    have h1 := gOk_cat (ad := ad) (h v List.mem_cons_self)
    have h2 := gOk_sum (ad := ad) st (fun w hw => h w (List.mem_cons_of_mem _ hw))
    simp only [List.map_cons, List.sum_cons, List.length_cons, h1, h2]
    omega
def gLv (ad : Nat → Nat) (ls : List Value) : List (Nat × Value) := (List.range ls.length).filterMap fun i => match ls[i]? with
  | some v => if gOk v = true then some (i, gV ad v) else none
  | none => none
theorem gLv_mem {ad : Nat → Nat} {ls : List Value} {i : Nat} {w : Value} (h : (i, w) ∈ gLv ad ls) : ∃ v, ls[i]? = some v ∧ gOk v = true ∧ w = gV ad v := by
  unfold gLv at h
  obtain ⟨j, -, hj⟩ := List.mem_filterMap.mp h
  split at hj
  · next v hv =>
    split at hj
    · next hk => cases hj; exact ⟨v, hv, hk, rfl⟩
    · cases hj
  · cases hj
theorem gLv_of {ad : Nat → Nat} {ls : List Value} {i : Nat} {v : Value} (h : ls[i]? = some v) (hk : gOk v = true) : (i, gV ad v) ∈ gLv ad ls := by
  unfold gLv
  refine List.mem_filterMap.mpr ⟨i, List.mem_range.mpr (List.getElem?_eq_some_iff.mp h).1, ?_⟩
  rw [h]
  simp [hk]
theorem gLv_at {ad : Nat → Nat} {S : Array Slot} {nL : Nat} {ls : List Value} (h : lv_has S nL (gLv ad ls)) {i : Nat} {v : Value} (hv : ls[i]? = some v) (hk : gOk v = true) : S[i]? = some (.val (gV ad v)) := h.2.2 _ (gLv_of hv hk)
theorem gLv_set {ad : Nat → Nat} {S : Array Slot} {nL : Nat} {ls : List Value} {i : Nat} {v : Value} (h : lv_has S nL ((i, gV ad v) :: (gLv ad ls).filter (fun q => !(q.1 == i) && !(q.1 + 1 == i && q.2.category == 2)))) : lv_has S nL (gLv ad (ls.set i v)) := by
  refine ⟨h.1, h.2.1, fun q hq => h.2.2 q ?_⟩
  obtain ⟨j, w⟩ := q
  obtain ⟨u, hu, hk, rfl⟩ := gLv_mem hq
  by_cases e : i = j
  · subst e
    have hlt : i < (ls.set i v).length := (List.getElem?_eq_some_iff.mp hu).1
    rw [List.getElem?_set_self (by simpa using hlt)] at hu
    cases hu
    exact List.mem_cons_self
  · rw [List.getElem?_set_ne e] at hu
    refine List.mem_cons_of_mem _ (List.mem_filter.mpr ⟨gLv_of hu hk, ?_⟩)
    have h1 := gOk_cat (ad := ad) hk
    simp [h1]
    exact fun z => e z.symm
/-- the content of an object -/
def gE (G : gG) (cA : Nat → ClassId) (ad : Nat → Nat) (σ : gM) (i : Nat) : va_E :=
  if (G i).1 = 11 then .inl (cA i, (G i).2.1, .inl (σ i))
  else if (G i).1 = 12 then .inl (cA i, (G i).2.1, .inr (.inr (.inr (.inr fun j => some (ad ((G i).2.2 j))))))
  else .inr ((G i).1, (List.range (g_nf (G i).1)).map fun k => if g_isr (G i).1 k = true then .ref (ad ((G i).2.2 k)) else .int (σ i k))
def gW (G : gG) (cA : Nat → ClassId) (ad : Nat → Nat) (n : Nat) (σ : gM) : va_W := (List.range n).map fun i => (ad i, gE G cA ad σ i)
theorem gW_get {G : gG} {cA : Nat → ClassId} {ad : Nat → Nat} {n : Nat} {σ : gM} {i : Nat} (h : i < n) : (gW G cA ad n σ)[i]? = some (ad i, gE G cA ad σ i) := by
  unfold gW
  rw [List.getElem?_map, List.getElem?_range h]
  rfl
theorem gW_set {G : gG} {cA : Nat → ClassId} {ad : Nat → Nat} {n : Nat} {σ σ' : gM} {a : Nat} {e : va_E} (he : gE G cA ad σ' a = e) (ho : ∀ i, i ≠ a → gE G cA ad σ' i = gE G cA ad σ i) : (gW G cA ad n σ).set a (ad a, e) = gW G cA ad n σ' := by
  apply List.ext_getElem?
  intro i
  by_cases hi : i < n
  · rw [gW_get hi]
    by_cases e2 : a = i
    · subst e2
      rw [List.getElem?_set_self (by simpa [gW] using hi), he]
    · rw [List.getElem?_set_ne e2, gW_get hi, ho i (fun z => e2 z.symm)]
  · rw [List.getElem?_eq_none (by simp [gW]; omega), List.getElem?_eq_none (by simp [gW]; omega)]
theorem gE_o {G : gG} {cA : Nat → ClassId} {ad : Nat → Nat} {σ σ' : gM} {i : Nat} (h : σ' i = σ i) : gE G cA ad σ' i = gE G cA ad σ i := by
  unfold gE
  rw [h]
theorem g_up_o {σ : gM} {a k i : Nat} {v : Int32} (h : i ≠ a) : g_up σ a k v i = σ i := by
  funext j
  simp [g_up, h]
theorem g_up_s {σ : gM} {a k : Nat} {v : Int32} : g_up σ a k v a = upd (σ a) k v := by
  funext j
  simp [g_up, upd]
theorem g_cp_o {σ : gM} {a b sp dp n i : Nat} (h : i ≠ b) : g_cp σ a b sp dp n i = σ i := by
  funext j
  simp [g_cp, h]
theorem g_cp_s {σ : gM} {a b sp dp n : Nat} : g_cp σ a b sp dp n b = va_cpy (σ a) (σ b) sp dp n := by
  funext j
  simp [g_cp, va_cpy]
theorem gE_11 {G : gG} {cA : Nat → ClassId} {ad : Nat → Nat} {σ : gM} {i : Nat} (h : (G i).1 = 11) : gE G cA ad σ i = .inl (cA i, (G i).2.1, .inl (σ i)) := by
  unfold gE
  rw [if_pos h]
theorem gE_12 {G : gG} {cA : Nat → ClassId} {ad : Nat → Nat} {σ : gM} {i : Nat} (h : (G i).1 = 12) : gE G cA ad σ i = .inl (cA i, (G i).2.1, .inr (.inr (.inr (.inr fun j => some (ad ((G i).2.2 j)))))) := by
  unfold gE
  rw [if_neg (by omega), if_pos h]
theorem gE_ob {G : gG} {cA : Nat → ClassId} {ad : Nat → Nat} {σ : gM} {i : Nat} (h : (G i).1 < 11) : gE G cA ad σ i = .inr ((G i).1, (List.range (g_nf (G i).1)).map fun k => if g_isr (G i).1 k = true then .ref (ad ((G i).2.2 k)) else .int (σ i k)) := by
  unfold gE
  rw [if_neg (by omega), if_neg (by omega)]
theorem gW_D {G : gG} {cA : Nat → ClassId} {ad : Nat → Nat} {n : Nat} {σ σ' : gM} {A : Nat → Prop} (h : va_D A (gW G cA ad n σ)) : va_D A (gW G cA ad n σ') := by
  have key : ∀ (k : Nat) (q : Nat × va_E), (gW G cA ad n σ')[k]? = some q → (gW G cA ad n σ)[k]? = some (q.1, gE G cA ad σ k) := fun k q hq => by
    have hk : k < n := by simpa [gW] using (List.getElem?_eq_some_iff.mp hq).1
    rw [gW_get hk] at hq ⊢
    cases hq
    rfl
  exact ⟨fun i j p q hi hj e => h.1 i j _ _ (key i p hi) (key j q hj) e, fun k q hq => h.2 k (q.1, gE G cA ad σ k) (key k q hq)⟩
theorem gW_A {G : gG} {cA : Nat → ClassId} {ad : Nat → Nat} {n : Nat} {σ : gM} {sz : Nat} {A : Nat → Prop} (hD : va_D A (gW G cA ad n σ)) (hA : ∀ q, sz ≤ q → A q) : ∀ q, va_A (gW G cA ad n σ) sz q → A q := fun q h => by
  rcases h with ⟨k, e, hk⟩ | h
  · exact hD.2 k _ hk
  · exact hA q h
def gWorld (G : gG) (n : Nat) (cA : Nat → ClassId) (tys : List (ClassId × FieldType)) : Prop := (∀ i, (G i).1 ≤ 12 → i < n) ∧ (∀ i, (G i).1 = 11 → ∃ t : Nat, tys[t]? = some (cA i, .int)) ∧ (∀ i, (G i).1 = 12 → ∃ t : Nat, tys[t]? = some (cA i, .array .int))
def gB (D : va_G) (G : gG) (cA : Nat → ClassId) (ad : Nat → Nat) (n : Nat) (tys : List (ClassId × FieldType)) (sz : Nat) (σ : gM) (U : State) : Prop := U.heap.size = sz ∧ va_P D vwCl (gW G cA ad n σ) U.heap ∧ va_K D vwCl tys U ∧ va_D (fun _ => True) (gW G cA ad n σ) ∧ gNw U
def gQc (D : va_G) (G : gG) (cA : Nat → ClassId) (ad : Nat → Nat) (n : Nat) (q : gK) (A : Nat → Prop) : Array Value → State → Outcome → State → Prop := fun _ st oc t => (∃ (r : Option Value) (σ' : gM), oc = .returned r ∧ (r = none ∨ ∃ x, r = some (.int x)) ∧ q r σ' ∧ va_P D vwCl (gW G cA ad n σ') t.heap) ∧ va_F A st t
def gRm (d : Nat) : Room := { frames := d, cells := 0, slots := 0, locals := 37 * d }
theorem gB_blind {D : va_G} {G : gG} {cA : Nat → ClassId} {ad : Nat → Nat} {n : Nat} {tys : List (ClassId × FieldType)} {sz : Nat} {σ : gM} {av : List Value} : FrameBlind (va_Pc av (gB D G cA ad n tys sz σ)) := fun a U g mk q => by
  obtain ⟨q0, q1, qP, qK, qD, qN⟩ := q
  exact ⟨q0, q1, qP, va_K.moved (u := U) (U := U.calling g mk a) (Vm.Alike.refl U.vm) qK, qD, fun x hx => va_Nw.same rfl (u := U) (U := U.calling g mk a) rfl (qN x hx)⟩
theorem g_len {as : List Value} {k : Nat} {st : List Value} {ad : Nat → Nat} (h : as = (st.take k).reverse) : (st.map (gV ad)) = (as.map (gV ad)).reverse ++ (st.drop k).map (gV ad) := by
  subst h
  rw [← List.map_reverse, List.reverse_reverse, ← List.map_append, List.take_append_drop]
theorem g_sw_e {pc : Nat} {x : Int32} {d : Int} {f : Nat → Prop} : ∀ (os : List Int) (lo : Nat), g_sw pc x d f lo os → (g_j pc d f ∧ ∀ j, j < os.length → ¬ x = Int32.ofInt ((lo + j : Nat) : Int)) ∨ ∃ j o, os[j]? = some o ∧ x = Int32.ofInt ((lo + j : Nat) : Int) ∧ g_j pc o f
  | [], lo, h => Or.inl ⟨h, fun j hj => absurd hj (Nat.not_lt_zero _)⟩
  | o :: os, lo, h => by
    unfold g_sw at h
    split at h
    · next e => exact Or.inr ⟨0, o, rfl, e, h⟩
    · next e =>
      have e1 : ((lo : Int) + 1) = ((lo + 1 : Nat) : Int) := by omega
      rw [e1] at h
      rcases g_sw_e os (lo + 1) h with ⟨h1, h2⟩ | ⟨j, o', h1, h2, h3⟩
      · refine Or.inl ⟨h1, fun j hj => ?_⟩
        cases j with
        | zero => exact e
        | succ j =>
          have := h2 j (by simpa using hj)
          rwa [show lo + 1 + j = lo + (j + 1) by omega] at this
      · exact Or.inr ⟨j + 1, o', h1, by rw [h2, show lo + 1 + j = lo + (j + 1) by omega], h3⟩
section GS
variable {p : Program} {l : Launch} {e : Env} {R : Room} {s : State} {m : MethodId} {args : Array Value} {below : List Frame} {meth : Method} {c : Code} {H : Heap} {locs : List Loc} {cells slots : Nat} {Z : State → Prop}
variable {pc : Nat} {ls : Array Slot} {rest st0 : List Value} {a : Array Value} {A0 A1 : Nat → Prop} {H0 : Heap} {free : Addr → Prop}
variable {D : va_G} {G : gG} {cA : Nat → ClassId} {ad : Nat → Nat} {n : Nat} {tys : List (ClassId × FieldType)} {q : gK}
theorem g_call (hr : va_Run p l e R s m args below meth c H locs cells slots 0 0 (F0 m pc ls st0) rest (gQc D G cA ad n q A1 a) free) (hS : va_S A0 H0 H locs) (hA : ∀ q, q < H.size → A1 q → A0 q) (hf : ∀ q, free q → A0 q)
    (kk : ∀ (r : Option Value) (σ' : gM) (H1 : Heap) (locs1 : List Loc), (r = none ∨ ∃ x, r = some (.int x)) → q r σ' → va_P D vwCl (gW G cA ad n σ') H1 → va_S A0 H0 H1 locs1 → W p l e R s m args below meth c H1 locs1 cells slots Z (F0 m (pc + 3) ls (r.toList ++ rest))) : W p l e R s m args below meth c H locs cells slots Z (F0 m pc ls st0) := by
  intro T hT X
  obtain ⟨v, st₀, t, T', L, h0, X', hL, e1, e2, ⟨⟨r, σ', hv, hrr, hq, hP⟩, hz, hk⟩, st⟩ := hr T hT X
  cases hv
  rw [h0] at hz hk
  obtain ⟨t2, a1, b1⟩ := kk v σ' T'.heap (locs ++ L) hrr hq (by rw [e1]; exact hP)
    ⟨Nat.le_trans hS.1 (by rw [e1]; exact hz), fun q h1 h2 => by rw [e1, hk q (Nat.lt_of_lt_of_le h1 hS.1) (fun z => h2 (hA q (Nat.lt_of_lt_of_le h1 hS.1) z))]; exact hS.2.1 q h1 h2, fun q hq => by
      rcases List.mem_append.mp hq with h | h
      · exact hS.2.2 q h
      · exact hf _ (hL q h)⟩ T' rfl X'
  exact ⟨t2, st t2 a1, b1⟩
end GS
end
section
section GB
variable {p : Program} {l : Launch} {e : Env} {R : Room} {s : State} {m : MethodId} {args : Array Value} {below : List Frame} {meth : Method} {c : Code} {cells slots : Nat} {Z : State → Prop}
variable {A : Nat → Prop} {H0 : Heap}
variable {D : va_G} {G : gG} {cA : Nat → ClassId} {ad : Nat → Nat} {n : Nat} {tys : List (ClassId × FieldType)}
variable {fl : Nat → Nat → Option (Nat × Nat × Nat)} {cl : Nat → Nat → Option (Nat × gY × Nat)} {cn : Nat → Nat → Option Int32} {C : gC} {M : gY} {Q : gK}
/-- what the small machine's step stands for -/
def gRel (p : Program) (l : Launch) (e : Env) (R : Room) (s : State) (m : MethodId) (args : Array Value) (below : List Frame) (meth : Method) (c : Code) (cells slots : Nat) (Z : State → Prop) (A : Nat → Prop) (H0 : Heap) (D : va_G) (G : gG) (cA : Nat → ClassId) (ad : Nat → Nat) (n nL : Nat) : gP := fun pc ls st σ =>
  ∀ (H : Heap) (locs : List Loc) (S : Array Slot), lv_has S nL (gLv ad ls) → ls.length = nL → (∀ v ∈ st, gOk v = true) → va_P D vwCl (gW G cA ad n σ) H → va_S A H0 H locs → W p l e R s m args below meth c H locs cells slots Z (F0 m pc S (st.map (gV ad)))
theorem gk_i {x : Int32} {st : List Value} (h : ∀ v ∈ st, gOk v = true) : ∀ v ∈ Value.int x :: st, gOk v = true := List.forall_mem_cons.mpr ⟨rfl, h⟩
theorem gk_r {x : Nat} {st : List Value} (h : ∀ v ∈ st, gOk v = true) : ∀ v ∈ Value.ref x :: st, gOk v = true := List.forall_mem_cons.mpr ⟨rfl, h⟩
theorem gk_t {w : Value} {st : List Value} (h : ∀ v ∈ w :: st, gOk v = true) : ∀ v ∈ st, gOk v = true := (List.forall_mem_cons.mp h).2
theorem gk_h {w : Value} {st : List Value} (h : ∀ v ∈ w :: st, gOk v = true) : gOk w = true := (List.forall_mem_cons.mp h).1
theorem gk_c {w : Value} {st : List Value} (hw : gOk w = true) (h : ∀ v ∈ st, gOk v = true) : ∀ v ∈ w :: st, gOk v = true := List.forall_mem_cons.mpr ⟨hw, h⟩
theorem g_jt {pc : Nat} {o : Int} (h : 0 ≤ (pc : Int) + o) : (pc : Int) + o = (((pc : Int) + o).toNat : Int) := (Int.toNat_of_nonneg h).symm
theorem gk_take {k : Nat} {st : List Value} (h : ∀ v ∈ st, gOk v = true) : ∀ v ∈ (st.take k).reverse, gOk v = true := fun v hv => h v (List.mem_of_mem_take (List.mem_reverse.mp hv))
theorem gk_drop {k : Nat} {st : List Value} (h : ∀ v ∈ st, gOk v = true) : ∀ v ∈ st.drop k, gOk v = true := fun v hv => h v (List.mem_of_mem_drop hv)
theorem g_room {pc : Nat} {ls : Array Slot} {st0 st : List Value} (h : ∀ v ∈ st, gOk v = true) (hl : st.length ≤ 8) : 2 * (F0 m pc ls st0).monitorRoom + ((st.map (gV ad)).map fun v => v.category).sum ≤ 8 := lv_room (by rw [gOk_sum st h]; exact hl)
theorem gL_st {nL i : Nat} {v : Value} {ls : List Value} {S : Array Slot} (h : lv_has S nL ((i, gV ad v) :: (gLv ad ls).filter (fun q => !(q.1 == i) && !(q.1 + 1 == i && q.2.category == 2)))) : lv_has S nL (gLv ad (ls.set i v)) := gLv_set h
theorem gk_ret {r : Option Value} {st : List Value} (hr : r = none ∨ ∃ x, r = some (.int x)) (h : ∀ v ∈ st, gOk v = true) : ∀ v ∈ r.toList ++ st, gOk v = true := by
  rcases hr with rfl | ⟨x, rfl⟩
  · exact h
  · exact gk_i h
theorem gk_retm {r : Option Value} {st : List Value} (hr : r = none ∨ ∃ x, r = some (.int x)) : (r.toList ++ st).map (gV ad) = r.toList ++ st.map (gV ad) := by
  rcases hr with rfl | ⟨x, rfl⟩ <;> rfl
theorem gWs_in {Y : gY} {np : Nat} (hM : gOkM Y np) : ∀ w ∈ gWs Y, w ∈ gT ∧ ((w.onTables && w.keeps) = true ∨ ∃ ty, w = .arrayClass ty) := fun w hw => by
  have h1 : w ∈ gT := by
    rcases List.mem_cons.mp hw with rfl | hw
    · exact hM.1
    · exact hw
  exact ⟨h1, good_of_word (List.mem_filter.mp h1).2⟩
theorem gNp {Y : gY} {np : Nat} (hM : gOkM Y np) : ∀ sig, parseMethodDescriptor Y.1.desc = some sig → np = sig.parameters.length := fun sig h => by
  have h2 := hM.2.2.2.1
  rw [h] at h2
  exact (Option.some.inj h2).symm
set_option maxHeartbeats 4000000 in
theorem g_step (hx : p.tables.exec = Jvm.exec) (hb : c.code = M.2.1) (hml : c.maxLocals = M.2.2.1) (hown : s.vm.findClass (gRn M.2.2.2.2) = some m.cls) (hts : ∀ w ∈ gT, w.before args s = true)
    (hT : gOkT fl cl cn) (hWd : gWorld G n cA tys) (hNs : gNw s) (hK : va_K D vwCl tys s) (hD : va_D A (gW G cA ad n (fun _ _ => 0))) (hA : ∀ q, H0.size ≤ q → A q)
    (hX : ∀ i, (G i).1 = 13 → va_X (ad i) (G i).2.1 (fun j => Int32.ofNat ((G i).2.2 j)) s H0 ∧ ad i < H0.size ∧ ¬ A (ad i))
    {rm : Room} (hrc : rm.cells = 0) (hrs : rm.slots = 0) (hRf : rm.frames + 1 ≤ R.frames) (hRl : 37 + rm.locals ≤ R.locals) (hcs : cells ≤ R.cells ∧ slots ≤ R.slots)
    (hC : ∀ Y np as σ q sz, gOkM Y np → (∀ v ∈ as, gOk v = true) → C Y as σ q → Met l Y.1 (gWs Y) rm (va_Pc (as.map (gV ad)) (gB D G cA ad n tys sz σ)) (gQc D G cA ad n q (va_A (gW G cA ad n σ) sz)) 0 0 (va_A (gW G cA ad n σ) sz))
    (hZ1 : ∀ pc S x σ H locs, decode M.2.1 pc = .ok (.ireturn, 1) → g_rt M.2.2.2.1 x → Q (some (.int x)) σ → va_P D vwCl (gW G cA ad n σ) H → va_S A H0 H locs → W p l e R s m args below meth c H locs cells slots Z (F0 m pc S [.int x]))
    (hZ0 : ∀ pc S σ H locs, decode M.2.1 pc = .ok (.return_, 1) → M.2.2.2.1 = none → Q none σ → va_P D vwCl (gW G cA ad n σ) H → va_S A H0 H locs → W p l e R s m args below meth c H locs cells slots Z (F0 m pc S []))
    {pc : Nat} {ls st : List Value} {σ : gM} (h : gStep fl cl cn C G M Q (gRel p l e R s m args below meth c cells slots Z A H0 D G cA ad n M.2.2.1) pc ls st σ) : gRel p l e R s m args below meth c cells slots Z A H0 D G cA ad n M.2.2.1 pc ls st σ := by
  intro H locs S hL hlen hst hP hS
  obtain ⟨i, k1, hd, hn, h⟩ := h
  have hDs : va_D A (gW G cA ad n σ) := gW_D hD
  have hsz : c.maxLocals = S.size := by rw [hml, hL.1]
  cases i with
  | iload_n k => cases hn; obtain ⟨x, hl, h⟩ := g_ldi_e h; exact lv_iload_n hx hb hd rfl (gLv_at hL hl rfl) (h H locs S hL hlen (gk_i hst) hP hS)
  | iload k => cases hn; obtain ⟨x, hl, h⟩ := g_ldi_e h; exact lv_iload hx hb hd (gLv_at hL hl rfl) (h H locs S hL hlen (gk_i hst) hP hS)
  | aload_n k => cases hn; obtain ⟨x, hl, h⟩ := g_ldr_e h; exact lv_aload_n hx hb hd rfl (gLv_at hL hl rfl) (h H locs S hL hlen (gk_r hst) hP hS)
  | iconst v => cases hn; exact lv_iconst hx hb hd rfl (h H locs S hL hlen (gk_i hst) hP hS)
  | bipush v => cases hn; exact lv_bipush hx hb hd rfl (h H locs S hL hlen (gk_i hst) hP hS)
  | sipush v => cases hn; exact lv_sipush hx hb hd rfl (h H locs S hL hlen (gk_i hst) hP hS)
  | ldc k => cases hn; obtain ⟨v, h1, h⟩ := h; exact lv_ldc hx hb hown (hts _ (hT.2.2 _ _ _ h1)) hd (h H locs S hL hlen (gk_i hst) hP hS)
  | istore_n k =>
    cases hn; obtain ⟨x, s2, rfl, h1, h⟩ := g_1_e h
    exact lv_istore_n hx hb hd rfl hL (by rw [← hlen]; exact h1) rfl (fun S' h' => h H locs S' (gL_st (v := .int x) h') (by rw [List.length_set]; exact hlen) (gk_t hst) hP hS)
  | istore k =>
    cases hn; obtain ⟨x, s2, rfl, h1, h⟩ := g_1_e h
    exact lv_istore hx hb hd hL (by rw [← hlen]; exact h1) rfl (fun S' h' => h H locs S' (gL_st (v := .int x) h') (by rw [List.length_set]; exact hlen) (gk_t hst) hP hS)
  | iinc k v =>
    cases hn; obtain ⟨x, hl, h⟩ := g_ldi_e h
    obtain ⟨j, hj⟩ := List.mem_iff_getElem?.mp (gLv_of (ad := ad) hl rfl)
    exact lv_iinc hx hb hd hL (k := j) hj rfl (by rw [← hlen]; exact (List.getElem?_eq_some_iff.mp hl).1) rfl (fun S' h' => h H locs S' (gL_st (v := .int (x + Int32.ofInt v)) h') (by rw [List.length_set]; exact hlen) hst hP hS)
  | iadd => cases hn; obtain ⟨x, y, s2, rfl, h⟩ := g_2_e h; exact lv_iadd hx hb hd (h H locs S hL hlen (gk_i (gk_t (gk_t hst))) hP hS)
  | isub => cases hn; obtain ⟨x, y, s2, rfl, h⟩ := g_2_e h; exact lv_isub hx hb hd (h H locs S hL hlen (gk_i (gk_t (gk_t hst))) hP hS)
  | imul => cases hn; obtain ⟨x, y, s2, rfl, h⟩ := g_2_e h; exact lv_imul hx hb hd (h H locs S hL hlen (gk_i (gk_t (gk_t hst))) hP hS)
  | iand => cases hn; obtain ⟨x, y, s2, rfl, h⟩ := g_2_e h; exact lv_iand hx hb hd (h H locs S hL hlen (gk_i (gk_t (gk_t hst))) hP hS)
  | ior => cases hn; obtain ⟨x, y, s2, rfl, h⟩ := g_2_e h; exact lv_ior hx hb hd (h H locs S hL hlen (gk_i (gk_t (gk_t hst))) hP hS)
  | ixor => cases hn; obtain ⟨x, y, s2, rfl, h⟩ := g_2_e h; exact lv_ixor hx hb hd (h H locs S hL hlen (gk_i (gk_t (gk_t hst))) hP hS)
  | ishl => cases hn; obtain ⟨x, y, s2, rfl, h⟩ := g_2_e h; exact lv_ishl hx hb hd (h H locs S hL hlen (gk_i (gk_t (gk_t hst))) hP hS)
  | ishr => cases hn; obtain ⟨x, y, s2, rfl, h⟩ := g_2_e h; exact lv_ishr hx hb hd (h H locs S hL hlen (gk_i (gk_t (gk_t hst))) hP hS)
  | idiv => cases hn; obtain ⟨x, y, s2, rfl, h1, h⟩ := g_2_e h; exact lv_idiv hx hb hd h1 (h H locs S hL hlen (gk_i (gk_t (gk_t hst))) hP hS)
  | irem => cases hn; obtain ⟨x, y, s2, rfl, h1, h⟩ := g_2_e h; exact lv_irem hx hb hd h1 (h H locs S hL hlen (gk_i (gk_t (gk_t hst))) hP hS)
  | ineg => cases hn; obtain ⟨x, s2, rfl, h⟩ := g_1_e h; exact lv_ineg hx hb hd (h H locs S hL hlen (gk_i (gk_t hst)) hP hS)
  | dup => cases hn; obtain ⟨v, s2, rfl, h⟩ := g_a_e h; exact lv_dup hx hb hd (gOk_cat (gk_h hst)) (h H locs S hL hlen (gk_c (gk_h hst) hst) hP hS)
  | dup_x1 => cases hn; obtain ⟨v, s2, rfl, h⟩ := g_a_e h; obtain ⟨w, s3, rfl, h⟩ := g_a_e h; exact lv_dup_x1 hx hb hd (gOk_cat (gk_h hst)) (gOk_cat (gk_h (gk_t hst))) (h H locs S hL hlen (gk_c (gk_h hst) (gk_c (gk_h (gk_t hst)) (gk_c (gk_h hst) (gk_t (gk_t hst))))) hP hS)
  | dup_x2 => cases hn; obtain ⟨v, s2, rfl, h⟩ := g_a_e h; obtain ⟨w, s3, rfl, h⟩ := g_a_e h; obtain ⟨u, s4, rfl, h⟩ := g_a_e h; exact lv_dup_x2 hx hb hd (gOk_cat (gk_h hst)) (gOk_cat (gk_h (gk_t hst))) (gOk_cat (gk_h (gk_t (gk_t hst)))) (h H locs S hL hlen (gk_c (gk_h hst) (gk_c (gk_h (gk_t hst)) (gk_c (gk_h (gk_t (gk_t hst))) (gk_c (gk_h hst) (gk_t (gk_t (gk_t hst))))))) hP hS)
  | dup2 => cases hn; obtain ⟨v, s2, rfl, h⟩ := g_a_e h; obtain ⟨w, s3, rfl, h⟩ := g_a_e h; exact lv_dup2_11 hx hb hd (gOk_cat (gk_h hst)) (gOk_cat (gk_h (gk_t hst))) (h H locs S hL hlen (gk_c (gk_h hst) (gk_c (gk_h (gk_t hst)) hst)) hP hS)
  | pop => cases hn; obtain ⟨v, s2, rfl, h⟩ := g_a_e h; exact lv_pop hx hb hd (gOk_cat (gk_h hst)) (h H locs S hL hlen (gk_t hst) hP hS)
  | goto o => cases hn; exact lv_goto hx hb hd (g_jt h.1) (h.2 H locs S hL hlen hst hP hS)
  | ifCond cc o =>
    cases hn
    cases cc with
    | eq => obtain ⟨x, s2, rfl, k⟩ := g_1_e h; exact lv_if_eq (tgt := ((pc : Int) + o).toNat) hx hb hd (g_jt k.1) (fun q => g_b_t k q H locs S hL hlen (gk_t hst) hP hS) (fun q => g_b_f k q H locs S hL hlen (gk_t hst) hP hS)
    | ne => obtain ⟨x, s2, rfl, k⟩ := g_1_e h; exact lv_if_ne (tgt := ((pc : Int) + o).toNat) hx hb hd (g_jt k.1) (fun q => g_b_t k q H locs S hL hlen (gk_t hst) hP hS) (fun q => g_b_f k (fun z => z q) H locs S hL hlen (gk_t hst) hP hS)
    | lt => obtain ⟨x, s2, rfl, k⟩ := g_1_e h; exact lv_if_lt (tgt := ((pc : Int) + o).toNat) hx hb hd (g_jt k.1) (fun q => g_b_t k q H locs S hL hlen (gk_t hst) hP hS) (fun q => g_b_f k q H locs S hL hlen (gk_t hst) hP hS)
    | ge => obtain ⟨x, s2, rfl, k⟩ := g_1_e h; exact lv_if_ge (tgt := ((pc : Int) + o).toNat) hx hb hd (g_jt k.1) (fun q => g_b_t k q H locs S hL hlen (gk_t hst) hP hS) (fun q => g_b_f k q H locs S hL hlen (gk_t hst) hP hS)
    | gt => obtain ⟨x, s2, rfl, k⟩ := g_1_e h; exact lv_if_gt (tgt := ((pc : Int) + o).toNat) hx hb hd (g_jt k.1) (fun q => g_b_t k q H locs S hL hlen (gk_t hst) hP hS) (fun q => g_b_f k q H locs S hL hlen (gk_t hst) hP hS)
    | le => obtain ⟨x, s2, rfl, k⟩ := g_1_e h; exact lv_if_le (tgt := ((pc : Int) + o).toNat) hx hb hd (g_jt k.1) (fun q => g_b_t k q H locs S hL hlen (gk_t hst) hP hS) (fun q => g_b_f k q H locs S hL hlen (gk_t hst) hP hS)
  | if_icmp cc o =>
    cases hn
    cases cc with
    | eq => obtain ⟨x, y, s2, rfl, k⟩ := g_2_e h; exact lv_icmp_eq (tgt := ((pc : Int) + o).toNat) hx hb hd (g_jt k.1) (fun q => g_b_t k q H locs S hL hlen (gk_t (gk_t hst)) hP hS) (fun q => g_b_f k q H locs S hL hlen (gk_t (gk_t hst)) hP hS)
    | ne => obtain ⟨x, y, s2, rfl, k⟩ := g_2_e h; exact lv_icmp_ne (tgt := ((pc : Int) + o).toNat) hx hb hd (g_jt k.1) (fun q => g_b_t k q H locs S hL hlen (gk_t (gk_t hst)) hP hS) (fun q => g_b_f k (fun z => z q) H locs S hL hlen (gk_t (gk_t hst)) hP hS)
    | lt => obtain ⟨x, y, s2, rfl, k⟩ := g_2_e h; exact lv_icmp_lt (tgt := ((pc : Int) + o).toNat) hx hb hd (g_jt k.1) (fun q => g_b_t k q H locs S hL hlen (gk_t (gk_t hst)) hP hS) (fun q => g_b_f k q H locs S hL hlen (gk_t (gk_t hst)) hP hS)
    | ge => obtain ⟨x, y, s2, rfl, k⟩ := g_2_e h; exact lv_icmp_ge (tgt := ((pc : Int) + o).toNat) hx hb hd (g_jt k.1) (fun q => g_b_t k q H locs S hL hlen (gk_t (gk_t hst)) hP hS) (fun q => g_b_f k q H locs S hL hlen (gk_t (gk_t hst)) hP hS)
    | gt => obtain ⟨x, y, s2, rfl, k⟩ := g_2_e h; exact lv_icmp_gt (tgt := ((pc : Int) + o).toNat) hx hb hd (g_jt k.1) (fun q => g_b_t k q H locs S hL hlen (gk_t (gk_t hst)) hP hS) (fun q => g_b_f k q H locs S hL hlen (gk_t (gk_t hst)) hP hS)
    | le => obtain ⟨x, y, s2, rfl, k⟩ := g_2_e h; exact lv_icmp_le (tgt := ((pc : Int) + o).toNat) hx hb hd (g_jt k.1) (fun q => g_b_t k q H locs S hL hlen (gk_t (gk_t hst)) hP hS) (fun q => g_b_f k q H locs S hL hlen (gk_t (gk_t hst)) hP hS)
  | tableswitch d lo hi offs =>
    obtain ⟨x, s2, rfl, ⟨hlo, hhi, hsm⟩, k⟩ := g_1_e h
    subst hlo
    rcases g_sw_e offs.toList 0 k with ⟨k1, k2⟩ | ⟨j, o, k1, k2, k3⟩
    · refine lv_tableOut hx hb hd ?_ (g_jt k1.1) (k1.2 H locs S hL hlen (gk_t hst) hP hS)
      rcases Int.lt_or_le x.toInt 0 with z | z
      · exact Or.inl z
      · rcases Int.lt_or_le hi x.toInt with z2 | z2
        · exact Or.inr z2
        · refine absurd ?_ (k2 x.toInt.toNat (by omega))
          rw [Nat.zero_add, Int.toNat_of_nonneg z, Int32.ofInt_toInt]
    · have hj : j < offs.toList.length := (List.getElem?_eq_some_iff.mp k1).1
      have ex : x.toInt = j := by
        rw [k2, Nat.zero_add, Int32.toInt_ofInt_of_le (by omega) (by omega)]
      refine lv_tableIn hx hb hd (by omega) (by omega) (off := o) ?_ (g_jt k3.1) (k3.2 H locs S hL hlen (gk_t hst) hP hS)
      rw [ex, show ((j : Int) - 0).toNat = j by omega, ← Array.getElem?_toList]
      exact k1
  | getfield f =>
    cases hn
    obtain ⟨a, s2, rfl, k⟩ := g_r_e h
    cases hz : fl M.2.2.2.2 f with
    | none => rw [hz] at k; exact k.elim
    | some z =>
      obtain ⟨ci, f1, ty⟩ := z
      obtain ⟨Cn, T, N, tf, q1, q2, q3, q4, q5, q6, -⟩ := hT.1 _ _ _ _ _ hz
      rw [hz] at k
      have hk1 : (G a).1 = ci := by
        match ty, k with
        | 0, k => exact k.1
        | 1, k => exact k.1
        | 2, k => exact k.1
        | k9 + 3, k => exact k.1
      have ha : a < n := hWd.1 a (by omega)
      have hw := gW_get (G := G) (cA := cA) (ad := ad) (σ := σ) ha
      rw [gE_ob (by omega)] at hw
      have hnf : g_nf (G a).1 = N := by rw [hk1]; simp [g_nf, q1]
      refine va_get (D := D) (ci := (G a).1) hx hb hts q5 hown hK hP a hw (by rw [hk1]; exact q1) f1 q3 (hts _ q4) (fun _ h9 => h9) (v := if g_isr (G a).1 f1 = true then .ref (ad ((G a).2.2 f1)) else .int (σ a f1)) (by rw [List.getElem?_map, List.getElem?_range (by rw [hnf]; exact q3)]; rfl) hd ?_
      rw [hk1, q6]
      match ty, k with
      | 0, k => exact k.2 H locs S hL hlen (gk_i (gk_t hst)) hP hS
      | 1, k => exact k.2 H locs S hL hlen (gk_i (gk_t hst)) hP hS
      | 2, k => exact k.2 H locs S hL hlen (gk_r (gk_t hst)) hP hS
      | k9 + 3, k => exact k.2 H locs S hL hlen (gk_i (gk_t hst)) hP hS
  | putfield f =>
    cases hn
    obtain ⟨a, v, s2, rfl, k⟩ := g_ri_e h
    cases hz : fl M.2.2.2.2 f with
    | none => rw [hz] at k; exact k.elim
    | some z =>
      obtain ⟨ci, f1, ty⟩ := z
      obtain ⟨Cn, T, N, tf, q1, q2, q3, q4, q5, q6, q7, q8, q9, q10⟩ := hT.1 _ _ _ _ _ hz
      rw [hz] at k
      have hk1 : (G a).1 = ci ∧ ty < 2 := by
        match ty, k with
        | 0, k => exact ⟨k.1, by omega⟩
        | 1, k => exact ⟨k.1, by omega⟩
      obtain ⟨hk1, hty⟩ := hk1
      have ha : a < n := hWd.1 a (by omega)
      have hw := gW_get (G := G) (cA := cA) (ad := ad) (σ := σ) ha
      rw [gE_ob (by omega)] at hw
      have hnf : g_nf (G a).1 = N := by rw [hk1]; simp [g_nf, q1]
      have hnr : g_isr (G a).1 f1 = false := by rw [hk1, q6]; match ty, hty with
        | 0, _ => rfl
        | 1, _ => rfl
      have hset : (gW G cA ad n σ).set a (ad a, .inr ((G a).1, ((List.range (g_nf (G a).1)).map fun k => if g_isr (G a).1 k = true then Value.ref (ad ((G a).2.2 k)) else .int (σ a k)).set f1 (.int v))) = gW G cA ad n (g_up σ a f1 v) := by
        refine gW_set ?_ (fun i hi => gE_o (g_up_o hi))
        rw [gE_ob (by omega)]
        refine congrArg (fun z => Sum.inr ((G a).1, z)) ?_
        apply List.ext_getElem?
        intro j
        by_cases hj : j < g_nf (G a).1
        · rw [List.getElem?_map, List.getElem?_range hj]
          by_cases e1 : f1 = j
          · subst e1
            rw [List.getElem?_set_self (by simpa using hj)]
            simp [hnr, g_up]
          · rw [List.getElem?_set_ne e1, List.getElem?_map, List.getElem?_range hj]
            have e2 : ¬ j = f1 := fun z => e1 z.symm
            simp [g_up, e2]
        · rw [List.getElem?_eq_none (by simp; omega), List.getElem?_eq_none (by simp; omega)]
      have go : ∀ ty0, parseFieldDescriptor (T f1).2.2.1 = some ty0 → narrow ty0 (.int v) = .int v → fits ty0 (.int v) = true → (T f1).2.2.2 = false → gRel p l e R s m args below meth c cells slots Z A H0 D G cA ad n M.2.2.1 (pc + 3) ls s2 (g_up σ a f1 v) → W p l e R s m args below meth c H locs cells slots Z (F0 m pc S ((Value.int v :: .ref a :: s2).map (gV ad))) := fun ty0 w1 w2 w3 w4 kk => by
        refine va_put (D := D) (ci := (G a).1) (v := .int v) (ty := ty0) hx hb hts q5 tf q7 q8 hown hK hP hDs hS a hw (by rw [hk1]; exact q1) f1 q3 (hts _ q4) (fun _ h9 => h9) w4 w1 w2 w3 (by simp [hnf]; exact q3) hd (fun H1 locs1 hP1 hD1 hS1 => ?_)
        rw [hset] at hP1
        exact kk H1 locs1 S hL hlen (gk_t (gk_t hst)) hP1 hS1
      match ty, k with
      | 0, k => exact go .int (by rw [q7 _ q3, (q9 rfl).1]) rfl rfl (q9 rfl).2 k.2
      | 1, k => exact go .boolean (by rw [q7 _ q3, (q10 rfl).1]) (by rcases k.2.1 with e1 | e1 <;> subst e1 <;> rfl) (by rcases k.2.1 with e1 | e1 <;> subst e1 <;> rfl) (q10 rfl).2 k.2.2
  | iaload =>
    cases hn
    obtain ⟨a, i, s2, rfl, k⟩ := g_ri_e h
    by_cases e13 : (G a).1 = 13
    · rw [if_pos e13] at k
      obtain ⟨x1, x2, x3⟩ := hX a e13
      exact va_sld hx hb x1 x2 x3 hS k.1 hd (k.2 H locs S hL hlen (gk_i (gk_t (gk_t hst))) hP hS)
    · rw [if_neg e13] at k
      have ha : a < n := hWd.1 a (by omega)
      obtain ⟨t0, ht⟩ := hWd.2.1 a k.1
      have hw := gW_get (G := G) (cA := cA) (ad := ad) (σ := σ) ha
      rw [gE_11 k.1] at hw
      exact va_iald hx hb hK hP a t0 hw ht k.2.1 hd (k.2.2 H locs S hL hlen (gk_i (gk_t (gk_t hst))) hP hS)
  | iastore =>
    cases hn
    obtain ⟨a, i, x, s2, rfl, k⟩ := g_rii_e h
    have ha : a < n := hWd.1 a (by omega)
    obtain ⟨t0, ht⟩ := hWd.2.1 a k.1
    have hw := gW_get (G := G) (cA := cA) (ad := ad) (σ := σ) ha
    rw [gE_11 k.1] at hw
    refine va_iast hx hb hK hP hDs hS a t0 hw ht k.2.1 hd (fun H1 locs1 hP1 hD1 hS1 => ?_)
    rw [gW_set (σ' := g_up σ a i.toNatClampNeg x) (by rw [gE_11 k.1, g_up_s]) (fun i hi => gE_o (g_up_o hi))] at hP1
    exact k.2.2 H1 locs1 S hL hlen (gk_t (gk_t (gk_t hst))) hP1 hS1
  | aaload =>
    cases hn
    obtain ⟨a, i, s2, rfl, k⟩ := g_ri_e h
    have ha : a < n := hWd.1 a (by omega)
    obtain ⟨t0, ht⟩ := hWd.2.2 a k.1
    have hw := gW_get (G := G) (cA := cA) (ad := ad) (σ := σ) ha
    rw [gE_12 k.1] at hw
    have hlt : i.toNatClampNeg < (G a).2.1 := Nat.not_le.mp fun q => k.2.1 (Or.inr q)
    exact W.aald (v := .ref (ad ((G a).2.2 i.toNatClampNeg))) (ty := .array .int) hx hb (hP a _ hw) ((hK.2 t0 _ ht).1 (G a).2.1 (fun j => .ref (ad ((G a).2.2 j)))) rfl (fun q => by cases q) (by show ¬ (i < 0 ∨ (arrV _ _ _).slots.size ≤ _); rw [arrV_size]; exact k.2.1) (by show (arrV _ _ _).slots[_]? = _; rw [arrV_read _ _ hlt]; rfl) rfl rfl hd (k.2.2 H locs S hL hlen (gk_r (gk_t (gk_t hst))) hP hS)
  | arraylength =>
    cases hn
    obtain ⟨a, s2, rfl, k⟩ := g_r_e h
    rcases k.1 with e11 | e13
    · have ha : a < n := hWd.1 a (by omega)
      obtain ⟨t0, ht⟩ := hWd.2.1 a e11
      have hw := gW_get (G := G) (cA := cA) (ad := ad) (σ := σ) ha
      rw [gE_11 e11] at hw
      exact va_alen hx hb hK hP a t0 hw ht rfl hd (k.2 H locs S hL hlen (gk_i (gk_t hst)) hP hS)
    · obtain ⟨x1, x2, x3⟩ := hX a e13
      exact va_slen hx hb x1 x2 x3 hS hd (k.2 H locs S hL hlen (gk_i (gk_t hst)) hP hS)
  | invokevirtual k =>
    cases hn
    obtain ⟨kd, Y, np, z1, rfl, z3, ⟨b, bs, z4, z5⟩, z6, q, z7, z8⟩ := h
    have hok := hT.2.1 _ _ _ _ _ z1
    rcases hok with ⟨-, hM, w1, w2, w3, w4⟩ | ⟨w, -⟩ | ⟨w, -⟩ | ⟨w, -⟩ | ⟨w, -⟩ | ⟨w, -⟩
    · have hkt := gk_take (k := np + 1) hst
      have hMet := hC Y np _ σ q H.size hM hkt z7
      rw [z4] at hMet hkt
      have hstk : st.map (gV ad) = (bs.map (gV ad)).reverse ++ .ref (ad b) :: (st.drop (np + 1)).map (gV ad) := by
        rw [g_len (ad := ad) (as := (st.take (np + 1)).reverse) (k := np + 1) rfl, z4]
        simp [gV]
      rw [hstk]
      have hbn : b < n := hWd.1 b (by omega)
      have hw := gW_get (G := G) (cA := cA) (ad := ad) (σ := σ) hbn
      rw [gE_ob (by omega), z5] at hw
      obtain ⟨qv, hqv⟩ : ∃ qv, vwCl[Y.2.2.2.2]? = some qv := by
        obtain ⟨p0, hp0⟩ : ∃ p0, p0 = Y.2.2.2.2 := ⟨_, rfl⟩
        rw [← hp0] at w4 ⊢
        exact ⟨_, List.getElem?_eq_getElem (show p0 < vwCl.length from w4)⟩
      have hq1 : qv.1 = Y.1.cls := by
        have := hM.2.2.2.2.2.1
        unfold gRn at this
        rw [if_neg (by omega), hqv] at this
        exact this
      have hrec := va_recv hK hP hqv hw
      rw [hq1] at hrec
      have hbl : (bs.map (gV ad)).length = np := by
        have := congrArg List.length z4
        simp at this ⊢
        omega
      refine g_call (va_runV (C := Y.1.cls) (b := ad b) (As := bs.map (gV ad)) (rest := (st.drop (np + 1)).map (gV ad)) ⟨hx, hb, hml, hown, hts⟩ hMet ⟨⟨hrc, hrs, hRf, by have := hM.2.2.2.2.1; omega, pay_in hts (gWs_in hM), List.mem_cons_self, hts _ hM.1, hts _ hM.2.2.2.2.2.2, hM.2.2.1, gNp hM, hts _ w1⟩, hts _ w2, hts _ w3⟩ ⟨gB_blind, hrec, fun U hU hW => ⟨rfl, by rw [hU], by rw [hU]; exact hP, va_K.moved hW.alike hK, hDs.weaken (fun _ _ _ _ => trivial), fun x hx => va_Nw.warmM hW (hNs x hx)⟩⟩ rfl hbl hL.1 rfl (g_room (gk_drop hst) z6) hd ⟨by omega, by omega⟩) hS (fun q _ h9 => gW_A hDs (fun q h => hA q (Nat.le_trans hS.1 h)) q h9) (gW_A hDs (fun q h => hA q (Nat.le_trans hS.1 h))) (fun r σ' H1 locs1 hr hq hP1 hS1 => ?_)
      have hfin := z8 r σ' hq H1 locs1 S hL hlen (gk_ret hr (gk_drop hst)) hP1 hS1
      rw [gk_retm hr] at hfin
      exact hfin
    all_goals omega
  | invokestatic k =>
    cases hn
    obtain ⟨kd, Y, np, z1, z2⟩ := h
    have hok := hT.2.1 _ _ _ _ _ z1
    have hfr : 1 ≤ R.frames := by omega
    have hloc : 37 ≤ R.locals := by omega
    rcases hok with ⟨w, -⟩ | ⟨rfl, hM, w1, w2⟩ | ⟨rfl, hM, ⟨host, w1⟩, w2⟩ | ⟨rfl, w1, w2, w3, w4⟩ | ⟨rfl, w1, w2, w3, w4⟩ | ⟨rfl, w1, w2, w3, w4⟩
    · subst w; simp at z2
    · rw [if_neg (by decide), if_neg (by decide), if_neg (by decide)] at z2
      obtain ⟨-, z3, z6, q, z7, z8⟩ := z2
      have hkt := gk_take (k := np) hst
      have hMet := hC Y np _ σ q H.size hM hkt z7
      rw [g_len (ad := ad) (as := (st.take np).reverse) (k := np) (st := st) rfl]
      refine g_call (va_runS (As := (st.take np).reverse.map (gV ad)) (rest := (st.drop np).map (gV ad)) ⟨hx, hb, hml, hown, hts⟩ hMet ⟨⟨hrc, hrs, hRf, by have := hM.2.2.2.2.1; omega, pay_in hts (gWs_in hM), List.mem_cons_self, hts _ hM.1, hts _ hM.2.2.2.2.2.2, hM.2.2.1, gNp hM, hts _ w1⟩, hts _ w2⟩ ⟨gB_blind, fun U hU hW => ⟨rfl, by rw [hU], by rw [hU]; exact hP, va_K.moved hW.alike hK, hDs.weaken (fun _ _ _ _ => trivial), fun x hx => va_Nw.warmM hW (hNs x hx)⟩⟩ rfl (by simp; omega) hL.1 rfl (g_room (gk_drop hst) z6) hd ⟨by omega, by omega⟩) hS (fun q _ h9 => gW_A hDs (fun q h => hA q (Nat.le_trans hS.1 h)) q h9) (gW_A hDs (fun q h => hA q (Nat.le_trans hS.1 h))) (fun r σ' H1 locs1 hr hq hP1 hS1 => ?_)
      have hfin := z8 r σ' hq H1 locs1 S hL hlen (gk_ret hr (gk_drop hst)) hP1 hS1
      rw [gk_retm hr] at hfin
      exact hfin
    · rw [if_neg (by decide), if_neg (by decide), if_neg (by decide)] at z2
      obtain ⟨-, z3, z6, q, z7, z8⟩ := z2
      have hkt := gk_take (k := np) hst
      have hMet := hC Y np _ σ q H.size hM hkt z7
      rw [g_len (ad := ad) (as := (st.take np).reverse) (k := np) (st := st) rfl]
      refine g_call (va_runSN (As := (st.take np).reverse.map (gV ad)) (rest := (st.drop np).map (gV ad)) ⟨hx, hb, hml, hown, hts⟩ hMet ⟨⟨⟨hrc, hrs, hRf, by have := hM.2.2.2.2.1; omega, pay_in hts (gWs_in hM), List.mem_cons_self⟩, hts _ hM.1, hts _ hM.2.2.2.2.2.2, hM.2.2.1, gNp hM, va_Nw.use rfl (hNs _ w1)⟩, hts _ w2, trivial⟩ ⟨gB_blind, fun U hU hW => ⟨rfl, by rw [hU], by rw [hU]; exact hP, va_K.moved hW.alike hK, hDs.weaken (fun _ _ _ _ => trivial), fun x hx => va_Nw.warmM hW (hNs x hx)⟩⟩ rfl (by simp; omega) hL.1 rfl (g_room (gk_drop hst) z6) hd ⟨by omega, by omega⟩) hS (fun q _ h9 => gW_A hDs (fun q h => hA q (Nat.le_trans hS.1 h)) q h9) (gW_A hDs (fun q h => hA q (Nat.le_trans hS.1 h))) (fun r σ' H1 locs1 hr hq hP1 hS1 => ?_)
      have hfin := z8 r σ' hq H1 locs1 S hL hlen (gk_ret hr (gk_drop hst)) hP1 hS1
      rw [gk_retm hr] at hfin
      exact hfin
    · rw [if_pos rfl] at z2
      obtain ⟨z3, z2⟩ := z2
      obtain ⟨x, y, s2, rfl, k⟩ := g_2_e z2
      exact va_mmin hx hb hsz hown (hts _ w1) (hts _ w2) (hts _ w3) (hts _ w4) hfr (by rw [gOk_sum s2 (gk_t (gk_t hst))]; simp at z3; omega) hcs.1 hcs.2 hd (k H locs S hL hlen (gk_i (gk_t (gk_t hst))) hP hS)
    · rw [if_neg (by decide), if_pos rfl] at z2
      obtain ⟨z3, z2⟩ := z2
      obtain ⟨x, y, s2, rfl, k⟩ := g_2_e z2
      exact va_mmax hx hb hsz hown (hts _ w1) (hts _ w2) (hts _ w3) (hts _ w4) hfr (by rw [gOk_sum s2 (gk_t (gk_t hst))]; simp at z3; omega) hcs.1 hcs.2 hd (k H locs S hL hlen (gk_i (gk_t (gk_t hst))) hP hS)
    · rw [if_neg (by decide), if_neg (by decide), if_pos rfl] at z2
      obtain ⟨a, sp, b, dp, nn, s2, rfl, y1, y2, y3, y4, y5, y6, y7, y8, k⟩ := g_5_e z2
      obtain ⟨t0, ht0⟩ := hWd.2.1 a y2
      obtain ⟨t1, ht1⟩ := hWd.2.1 b y3
      have hw0 := gW_get (G := G) (cA := cA) (ad := ad) (σ := σ) (hWd.1 a (by omega))
      have hw1 := gW_get (G := G) (cA := cA) (ad := ad) (σ := σ) (hWd.1 b (by omega))
      rw [gE_11 y2] at hw0
      rw [gE_11 y3] at hw1
      have hs2 := gk_t (gk_t (gk_t (gk_t (gk_t hst))))
      refine va_copyi hx hb hsz hown (hts _ w1) (hts _ w2) (hts _ w3) (hts _ w4) hK hP hDs hS a b t0 t1 hw0 hw1 ht0 ht1 rfl y4 y5 y6 y7 y8 (fun _ _ => rfl) hfr (by rw [gOk_sum s2 hs2, show nativeFrameWords "java/lang/System" "arraycopy" 5 = 7 by decide]; omega) hd (fun H1 locs1 hP1 hD1 hS1 => ?_)
      rw [gW_set (σ' := g_cp σ a b sp.toNatClampNeg dp.toNatClampNeg nn.toNatClampNeg) (by rw [gE_11 y3, g_cp_s]) (fun i hi => gE_o (g_cp_o hi))] at hP1
      exact k H1 locs1 S hL hlen hs2 hP1 hS1
  | ireturn =>
    cases hn
    obtain ⟨x, s2, rfl, rfl, k1, k2⟩ := g_1_e h
    exact hZ1 pc S x σ H locs hd k1 k2 hP hS
  | return_ =>
    cases hn
    obtain ⟨rfl, k1, k2⟩ := h
    exact hZ0 pc S σ H locs hd k1 k2 hP hS
  | _ => exact h.elim
end GB
section GBM
variable {G : gG} {cA : Nat → ClassId} {ad : Nat → Nat} {n : Nat} {tys : List (ClassId × FieldType)}
variable {fl : Nat → Nat → Option (Nat × Nat × Nat)} {cl : Nat → Nat → Option (Nat × gY × Nat)} {cn : Nat → Nat → Option Int32}
theorem g_sl : ∀ (vs : List Value), (∀ v ∈ vs, gOk v = true) → (lg_sl (vs.map (gV ad))).length = vs.length
  | [], _ => rfl
  | v :: vs, h => by
    have h1 := gOk_cat (ad := ad) (gk_h h)
    have h2 := g_sl vs (gk_t h)
    unfold lg_sl at h2 ⊢
    rw [List.map_cons, List.flatMap_cons, if_neg (by omega), List.length_append, h2]
    simp only [List.length_cons, List.length_nil]
    omega
theorem g_args : ∀ (vs : List Value) (i j : Nat) (v : Value), (∀ v ∈ vs, gOk v = true) → vs[j]? = some v → (i + j, gV ad v) ∈ lv_args i (vs.map (gV ad))
  | [], _, _, _, _, h => by simp at h
  | w :: vs, i, j, v, h, hj => by
    have h1 := gOk_cat (ad := ad) (gk_h h)
    show (i + j, gV ad v) ∈ (i, gV ad w) :: lv_args (if (gV ad w).category = 2 then i + 2 else i + 1) (vs.map (gV ad))
    rw [if_neg (by omega)]
    cases j with
    | zero => cases hj; exact List.mem_cons_self
    | succ j =>
      refine List.mem_cons_of_mem _ ?_
      have := g_args vs (i + 1) j v (gk_t h) (by simpa using hj)
      rwa [show i + 1 + j = i + (j + 1) by omega] at this
/-- what the small machine's methods do, the real ones do -/
theorem g_sound (l : Launch) (D : va_G) (hT : gOkT fl cl cn) (hWd : gWorld G n cA tys) (h13 : ∀ i, (G i).1 ≠ 13) : ∀ (d : Nat) (Y : gY) (np : Nat) (as : List Value) (σ : gM) (q : gK) (sz : Nat), gOkM Y np → (∀ v ∈ as, gOk v = true) → gCm fl cl cn G d Y as σ q →
    Met l Y.1 (gWs Y) (gRm d) (va_Pc (as.map (gV ad)) (gB D G cA ad n tys sz σ)) (gQc D G cA ad n q (va_A (gW G cA ad n σ) sz)) 0 0 (va_A (gW G cA ad n σ) sz)
  | 0, _, _, _, _, _, _, _, _, h => h.elim
  | d + 1, Y, np, as, σ, q, sz, hM, hka, h => by
    obtain ⟨hlen, h⟩ := h
    refine Met.ofW (cc := Y.2.1) (maxL := Y.2.2.1) (ret := Y.2.2.2.1) hM.2.1 rfl ?_
    intro p e s m args below meth c s₁ B hml hv
    obtain ⟨rfl, hsz, hP, hK, hD0, hNs⟩ := hv
    have hx := B.exec
    have hb := B.bytes
    have hr := B.returns
    have hts0 := atoms_spec (ws := gWs Y) B.pre
    have hts : ∀ w ∈ gT, w.before _ s = true := fun w hw => hts0 w (List.mem_cons_of_mem _ hw)
    have hown : s.vm.findClass (gRn Y.2.2.2.2) = some m.cls := by
      rw [hM.2.2.2.2.2.1]
      exact findClass_of_methodNamed B.named
    have hlocks := B.notSynchronized
    subst hsz
    have hD := hD0.self (sz := s.heap.size)
    generalize hAe : va_A (gW G cA ad n σ) s.heap.size = A at hD ⊢
    have hA : ∀ q : Nat, s.heap.size ≤ q → A q := fun q h => by rw [← hAe]; exact Or.inr h
    have hS : va_S A s.heap s.heap [] := va_S.rf
    have hl := lv_entry (as.map (gV ad)) (n := Y.2.2.1) (by rw [g_sl as hka]; exact hlen)
    rw [lg_entry_eq]
    generalize (lg_sl (as.map (gV ad)) ++ List.replicate (Y.2.2.1 - (lg_sl (as.map (gV ad))).length) Slot.unset).toArray = ls at hl ⊢
    have hl2 : lv_has ls Y.2.2.1 (gLv ad (as ++ List.replicate (Y.2.2.1 - as.length) (.long 0))) := by
      refine ⟨hl.1, hl.2.1, fun qv hqv => hl.2.2 qv ?_⟩
      obtain ⟨j, w⟩ := qv
      obtain ⟨u, hu, hk, rfl⟩ := gLv_mem hqv
      have hj : j < as.length := by
        rcases Nat.lt_or_ge j as.length with z | z
        · exact z
        · rw [List.getElem?_append_right z] at hu
          have := List.mem_of_getElem? hu
          rw [List.mem_replicate] at this
          rw [this.2] at hk
          cases hk
      rw [List.getElem?_append_left hj] at hu
      have := g_args (ad := ad) as 0 j u hka hu
      rwa [Nat.zero_add] at this
    have key := wp_le (P := gRel p l e (headSpec (gWs Y) (gRm (d + 1))).room s m (as.map (gV ad)).toArray below meth c 0 0 (MQ below (gQc D G cA ad n q A) (as.map (gV ad)).toArray s 0 0 A) A s.heap D G cA ad n Y.2.2.1) (fun pc ls st σ' h => g_step (rm := gRm d) (tys := tys) hx hb hml hown hts hT hWd hNs hK (gW_D hD) hA (fun i h9 => absurd h9 (h13 i)) rfl rfl (Nat.le_refl _) (by show 37 + 37 * d ≤ 37 * (d + 1); omega) ⟨Nat.zero_le _, Nat.zero_le _⟩ (fun Y np as σ q sz => g_sound l D hT hWd h13 d Y np as σ q sz) (fun pc S x σ H locs hd h1 h2 hP hS => ?_) (fun pc S σ H locs hd h1 h2 hP hS => ?_) h) h
    · exact key s.heap [] ls hl2 (by simp; omega) (fun v hv => by cases hv) hP hS
    · have hq : ∀ t : State, t.heap = H → s.WarmedH t.vm → gQc D G cA ad n q A (as.map (gV ad)).toArray s (.returned (some (.int x))) t := fun t ht hW => ⟨⟨_, σ, rfl, Or.inr ⟨x, rfl⟩, h2, by rw [ht]; exact hP⟩, hS.F ht⟩
      unfold g_rt at h1
      split at h1
      · next e => exact W.iret hx hb (hr.trans e) hq hS.2.2 hd
      · next e => exact W.zret hx hb (hr.trans e) (by rcases h1 with rfl | rfl <;> rfl) hq hS.2.2 hd
      · exact h1.elim
    · have hq : ∀ t : State, t.heap = H → s.WarmedH t.vm → gQc D G cA ad n q A (as.map (gV ad)).toArray s (.returned none) t := fun t ht hW => ⟨⟨_, σ, rfl, Or.inl rfl, h2, by rw [ht]; exact hP⟩, hS.F ht⟩
      exact W.vret hx hb (hr.trans h1) hq hS.2.2 hd
end GBM
end
