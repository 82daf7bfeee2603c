theorem dX0_init_0 : decode cX0_init 0 = .ok (.aload_n 0, 1) := by decide +kernel
theorem dX0_init_1 : decode cX0_init 1 = .ok (.invokespecial 3, 3) := by decide +kernel
theorem dX0_init_4 : decode cX0_init 4 = .ok (.aload_n 0, 1) := by decide +kernel
theorem dX0_init_5 : decode cX0_init 5 = .ok (.bipush 30, 2) := by decide +kernel
theorem dX0_init_7 : decode cX0_init 7 = .ok (.newarray .int, 2) := by decide +kernel
theorem dX0_init_9 : decode cX0_init 9 = .ok (.putfield 9, 3) := by decide +kernel
theorem dX0_init_12 : decode cX0_init 12 = .ok (.aload_n 0, 1) := by decide +kernel
theorem dX0_init_13 : decode cX0_init 13 = .ok (.bipush 30, 2) := by decide +kernel
theorem dX0_init_15 : decode cX0_init 15 = .ok (.newarray .int, 2) := by decide +kernel
theorem dX0_init_17 : decode cX0_init 17 = .ok (.putfield 15, 3) := by decide +kernel
theorem dX0_init_20 : decode cX0_init 20 = .ok (.aload_n 0, 1) := by decide +kernel
theorem dX0_init_21 : decode cX0_init 21 = .ok (.bipush 30, 2) := by decide +kernel
theorem dX0_init_23 : decode cX0_init 23 = .ok (.newarray .int, 2) := by decide +kernel
theorem dX0_init_25 : decode cX0_init 25 = .ok (.putfield 18, 3) := by decide +kernel
theorem dX0_init_28 : decode cX0_init 28 = .ok (.aload_n 0, 1) := by decide +kernel
theorem dX0_init_29 : decode cX0_init 29 = .ok (.bipush 30, 2) := by decide +kernel
theorem dX0_init_31 : decode cX0_init 31 = .ok (.newarray .int, 2) := by decide +kernel
theorem dX0_init_33 : decode cX0_init 33 = .ok (.putfield 21, 3) := by decide +kernel
theorem dX0_init_36 : decode cX0_init 36 = .ok (.aload_n 0, 1) := by decide +kernel
theorem dX0_init_37 : decode cX0_init 37 = .ok (.bipush 30, 2) := by decide +kernel
theorem dX0_init_39 : decode cX0_init 39 = .ok (.newarray .int, 2) := by decide +kernel
theorem dX0_init_41 : decode cX0_init 41 = .ok (.putfield 24, 3) := by decide +kernel
theorem dX0_init_44 : decode cX0_init 44 = .ok (.aload_n 0, 1) := by decide +kernel
theorem dX0_init_45 : decode cX0_init 45 = .ok (.bipush 30, 2) := by decide +kernel
theorem dX0_init_47 : decode cX0_init 47 = .ok (.newarray .int, 2) := by decide +kernel
theorem dX0_init_49 : decode cX0_init 49 = .ok (.putfield 27, 3) := by decide +kernel
theorem dX0_init_52 : decode cX0_init 52 = .ok (.aload_n 0, 1) := by decide +kernel
theorem dX0_init_53 : decode cX0_init 53 = .ok (.bipush 30, 2) := by decide +kernel
theorem dX0_init_55 : decode cX0_init 55 = .ok (.newarray .int, 2) := by decide +kernel
theorem dX0_init_57 : decode cX0_init 57 = .ok (.putfield 30, 3) := by decide +kernel
theorem dX0_init_60 : decode cX0_init 60 = .ok (.aload_n 0, 1) := by decide +kernel
theorem dX0_init_61 : decode cX0_init 61 = .ok (.bipush 30, 2) := by decide +kernel
theorem dX0_init_63 : decode cX0_init 63 = .ok (.newarray .int, 2) := by decide +kernel
theorem dX0_init_65 : decode cX0_init 65 = .ok (.putfield 33, 3) := by decide +kernel
theorem dX0_init_68 : decode cX0_init 68 = .ok (.aload_n 0, 1) := by decide +kernel
theorem dX0_init_69 : decode cX0_init 69 = .ok (.bipush 30, 2) := by decide +kernel
theorem dX0_init_71 : decode cX0_init 71 = .ok (.newarray .int, 2) := by decide +kernel
theorem dX0_init_73 : decode cX0_init 73 = .ok (.putfield 36, 3) := by decide +kernel
theorem dX0_init_76 : decode cX0_init 76 = .ok (.return_, 1) := by decide +kernel
theorem dX0_leastUnusedSlot_0 : decode cX0_leastUnusedSlot 0 = .ok (.iconst 0, 1) := by decide +kernel
theorem dX0_leastUnusedSlot_1 : decode cX0_leastUnusedSlot 1 = .ok (.istore_n 1, 1) := by decide +kernel
theorem dX0_leastUnusedSlot_2 : decode cX0_leastUnusedSlot 2 = .ok (.iload_n 1, 1) := by decide +kernel
theorem dX0_leastUnusedSlot_3 : decode cX0_leastUnusedSlot 3 = .ok (.bipush 30, 2) := by decide +kernel
theorem dX0_leastUnusedSlot_5 : decode cX0_leastUnusedSlot 5 = .ok (.if_icmp .ge 20, 3) := by decide +kernel
theorem dX0_leastUnusedSlot_8 : decode cX0_leastUnusedSlot 8 = .ok (.aload_n 0, 1) := by decide +kernel
theorem dX0_leastUnusedSlot_9 : decode cX0_leastUnusedSlot 9 = .ok (.getfield 15, 3) := by decide +kernel
theorem dX0_leastUnusedSlot_12 : decode cX0_leastUnusedSlot 12 = .ok (.iload_n 1, 1) := by decide +kernel
theorem dX0_leastUnusedSlot_13 : decode cX0_leastUnusedSlot 13 = .ok (.iaload, 1) := by decide +kernel
theorem dX0_leastUnusedSlot_14 : decode cX0_leastUnusedSlot 14 = .ok (.ifCond .ne 5, 3) := by decide +kernel
theorem dX0_leastUnusedSlot_17 : decode cX0_leastUnusedSlot 17 = .ok (.iload_n 1, 1) := by decide +kernel
theorem dX0_leastUnusedSlot_18 : decode cX0_leastUnusedSlot 18 = .ok (.ireturn, 1) := by decide +kernel
theorem dX0_leastUnusedSlot_19 : decode cX0_leastUnusedSlot 19 = .ok (.iinc 1 1, 3) := by decide +kernel
theorem dX0_leastUnusedSlot_22 : decode cX0_leastUnusedSlot 22 = .ok (.goto (-20), 3) := by decide +kernel
theorem dX0_leastUnusedSlot_25 : decode cX0_leastUnusedSlot 25 = .ok (.iconst (-1), 1) := by decide +kernel
theorem dX0_leastUnusedSlot_26 : decode cX0_leastUnusedSlot 26 = .ok (.ireturn, 1) := by decide +kernel
theorem dX0_handleOf_0 : decode cX0_handleOf 0 = .ok (.bipush 100, 2) := by decide +kernel
theorem dX0_handleOf_2 : decode cX0_handleOf 2 = .ok (.aload_n 0, 1) := by decide +kernel
theorem dX0_handleOf_3 : decode cX0_handleOf 3 = .ok (.getfield 9, 3) := by decide +kernel
theorem dX0_handleOf_6 : decode cX0_handleOf 6 = .ok (.iload_n 1, 1) := by decide +kernel
theorem dX0_handleOf_7 : decode cX0_handleOf 7 = .ok (.iaload, 1) := by decide +kernel
theorem dX0_handleOf_8 : decode cX0_handleOf 8 = .ok (.imul, 1) := by decide +kernel
theorem dX0_handleOf_9 : decode cX0_handleOf 9 = .ok (.iload_n 1, 1) := by decide +kernel
theorem dX0_handleOf_10 : decode cX0_handleOf 10 = .ok (.iadd, 1) := by decide +kernel
theorem dX0_handleOf_11 : decode cX0_handleOf 11 = .ok (.ireturn, 1) := by decide +kernel
theorem dX0_liveHandleOf_0 : decode cX0_liveHandleOf 0 = .ok (.iload_n 1, 1) := by decide +kernel
theorem dX0_liveHandleOf_1 : decode cX0_liveHandleOf 1 = .ok (.ifCond .lt 19, 3) := by decide +kernel
theorem dX0_liveHandleOf_4 : decode cX0_liveHandleOf 4 = .ok (.iload_n 1, 1) := by decide +kernel
theorem dX0_liveHandleOf_5 : decode cX0_liveHandleOf 5 = .ok (.bipush 30, 2) := by decide +kernel
theorem dX0_liveHandleOf_7 : decode cX0_liveHandleOf 7 = .ok (.if_icmp .ge 13, 3) := by decide +kernel
theorem dX0_liveHandleOf_10 : decode cX0_liveHandleOf 10 = .ok (.aload_n 0, 1) := by decide +kernel
theorem dX0_liveHandleOf_11 : decode cX0_liveHandleOf 11 = .ok (.getfield 15, 3) := by decide +kernel
theorem dX0_liveHandleOf_14 : decode cX0_liveHandleOf 14 = .ok (.iload_n 1, 1) := by decide +kernel
theorem dX0_liveHandleOf_15 : decode cX0_liveHandleOf 15 = .ok (.iaload, 1) := by decide +kernel
theorem dX0_liveHandleOf_16 : decode cX0_liveHandleOf 16 = .ok (.iconst 1, 1) := by decide +kernel
theorem dX0_liveHandleOf_17 : decode cX0_liveHandleOf 17 = .ok (.if_icmp .eq 5, 3) := by decide +kernel
theorem dX0_liveHandleOf_20 : decode cX0_liveHandleOf 20 = .ok (.iconst (-1), 1) := by decide +kernel
theorem dX0_liveHandleOf_21 : decode cX0_liveHandleOf 21 = .ok (.ireturn, 1) := by decide +kernel
theorem dX0_liveHandleOf_22 : decode cX0_liveHandleOf 22 = .ok (.aload_n 0, 1) := by decide +kernel
theorem dX0_liveHandleOf_23 : decode cX0_liveHandleOf 23 = .ok (.iload_n 1, 1) := by decide +kernel
theorem dX0_liveHandleOf_24 : decode cX0_liveHandleOf 24 = .ok (.invokevirtual 39, 3) := by decide +kernel
theorem dX0_liveHandleOf_27 : decode cX0_liveHandleOf 27 = .ok (.ireturn, 1) := by decide +kernel
theorem dX0_slotOf_0 : decode cX0_slotOf 0 = .ok (.iload_n 1, 1) := by decide +kernel
theorem dX0_slotOf_1 : decode cX0_slotOf 1 = .ok (.ifCond .ge 5, 3) := by decide +kernel
theorem dX0_slotOf_4 : decode cX0_slotOf 4 = .ok (.iconst (-1), 1) := by decide +kernel
theorem dX0_slotOf_5 : decode cX0_slotOf 5 = .ok (.ireturn, 1) := by decide +kernel
theorem dX0_slotOf_6 : decode cX0_slotOf 6 = .ok (.iload_n 1, 1) := by decide +kernel
theorem dX0_slotOf_7 : decode cX0_slotOf 7 = .ok (.bipush 100, 2) := by decide +kernel
theorem dX0_slotOf_9 : decode cX0_slotOf 9 = .ok (.irem, 1) := by decide +kernel
theorem dX0_slotOf_10 : decode cX0_slotOf 10 = .ok (.istore_n 2, 1) := by decide +kernel
theorem dX0_slotOf_11 : decode cX0_slotOf 11 = .ok (.iload_n 2, 1) := by decide +kernel
theorem dX0_slotOf_12 : decode cX0_slotOf 12 = .ok (.bipush 30, 2) := by decide +kernel
theorem dX0_slotOf_14 : decode cX0_slotOf 14 = .ok (.if_icmp .ge 12, 3) := by decide +kernel
theorem dX0_slotOf_17 : decode cX0_slotOf 17 = .ok (.aload_n 0, 1) := by decide +kernel
theorem dX0_slotOf_18 : decode cX0_slotOf 18 = .ok (.getfield 15, 3) := by decide +kernel
theorem dX0_slotOf_21 : decode cX0_slotOf 21 = .ok (.iload_n 2, 1) := by decide +kernel
theorem dX0_slotOf_22 : decode cX0_slotOf 22 = .ok (.iaload, 1) := by decide +kernel
theorem dX0_slotOf_23 : decode cX0_slotOf 23 = .ok (.ifCond .ne 5, 3) := by decide +kernel
theorem dX0_slotOf_26 : decode cX0_slotOf 26 = .ok (.iconst (-1), 1) := by decide +kernel
theorem dX0_slotOf_27 : decode cX0_slotOf 27 = .ok (.ireturn, 1) := by decide +kernel
theorem dX0_slotOf_28 : decode cX0_slotOf 28 = .ok (.aload_n 0, 1) := by decide +kernel
theorem dX0_slotOf_29 : decode cX0_slotOf 29 = .ok (.getfield 9, 3) := by decide +kernel
theorem dX0_slotOf_32 : decode cX0_slotOf 32 = .ok (.iload_n 2, 1) := by decide +kernel
theorem dX0_slotOf_33 : decode cX0_slotOf 33 = .ok (.iaload, 1) := by decide +kernel
theorem dX0_slotOf_34 : decode cX0_slotOf 34 = .ok (.iload_n 1, 1) := by decide +kernel
theorem dX0_slotOf_35 : decode cX0_slotOf 35 = .ok (.bipush 100, 2) := by decide +kernel
theorem dX0_slotOf_37 : decode cX0_slotOf 37 = .ok (.idiv, 1) := by decide +kernel
theorem dX0_slotOf_38 : decode cX0_slotOf 38 = .ok (.if_icmp .ne 7, 3) := by decide +kernel
theorem dX0_slotOf_41 : decode cX0_slotOf 41 = .ok (.iload_n 2, 1) := by decide +kernel
theorem dX0_slotOf_42 : decode cX0_slotOf 42 = .ok (.goto 4, 3) := by decide +kernel
theorem dX0_slotOf_45 : decode cX0_slotOf 45 = .ok (.iconst (-1), 1) := by decide +kernel
theorem dX0_slotOf_46 : decode cX0_slotOf 46 = .ok (.ireturn, 1) := by decide +kernel
theorem dX0_liveSlotOf_0 : decode cX0_liveSlotOf 0 = .ok (.aload_n 0, 1) := by decide +kernel
theorem dX0_liveSlotOf_1 : decode cX0_liveSlotOf 1 = .ok (.iload_n 1, 1) := by decide +kernel
theorem dX0_liveSlotOf_2 : decode cX0_liveSlotOf 2 = .ok (.invokevirtual 43, 3) := by decide +kernel
theorem dX0_liveSlotOf_5 : decode cX0_liveSlotOf 5 = .ok (.istore_n 2, 1) := by decide +kernel
theorem dX0_liveSlotOf_6 : decode cX0_liveSlotOf 6 = .ok (.iload_n 2, 1) := by decide +kernel
theorem dX0_liveSlotOf_7 : decode cX0_liveSlotOf 7 = .ok (.iconst (-1), 1) := by decide +kernel
theorem dX0_liveSlotOf_8 : decode cX0_liveSlotOf 8 = .ok (.if_icmp .ne 5, 3) := by decide +kernel
theorem dX0_liveSlotOf_11 : decode cX0_liveSlotOf 11 = .ok (.iconst (-1), 1) := by decide +kernel
theorem dX0_liveSlotOf_12 : decode cX0_liveSlotOf 12 = .ok (.ireturn, 1) := by decide +kernel
theorem dX0_liveSlotOf_13 : decode cX0_liveSlotOf 13 = .ok (.aload_n 0, 1) := by decide +kernel
theorem dX0_liveSlotOf_14 : decode cX0_liveSlotOf 14 = .ok (.getfield 15, 3) := by decide +kernel
theorem dX0_liveSlotOf_17 : decode cX0_liveSlotOf 17 = .ok (.iload_n 2, 1) := by decide +kernel
theorem dX0_liveSlotOf_18 : decode cX0_liveSlotOf 18 = .ok (.iaload, 1) := by decide +kernel
theorem dX0_liveSlotOf_19 : decode cX0_liveSlotOf 19 = .ok (.iconst 1, 1) := by decide +kernel
theorem dX0_liveSlotOf_20 : decode cX0_liveSlotOf 20 = .ok (.if_icmp .ne 7, 3) := by decide +kernel
theorem dX0_liveSlotOf_23 : decode cX0_liveSlotOf 23 = .ok (.iload_n 2, 1) := by decide +kernel
theorem dX0_liveSlotOf_24 : decode cX0_liveSlotOf 24 = .ok (.goto 4, 3) := by decide +kernel
theorem dX0_liveSlotOf_27 : decode cX0_liveSlotOf 27 = .ok (.iconst (-1), 1) := by decide +kernel
theorem dX0_liveSlotOf_28 : decode cX0_liveSlotOf 28 = .ok (.ireturn, 1) := by decide +kernel
theorem dX0_manyOf_0 : decode cX0_manyOf 0 = .ok (.iconst 0, 1) := by decide +kernel
theorem dX0_manyOf_1 : decode cX0_manyOf 1 = .ok (.istore_n 2, 1) := by decide +kernel
theorem dX0_manyOf_2 : decode cX0_manyOf 2 = .ok (.iconst 0, 1) := by decide +kernel
theorem dX0_manyOf_3 : decode cX0_manyOf 3 = .ok (.istore_n 3, 1) := by decide +kernel
theorem dX0_manyOf_4 : decode cX0_manyOf 4 = .ok (.iload_n 3, 1) := by decide +kernel
theorem dX0_manyOf_5 : decode cX0_manyOf 5 = .ok (.bipush 30, 2) := by decide +kernel
theorem dX0_manyOf_7 : decode cX0_manyOf 7 = .ok (.if_icmp .ge 22, 3) := by decide +kernel
theorem dX0_manyOf_10 : decode cX0_manyOf 10 = .ok (.aload_n 0, 1) := by decide +kernel
theorem dX0_manyOf_11 : decode cX0_manyOf 11 = .ok (.getfield 15, 3) := by decide +kernel
theorem dX0_manyOf_14 : decode cX0_manyOf 14 = .ok (.iload_n 3, 1) := by decide +kernel
theorem dX0_manyOf_15 : decode cX0_manyOf 15 = .ok (.iaload, 1) := by decide +kernel
theorem dX0_manyOf_16 : decode cX0_manyOf 16 = .ok (.iload_n 1, 1) := by decide +kernel
theorem dX0_manyOf_17 : decode cX0_manyOf 17 = .ok (.if_icmp .ne 6, 3) := by decide +kernel
theorem dX0_manyOf_20 : decode cX0_manyOf 20 = .ok (.iinc 2 1, 3) := by decide +kernel
theorem dX0_manyOf_23 : decode cX0_manyOf 23 = .ok (.iinc 3 1, 3) := by decide +kernel
theorem dX0_manyOf_26 : decode cX0_manyOf 26 = .ok (.goto (-22), 3) := by decide +kernel
theorem dX0_manyOf_29 : decode cX0_manyOf 29 = .ok (.iload_n 2, 1) := by decide +kernel
theorem dX0_manyOf_30 : decode cX0_manyOf 30 = .ok (.ireturn, 1) := by decide +kernel
theorem dX0_liveOf_0 : decode cX0_liveOf 0 = .ok (.iconst 0, 1) := by decide +kernel
theorem dX0_liveOf_1 : decode cX0_liveOf 1 = .ok (.istore_n 2, 1) := by decide +kernel
theorem dX0_liveOf_2 : decode cX0_liveOf 2 = .ok (.iconst 0, 1) := by decide +kernel
theorem dX0_liveOf_3 : decode cX0_liveOf 3 = .ok (.istore_n 3, 1) := by decide +kernel
theorem dX0_liveOf_4 : decode cX0_liveOf 4 = .ok (.iload_n 3, 1) := by decide +kernel
theorem dX0_liveOf_5 : decode cX0_liveOf 5 = .ok (.bipush 30, 2) := by decide +kernel
theorem dX0_liveOf_7 : decode cX0_liveOf 7 = .ok (.if_icmp .ge 32, 3) := by decide +kernel
theorem dX0_liveOf_10 : decode cX0_liveOf 10 = .ok (.aload_n 0, 1) := by decide +kernel
theorem dX0_liveOf_11 : decode cX0_liveOf 11 = .ok (.getfield 15, 3) := by decide +kernel
theorem dX0_liveOf_14 : decode cX0_liveOf 14 = .ok (.iload_n 3, 1) := by decide +kernel
theorem dX0_liveOf_15 : decode cX0_liveOf 15 = .ok (.iaload, 1) := by decide +kernel
theorem dX0_liveOf_16 : decode cX0_liveOf 16 = .ok (.iconst 1, 1) := by decide +kernel
theorem dX0_liveOf_17 : decode cX0_liveOf 17 = .ok (.if_icmp .ne 16, 3) := by decide +kernel
theorem dX0_liveOf_20 : decode cX0_liveOf 20 = .ok (.aload_n 0, 1) := by decide +kernel
theorem dX0_liveOf_21 : decode cX0_liveOf 21 = .ok (.getfield 27, 3) := by decide +kernel
theorem dX0_liveOf_24 : decode cX0_liveOf 24 = .ok (.iload_n 3, 1) := by decide +kernel
theorem dX0_liveOf_25 : decode cX0_liveOf 25 = .ok (.iaload, 1) := by decide +kernel
theorem dX0_liveOf_26 : decode cX0_liveOf 26 = .ok (.iload_n 1, 1) := by decide +kernel
theorem dX0_liveOf_27 : decode cX0_liveOf 27 = .ok (.if_icmp .ne 6, 3) := by decide +kernel
theorem dX0_liveOf_30 : decode cX0_liveOf 30 = .ok (.iinc 2 1, 3) := by decide +kernel
theorem dX0_liveOf_33 : decode cX0_liveOf 33 = .ok (.iinc 3 1, 3) := by decide +kernel
theorem dX0_liveOf_36 : decode cX0_liveOf 36 = .ok (.goto (-32), 3) := by decide +kernel
theorem dX0_liveOf_39 : decode cX0_liveOf 39 = .ok (.iload_n 2, 1) := by decide +kernel
theorem dX0_liveOf_40 : decode cX0_liveOf 40 = .ok (.ireturn, 1) := by decide +kernel
theorem dX0_usedBy_0 : decode cX0_usedBy 0 = .ok (.iconst 0, 1) := by decide +kernel
theorem dX0_usedBy_1 : decode cX0_usedBy 1 = .ok (.istore_n 2, 1) := by decide +kernel
theorem dX0_usedBy_2 : decode cX0_usedBy 2 = .ok (.iconst 0, 1) := by decide +kernel
theorem dX0_usedBy_3 : decode cX0_usedBy 3 = .ok (.istore_n 3, 1) := by decide +kernel
theorem dX0_usedBy_4 : decode cX0_usedBy 4 = .ok (.iload_n 3, 1) := by decide +kernel
theorem dX0_usedBy_5 : decode cX0_usedBy 5 = .ok (.bipush 30, 2) := by decide +kernel
theorem dX0_usedBy_7 : decode cX0_usedBy 7 = .ok (.if_icmp .ge 37, 3) := by decide +kernel
theorem dX0_usedBy_10 : decode cX0_usedBy 10 = .ok (.aload_n 0, 1) := by decide +kernel
theorem dX0_usedBy_11 : decode cX0_usedBy 11 = .ok (.getfield 15, 3) := by decide +kernel
theorem dX0_usedBy_14 : decode cX0_usedBy 14 = .ok (.iload_n 3, 1) := by decide +kernel
theorem dX0_usedBy_15 : decode cX0_usedBy 15 = .ok (.iaload, 1) := by decide +kernel
theorem dX0_usedBy_16 : decode cX0_usedBy 16 = .ok (.ifCond .eq 22, 3) := by decide +kernel
theorem dX0_usedBy_19 : decode cX0_usedBy 19 = .ok (.aload_n 0, 1) := by decide +kernel
theorem dX0_usedBy_20 : decode cX0_usedBy 20 = .ok (.getfield 27, 3) := by decide +kernel
theorem dX0_usedBy_23 : decode cX0_usedBy 23 = .ok (.iload_n 3, 1) := by decide +kernel
theorem dX0_usedBy_24 : decode cX0_usedBy 24 = .ok (.iaload, 1) := by decide +kernel
theorem dX0_usedBy_25 : decode cX0_usedBy 25 = .ok (.iload_n 1, 1) := by decide +kernel
theorem dX0_usedBy_26 : decode cX0_usedBy 26 = .ok (.if_icmp .ne 12, 3) := by decide +kernel
theorem dX0_usedBy_29 : decode cX0_usedBy 29 = .ok (.iload_n 2, 1) := by decide +kernel
theorem dX0_usedBy_30 : decode cX0_usedBy 30 = .ok (.aload_n 0, 1) := by decide +kernel
theorem dX0_usedBy_31 : decode cX0_usedBy 31 = .ok (.getfield 21, 3) := by decide +kernel
theorem dX0_usedBy_34 : decode cX0_usedBy 34 = .ok (.iload_n 3, 1) := by decide +kernel
theorem dX0_usedBy_35 : decode cX0_usedBy 35 = .ok (.iaload, 1) := by decide +kernel
theorem dX0_usedBy_36 : decode cX0_usedBy 36 = .ok (.iadd, 1) := by decide +kernel
theorem dX0_usedBy_37 : decode cX0_usedBy 37 = .ok (.istore_n 2, 1) := by decide +kernel
theorem dX0_usedBy_38 : decode cX0_usedBy 38 = .ok (.iinc 3 1, 3) := by decide +kernel
theorem dX0_usedBy_41 : decode cX0_usedBy 41 = .ok (.goto (-37), 3) := by decide +kernel
theorem dX0_usedBy_44 : decode cX0_usedBy 44 = .ok (.iload_n 2, 1) := by decide +kernel
theorem dX0_usedBy_45 : decode cX0_usedBy 45 = .ok (.ireturn, 1) := by decide +kernel
theorem dX0_cellsInAll_0 : decode cX0_cellsInAll 0 = .ok (.iconst 0, 1) := by decide +kernel
theorem dX0_cellsInAll_1 : decode cX0_cellsInAll 1 = .ok (.istore_n 1, 1) := by decide +kernel
theorem dX0_cellsInAll_2 : decode cX0_cellsInAll 2 = .ok (.iconst 0, 1) := by decide +kernel
theorem dX0_cellsInAll_3 : decode cX0_cellsInAll 3 = .ok (.istore_n 2, 1) := by decide +kernel
theorem dX0_cellsInAll_4 : decode cX0_cellsInAll 4 = .ok (.iload_n 2, 1) := by decide +kernel
theorem dX0_cellsInAll_5 : decode cX0_cellsInAll 5 = .ok (.bipush 30, 2) := by decide +kernel
theorem dX0_cellsInAll_7 : decode cX0_cellsInAll 7 = .ok (.if_icmp .ge 27, 3) := by decide +kernel
theorem dX0_cellsInAll_10 : decode cX0_cellsInAll 10 = .ok (.aload_n 0, 1) := by decide +kernel
theorem dX0_cellsInAll_11 : decode cX0_cellsInAll 11 = .ok (.getfield 15, 3) := by decide +kernel
theorem dX0_cellsInAll_14 : decode cX0_cellsInAll 14 = .ok (.iload_n 2, 1) := by decide +kernel
theorem dX0_cellsInAll_15 : decode cX0_cellsInAll 15 = .ok (.iaload, 1) := by decide +kernel
theorem dX0_cellsInAll_16 : decode cX0_cellsInAll 16 = .ok (.ifCond .eq 12, 3) := by decide +kernel
theorem dX0_cellsInAll_19 : decode cX0_cellsInAll 19 = .ok (.iload_n 1, 1) := by decide +kernel
theorem dX0_cellsInAll_20 : decode cX0_cellsInAll 20 = .ok (.aload_n 0, 1) := by decide +kernel
theorem dX0_cellsInAll_21 : decode cX0_cellsInAll 21 = .ok (.getfield 21, 3) := by decide +kernel
theorem dX0_cellsInAll_24 : decode cX0_cellsInAll 24 = .ok (.iload_n 2, 1) := by decide +kernel
theorem dX0_cellsInAll_25 : decode cX0_cellsInAll 25 = .ok (.iaload, 1) := by decide +kernel
theorem dX0_cellsInAll_26 : decode cX0_cellsInAll 26 = .ok (.iadd, 1) := by decide +kernel
theorem dX0_cellsInAll_27 : decode cX0_cellsInAll 27 = .ok (.istore_n 1, 1) := by decide +kernel
theorem dX0_cellsInAll_28 : decode cX0_cellsInAll 28 = .ok (.iinc 2 1, 3) := by decide +kernel
theorem dX0_cellsInAll_31 : decode cX0_cellsInAll 31 = .ok (.goto (-27), 3) := by decide +kernel
theorem dX0_cellsInAll_34 : decode cX0_cellsInAll 34 = .ok (.iload_n 1, 1) := by decide +kernel
theorem dX0_cellsInAll_35 : decode cX0_cellsInAll 35 = .ok (.ireturn, 1) := by decide +kernel
theorem dX0_copyFrom_0 : decode cX0_copyFrom 0 = .ok (.aload_n 1, 1) := by decide +kernel
theorem dX0_copyFrom_1 : decode cX0_copyFrom 1 = .ok (.getfield 9, 3) := by decide +kernel
theorem dX0_copyFrom_4 : decode cX0_copyFrom 4 = .ok (.aload_n 0, 1) := by decide +kernel
theorem dX0_copyFrom_5 : decode cX0_copyFrom 5 = .ok (.getfield 9, 3) := by decide +kernel
theorem dX0_copyFrom_8 : decode cX0_copyFrom 8 = .ok (.invokestatic 46, 3) := by decide +kernel
theorem dX0_copyFrom_11 : decode cX0_copyFrom 11 = .ok (.aload_n 1, 1) := by decide +kernel
theorem dX0_copyFrom_12 : decode cX0_copyFrom 12 = .ok (.getfield 15, 3) := by decide +kernel
theorem dX0_copyFrom_15 : decode cX0_copyFrom 15 = .ok (.aload_n 0, 1) := by decide +kernel
theorem dX0_copyFrom_16 : decode cX0_copyFrom 16 = .ok (.getfield 15, 3) := by decide +kernel
theorem dX0_copyFrom_19 : decode cX0_copyFrom 19 = .ok (.invokestatic 46, 3) := by decide +kernel
theorem dX0_copyFrom_22 : decode cX0_copyFrom 22 = .ok (.aload_n 1, 1) := by decide +kernel
theorem dX0_copyFrom_23 : decode cX0_copyFrom 23 = .ok (.getfield 18, 3) := by decide +kernel
theorem dX0_copyFrom_26 : decode cX0_copyFrom 26 = .ok (.aload_n 0, 1) := by decide +kernel
theorem dX0_copyFrom_27 : decode cX0_copyFrom 27 = .ok (.getfield 18, 3) := by decide +kernel
theorem dX0_copyFrom_30 : decode cX0_copyFrom 30 = .ok (.invokestatic 46, 3) := by decide +kernel
theorem dX0_copyFrom_33 : decode cX0_copyFrom 33 = .ok (.aload_n 1, 1) := by decide +kernel
theorem dX0_copyFrom_34 : decode cX0_copyFrom 34 = .ok (.getfield 21, 3) := by decide +kernel
theorem dX0_copyFrom_37 : decode cX0_copyFrom 37 = .ok (.aload_n 0, 1) := by decide +kernel
theorem dX0_copyFrom_38 : decode cX0_copyFrom 38 = .ok (.getfield 21, 3) := by decide +kernel
theorem dX0_copyFrom_41 : decode cX0_copyFrom 41 = .ok (.invokestatic 46, 3) := by decide +kernel
theorem dX0_copyFrom_44 : decode cX0_copyFrom 44 = .ok (.aload_n 1, 1) := by decide +kernel
theorem dX0_copyFrom_45 : decode cX0_copyFrom 45 = .ok (.getfield 24, 3) := by decide +kernel
theorem dX0_copyFrom_48 : decode cX0_copyFrom 48 = .ok (.aload_n 0, 1) := by decide +kernel
theorem dX0_copyFrom_49 : decode cX0_copyFrom 49 = .ok (.getfield 24, 3) := by decide +kernel
theorem dX0_copyFrom_52 : decode cX0_copyFrom 52 = .ok (.invokestatic 46, 3) := by decide +kernel
theorem dX0_copyFrom_55 : decode cX0_copyFrom 55 = .ok (.aload_n 1, 1) := by decide +kernel
theorem dX0_copyFrom_56 : decode cX0_copyFrom 56 = .ok (.getfield 27, 3) := by decide +kernel
theorem dX0_copyFrom_59 : decode cX0_copyFrom 59 = .ok (.aload_n 0, 1) := by decide +kernel
theorem dX0_copyFrom_60 : decode cX0_copyFrom 60 = .ok (.getfield 27, 3) := by decide +kernel
theorem dX0_copyFrom_63 : decode cX0_copyFrom 63 = .ok (.invokestatic 46, 3) := by decide +kernel
theorem dX0_copyFrom_66 : decode cX0_copyFrom 66 = .ok (.aload_n 1, 1) := by decide +kernel
theorem dX0_copyFrom_67 : decode cX0_copyFrom 67 = .ok (.getfield 30, 3) := by decide +kernel
theorem dX0_copyFrom_70 : decode cX0_copyFrom 70 = .ok (.aload_n 0, 1) := by decide +kernel
theorem dX0_copyFrom_71 : decode cX0_copyFrom 71 = .ok (.getfield 30, 3) := by decide +kernel
theorem dX0_copyFrom_74 : decode cX0_copyFrom 74 = .ok (.invokestatic 46, 3) := by decide +kernel
theorem dX0_copyFrom_77 : decode cX0_copyFrom 77 = .ok (.aload_n 1, 1) := by decide +kernel
theorem dX0_copyFrom_78 : decode cX0_copyFrom 78 = .ok (.getfield 33, 3) := by decide +kernel
theorem dX0_copyFrom_81 : decode cX0_copyFrom 81 = .ok (.aload_n 0, 1) := by decide +kernel
theorem dX0_copyFrom_82 : decode cX0_copyFrom 82 = .ok (.getfield 33, 3) := by decide +kernel
theorem dX0_copyFrom_85 : decode cX0_copyFrom 85 = .ok (.invokestatic 46, 3) := by decide +kernel
theorem dX0_copyFrom_88 : decode cX0_copyFrom 88 = .ok (.aload_n 1, 1) := by decide +kernel
theorem dX0_copyFrom_89 : decode cX0_copyFrom 89 = .ok (.getfield 36, 3) := by decide +kernel
theorem dX0_copyFrom_92 : decode cX0_copyFrom 92 = .ok (.aload_n 0, 1) := by decide +kernel
theorem dX0_copyFrom_93 : decode cX0_copyFrom 93 = .ok (.getfield 36, 3) := by decide +kernel
theorem dX0_copyFrom_96 : decode cX0_copyFrom 96 = .ok (.invokestatic 46, 3) := by decide +kernel
theorem dX0_copyFrom_99 : decode cX0_copyFrom 99 = .ok (.return_, 1) := by decide +kernel
theorem dX1_init_0 : decode cX1_init 0 = .ok (.aload_n 0, 1) := by decide +kernel
theorem dX1_init_1 : decode cX1_init 1 = .ok (.invokespecial 3, 3) := by decide +kernel
theorem dX1_init_4 : decode cX1_init 4 = .ok (.aload_n 0, 1) := by decide +kernel
theorem dX1_init_5 : decode cX1_init 5 = .ok (.sipush 240, 3) := by decide +kernel
theorem dX1_init_8 : decode cX1_init 8 = .ok (.newarray .int, 2) := by decide +kernel
theorem dX1_init_10 : decode cX1_init 10 = .ok (.putfield 9, 3) := by decide +kernel
theorem dX1_init_13 : decode cX1_init 13 = .ok (.aload_n 0, 1) := by decide +kernel
theorem dX1_init_14 : decode cX1_init 14 = .ok (.iconst 0, 1) := by decide +kernel
theorem dX1_init_15 : decode cX1_init 15 = .ok (.sipush 240, 3) := by decide +kernel
theorem dX1_init_18 : decode cX1_init 18 = .ok (.invokevirtual 15, 3) := by decide +kernel
theorem dX1_init_21 : decode cX1_init 21 = .ok (.return_, 1) := by decide +kernel
theorem dX1_take_0 : decode cX1_take 0 = .ok (.aload_n 0, 1) := by decide +kernel
theorem dX1_take_1 : decode cX1_take 1 = .ok (.getfield 9, 3) := by decide +kernel
theorem dX1_take_4 : decode cX1_take 4 = .ok (.iload_n 1, 1) := by decide +kernel
theorem dX1_take_5 : decode cX1_take 5 = .ok (.iload_n 2, 1) := by decide +kernel
theorem dX1_take_6 : decode cX1_take 6 = .ok (.iload_n 3, 1) := by decide +kernel
theorem dX1_take_7 : decode cX1_take 7 = .ok (.invokestatic 19, 3) := by decide +kernel
theorem dX1_take_10 : decode cX1_take 10 = .ok (.return_, 1) := by decide +kernel
theorem dX1_release_0 : decode cX1_release 0 = .ok (.aload_n 0, 1) := by decide +kernel
theorem dX1_release_1 : decode cX1_release 1 = .ok (.getfield 9, 3) := by decide +kernel
theorem dX1_release_4 : decode cX1_release 4 = .ok (.iload_n 1, 1) := by decide +kernel
theorem dX1_release_5 : decode cX1_release 5 = .ok (.iload_n 2, 1) := by decide +kernel
theorem dX1_release_6 : decode cX1_release 6 = .ok (.iconst (-1), 1) := by decide +kernel
theorem dX1_release_7 : decode cX1_release 7 = .ok (.invokestatic 19, 3) := by decide +kernel
theorem dX1_release_10 : decode cX1_release 10 = .ok (.return_, 1) := by decide +kernel
theorem dX1_isFree_0 : decode cX1_isFree 0 = .ok (.iload_n 1, 1) := by decide +kernel
theorem dX1_isFree_1 : decode cX1_isFree 1 = .ok (.istore_n 3, 1) := by decide +kernel
theorem dX1_isFree_2 : decode cX1_isFree 2 = .ok (.iload_n 3, 1) := by decide +kernel
theorem dX1_isFree_3 : decode cX1_isFree 3 = .ok (.iload_n 1, 1) := by decide +kernel
theorem dX1_isFree_4 : decode cX1_isFree 4 = .ok (.iload_n 2, 1) := by decide +kernel
theorem dX1_isFree_5 : decode cX1_isFree 5 = .ok (.iadd, 1) := by decide +kernel
theorem dX1_isFree_6 : decode cX1_isFree 6 = .ok (.if_icmp .ge 21, 3) := by decide +kernel
theorem dX1_isFree_9 : decode cX1_isFree 9 = .ok (.aload_n 0, 1) := by decide +kernel
theorem dX1_isFree_10 : decode cX1_isFree 10 = .ok (.getfield 9, 3) := by decide +kernel
theorem dX1_isFree_13 : decode cX1_isFree 13 = .ok (.iload_n 3, 1) := by decide +kernel
theorem dX1_isFree_14 : decode cX1_isFree 14 = .ok (.iaload, 1) := by decide +kernel
theorem dX1_isFree_15 : decode cX1_isFree 15 = .ok (.iconst (-1), 1) := by decide +kernel
theorem dX1_isFree_16 : decode cX1_isFree 16 = .ok (.if_icmp .eq 5, 3) := by decide +kernel
theorem dX1_isFree_19 : decode cX1_isFree 19 = .ok (.iconst 0, 1) := by decide +kernel
theorem dX1_isFree_20 : decode cX1_isFree 20 = .ok (.ireturn, 1) := by decide +kernel
theorem dX1_isFree_21 : decode cX1_isFree 21 = .ok (.iinc 3 1, 3) := by decide +kernel
theorem dX1_isFree_24 : decode cX1_isFree 24 = .ok (.goto (-22), 3) := by decide +kernel
theorem dX1_isFree_27 : decode cX1_isFree 27 = .ok (.iconst 1, 1) := by decide +kernel
theorem dX1_isFree_28 : decode cX1_isFree 28 = .ok (.ireturn, 1) := by decide +kernel
theorem dX1_placeIn_0 : decode cX1_placeIn 0 = .ok (.aload_n 1, 1) := by decide +kernel
theorem dX1_placeIn_1 : decode cX1_placeIn 1 = .ok (.getfield 23, 3) := by decide +kernel
theorem dX1_placeIn_4 : decode cX1_placeIn 4 = .ok (.iload_n 2, 1) := by decide +kernel
theorem dX1_placeIn_5 : decode cX1_placeIn 5 = .ok (.iaload, 1) := by decide +kernel
theorem dX1_placeIn_6 : decode cX1_placeIn 6 = .ok (.istore 4, 2) := by decide +kernel
theorem dX1_placeIn_8 : decode cX1_placeIn 8 = .ok (.aload_n 1, 1) := by decide +kernel
theorem dX1_placeIn_9 : decode cX1_placeIn 9 = .ok (.iload_n 2, 1) := by decide +kernel
theorem dX1_placeIn_10 : decode cX1_placeIn 10 = .ok (.invokevirtual 28, 3) := by decide +kernel
theorem dX1_placeIn_13 : decode cX1_placeIn 13 = .ok (.istore 5, 2) := by decide +kernel
theorem dX1_placeIn_15 : decode cX1_placeIn 15 = .ok (.aload_n 1, 1) := by decide +kernel
theorem dX1_placeIn_16 : decode cX1_placeIn 16 = .ok (.getfield 32, 3) := by decide +kernel
theorem dX1_placeIn_19 : decode cX1_placeIn 19 = .ok (.iload_n 2, 1) := by decide +kernel
theorem dX1_placeIn_20 : decode cX1_placeIn 20 = .ok (.iaload, 1) := by decide +kernel
theorem dX1_placeIn_21 : decode cX1_placeIn 21 = .ok (.ifCond .ne 13, 3) := by decide +kernel
theorem dX1_placeIn_24 : decode cX1_placeIn 24 = .ok (.aload_n 0, 1) := by decide +kernel
theorem dX1_placeIn_25 : decode cX1_placeIn 25 = .ok (.iload 4, 2) := by decide +kernel
theorem dX1_placeIn_27 : decode cX1_placeIn 27 = .ok (.iload 5, 2) := by decide +kernel
theorem dX1_placeIn_29 : decode cX1_placeIn 29 = .ok (.iload_n 3, 1) := by decide +kernel
theorem dX1_placeIn_30 : decode cX1_placeIn 30 = .ok (.invokevirtual 35, 3) := by decide +kernel
theorem dX1_placeIn_33 : decode cX1_placeIn 33 = .ok (.ireturn, 1) := by decide +kernel
theorem dX1_placeIn_34 : decode cX1_placeIn 34 = .ok (.aload_n 0, 1) := by decide +kernel
theorem dX1_placeIn_35 : decode cX1_placeIn 35 = .ok (.iload 4, 2) := by decide +kernel
theorem dX1_placeIn_37 : decode cX1_placeIn 37 = .ok (.iload 5, 2) := by decide +kernel
theorem dX1_placeIn_39 : decode cX1_placeIn 39 = .ok (.iload_n 3, 1) := by decide +kernel
theorem dX1_placeIn_40 : decode cX1_placeIn 40 = .ok (.invokevirtual 39, 3) := by decide +kernel
theorem dX1_placeIn_43 : decode cX1_placeIn 43 = .ok (.ireturn, 1) := by decide +kernel
theorem dX1_placeFromBelow_0 : decode cX1_placeFromBelow 0 = .ok (.iconst 0, 1) := by decide +kernel
theorem dX1_placeFromBelow_1 : decode cX1_placeFromBelow 1 = .ok (.istore 4, 2) := by decide +kernel
theorem dX1_placeFromBelow_3 : decode cX1_placeFromBelow 3 = .ok (.iload_n 1, 1) := by decide +kernel
theorem dX1_placeFromBelow_4 : decode cX1_placeFromBelow 4 = .ok (.istore 5, 2) := by decide +kernel
theorem dX1_placeFromBelow_6 : decode cX1_placeFromBelow 6 = .ok (.iload 5, 2) := by decide +kernel
theorem dX1_placeFromBelow_8 : decode cX1_placeFromBelow 8 = .ok (.iload_n 2, 1) := by decide +kernel
theorem dX1_placeFromBelow_9 : decode cX1_placeFromBelow 9 = .ok (.if_icmp .ge 43, 3) := by decide +kernel
theorem dX1_placeFromBelow_12 : decode cX1_placeFromBelow 12 = .ok (.aload_n 0, 1) := by decide +kernel
theorem dX1_placeFromBelow_13 : decode cX1_placeFromBelow 13 = .ok (.getfield 9, 3) := by decide +kernel
theorem dX1_placeFromBelow_16 : decode cX1_placeFromBelow 16 = .ok (.iload 5, 2) := by decide +kernel
theorem dX1_placeFromBelow_18 : decode cX1_placeFromBelow 18 = .ok (.iaload, 1) := by decide +kernel
theorem dX1_placeFromBelow_19 : decode cX1_placeFromBelow 19 = .ok (.iconst (-1), 1) := by decide +kernel
theorem dX1_placeFromBelow_20 : decode cX1_placeFromBelow 20 = .ok (.if_icmp .ne 10, 3) := by decide +kernel
theorem dX1_placeFromBelow_23 : decode cX1_placeFromBelow 23 = .ok (.iload 4, 2) := by decide +kernel
theorem dX1_placeFromBelow_25 : decode cX1_placeFromBelow 25 = .ok (.iconst 1, 1) := by decide +kernel
theorem dX1_placeFromBelow_26 : decode cX1_placeFromBelow 26 = .ok (.iadd, 1) := by decide +kernel
theorem dX1_placeFromBelow_27 : decode cX1_placeFromBelow 27 = .ok (.goto 4, 3) := by decide +kernel
theorem dX1_placeFromBelow_30 : decode cX1_placeFromBelow 30 = .ok (.iconst 0, 1) := by decide +kernel
theorem dX1_placeFromBelow_31 : decode cX1_placeFromBelow 31 = .ok (.istore 4, 2) := by decide +kernel
theorem dX1_placeFromBelow_33 : decode cX1_placeFromBelow 33 = .ok (.iload 4, 2) := by decide +kernel
theorem dX1_placeFromBelow_35 : decode cX1_placeFromBelow 35 = .ok (.iload_n 3, 1) := by decide +kernel
theorem dX1_placeFromBelow_36 : decode cX1_placeFromBelow 36 = .ok (.if_icmp .ne 10, 3) := by decide +kernel
theorem dX1_placeFromBelow_39 : decode cX1_placeFromBelow 39 = .ok (.iload 5, 2) := by decide +kernel
theorem dX1_placeFromBelow_41 : decode cX1_placeFromBelow 41 = .ok (.iload_n 3, 1) := by decide +kernel
theorem dX1_placeFromBelow_42 : decode cX1_placeFromBelow 42 = .ok (.isub, 1) := by decide +kernel
theorem dX1_placeFromBelow_43 : decode cX1_placeFromBelow 43 = .ok (.iconst 1, 1) := by decide +kernel
theorem dX1_placeFromBelow_44 : decode cX1_placeFromBelow 44 = .ok (.iadd, 1) := by decide +kernel
theorem dX1_placeFromBelow_45 : decode cX1_placeFromBelow 45 = .ok (.ireturn, 1) := by decide +kernel
theorem dX1_placeFromBelow_46 : decode cX1_placeFromBelow 46 = .ok (.iinc 5 1, 3) := by decide +kernel
theorem dX1_placeFromBelow_49 : decode cX1_placeFromBelow 49 = .ok (.goto (-43), 3) := by decide +kernel
theorem dX1_placeFromBelow_52 : decode cX1_placeFromBelow 52 = .ok (.iconst (-1), 1) := by decide +kernel
theorem dX1_placeFromBelow_53 : decode cX1_placeFromBelow 53 = .ok (.ireturn, 1) := by decide +kernel
theorem dX1_placeFromAbove_0 : decode cX1_placeFromAbove 0 = .ok (.iconst 0, 1) := by decide +kernel
theorem dX1_placeFromAbove_1 : decode cX1_placeFromAbove 1 = .ok (.istore 4, 2) := by decide +kernel
theorem dX1_placeFromAbove_3 : decode cX1_placeFromAbove 3 = .ok (.iload_n 2, 1) := by decide +kernel
theorem dX1_placeFromAbove_4 : decode cX1_placeFromAbove 4 = .ok (.iconst 1, 1) := by decide +kernel
theorem dX1_placeFromAbove_5 : decode cX1_placeFromAbove 5 = .ok (.isub, 1) := by decide +kernel
theorem dX1_placeFromAbove_6 : decode cX1_placeFromAbove 6 = .ok (.istore 5, 2) := by decide +kernel
theorem dX1_placeFromAbove_8 : decode cX1_placeFromAbove 8 = .ok (.iload 5, 2) := by decide +kernel
theorem dX1_placeFromAbove_10 : decode cX1_placeFromAbove 10 = .ok (.iload_n 1, 1) := by decide +kernel
theorem dX1_placeFromAbove_11 : decode cX1_placeFromAbove 11 = .ok (.if_icmp .lt 39, 3) := by decide +kernel
theorem dX1_placeFromAbove_14 : decode cX1_placeFromAbove 14 = .ok (.aload_n 0, 1) := by decide +kernel
theorem dX1_placeFromAbove_15 : decode cX1_placeFromAbove 15 = .ok (.getfield 9, 3) := by decide +kernel
theorem dX1_placeFromAbove_18 : decode cX1_placeFromAbove 18 = .ok (.iload 5, 2) := by decide +kernel
theorem dX1_placeFromAbove_20 : decode cX1_placeFromAbove 20 = .ok (.iaload, 1) := by decide +kernel
theorem dX1_placeFromAbove_21 : decode cX1_placeFromAbove 21 = .ok (.iconst (-1), 1) := by decide +kernel
theorem dX1_placeFromAbove_22 : decode cX1_placeFromAbove 22 = .ok (.if_icmp .ne 10, 3) := by decide +kernel
theorem dX1_placeFromAbove_25 : decode cX1_placeFromAbove 25 = .ok (.iload 4, 2) := by decide +kernel
theorem dX1_placeFromAbove_27 : decode cX1_placeFromAbove 27 = .ok (.iconst 1, 1) := by decide +kernel
theorem dX1_placeFromAbove_28 : decode cX1_placeFromAbove 28 = .ok (.iadd, 1) := by decide +kernel
theorem dX1_placeFromAbove_29 : decode cX1_placeFromAbove 29 = .ok (.goto 4, 3) := by decide +kernel
theorem dX1_placeFromAbove_32 : decode cX1_placeFromAbove 32 = .ok (.iconst 0, 1) := by decide +kernel
theorem dX1_placeFromAbove_33 : decode cX1_placeFromAbove 33 = .ok (.istore 4, 2) := by decide +kernel
theorem dX1_placeFromAbove_35 : decode cX1_placeFromAbove 35 = .ok (.iload 4, 2) := by decide +kernel
theorem dX1_placeFromAbove_37 : decode cX1_placeFromAbove 37 = .ok (.iload_n 3, 1) := by decide +kernel
theorem dX1_placeFromAbove_38 : decode cX1_placeFromAbove 38 = .ok (.if_icmp .ne 6, 3) := by decide +kernel
theorem dX1_placeFromAbove_41 : decode cX1_placeFromAbove 41 = .ok (.iload 5, 2) := by decide +kernel
theorem dX1_placeFromAbove_43 : decode cX1_placeFromAbove 43 = .ok (.ireturn, 1) := by decide +kernel
theorem dX1_placeFromAbove_44 : decode cX1_placeFromAbove 44 = .ok (.iinc 5 (-1), 3) := by decide +kernel
theorem dX1_placeFromAbove_47 : decode cX1_placeFromAbove 47 = .ok (.goto (-39), 3) := by decide +kernel
theorem dX1_placeFromAbove_50 : decode cX1_placeFromAbove 50 = .ok (.iconst (-1), 1) := by decide +kernel
theorem dX1_placeFromAbove_51 : decode cX1_placeFromAbove 51 = .ok (.ireturn, 1) := by decide +kernel
theorem dX1_freeCells_0 : decode cX1_freeCells 0 = .ok (.iconst 0, 1) := by decide +kernel
theorem dX1_freeCells_1 : decode cX1_freeCells 1 = .ok (.istore_n 3, 1) := by decide +kernel
theorem dX1_freeCells_2 : decode cX1_freeCells 2 = .ok (.iload_n 1, 1) := by decide +kernel
theorem dX1_freeCells_3 : decode cX1_freeCells 3 = .ok (.istore 4, 2) := by decide +kernel
theorem dX1_freeCells_5 : decode cX1_freeCells 5 = .ok (.iload 4, 2) := by decide +kernel
theorem dX1_freeCells_7 : decode cX1_freeCells 7 = .ok (.iload_n 2, 1) := by decide +kernel
theorem dX1_freeCells_8 : decode cX1_freeCells 8 = .ok (.if_icmp .ge 23, 3) := by decide +kernel
theorem dX1_freeCells_11 : decode cX1_freeCells 11 = .ok (.aload_n 0, 1) := by decide +kernel
theorem dX1_freeCells_12 : decode cX1_freeCells 12 = .ok (.getfield 9, 3) := by decide +kernel
theorem dX1_freeCells_15 : decode cX1_freeCells 15 = .ok (.iload 4, 2) := by decide +kernel
theorem dX1_freeCells_17 : decode cX1_freeCells 17 = .ok (.iaload, 1) := by decide +kernel
theorem dX1_freeCells_18 : decode cX1_freeCells 18 = .ok (.iconst (-1), 1) := by decide +kernel
theorem dX1_freeCells_19 : decode cX1_freeCells 19 = .ok (.if_icmp .ne 6, 3) := by decide +kernel
theorem dX1_freeCells_22 : decode cX1_freeCells 22 = .ok (.iinc 3 1, 3) := by decide +kernel
theorem dX1_freeCells_25 : decode cX1_freeCells 25 = .ok (.iinc 4 1, 3) := by decide +kernel
theorem dX1_freeCells_28 : decode cX1_freeCells 28 = .ok (.goto (-23), 3) := by decide +kernel
theorem dX1_freeCells_31 : decode cX1_freeCells 31 = .ok (.iload_n 3, 1) := by decide +kernel
theorem dX1_freeCells_32 : decode cX1_freeCells 32 = .ok (.ireturn, 1) := by decide +kernel
theorem dX1_longestFreeRow_0 : decode cX1_longestFreeRow 0 = .ok (.iconst 0, 1) := by decide +kernel
theorem dX1_longestFreeRow_1 : decode cX1_longestFreeRow 1 = .ok (.istore_n 3, 1) := by decide +kernel
theorem dX1_longestFreeRow_2 : decode cX1_longestFreeRow 2 = .ok (.iconst 0, 1) := by decide +kernel
theorem dX1_longestFreeRow_3 : decode cX1_longestFreeRow 3 = .ok (.istore 4, 2) := by decide +kernel
theorem dX1_longestFreeRow_5 : decode cX1_longestFreeRow 5 = .ok (.iload_n 1, 1) := by decide +kernel
theorem dX1_longestFreeRow_6 : decode cX1_longestFreeRow 6 = .ok (.istore 5, 2) := by decide +kernel
theorem dX1_longestFreeRow_8 : decode cX1_longestFreeRow 8 = .ok (.iload 5, 2) := by decide +kernel
theorem dX1_longestFreeRow_10 : decode cX1_longestFreeRow 10 = .ok (.iload_n 2, 1) := by decide +kernel
theorem dX1_longestFreeRow_11 : decode cX1_longestFreeRow 11 = .ok (.if_icmp .ge 37, 3) := by decide +kernel
theorem dX1_longestFreeRow_14 : decode cX1_longestFreeRow 14 = .ok (.aload_n 0, 1) := by decide +kernel
theorem dX1_longestFreeRow_15 : decode cX1_longestFreeRow 15 = .ok (.getfield 9, 3) := by decide +kernel
theorem dX1_longestFreeRow_18 : decode cX1_longestFreeRow 18 = .ok (.iload 5, 2) := by decide +kernel
theorem dX1_longestFreeRow_20 : decode cX1_longestFreeRow 20 = .ok (.iaload, 1) := by decide +kernel
theorem dX1_longestFreeRow_21 : decode cX1_longestFreeRow 21 = .ok (.iconst (-1), 1) := by decide +kernel
theorem dX1_longestFreeRow_22 : decode cX1_longestFreeRow 22 = .ok (.if_icmp .ne 10, 3) := by decide +kernel
theorem dX1_longestFreeRow_25 : decode cX1_longestFreeRow 25 = .ok (.iload 4, 2) := by decide +kernel
theorem dX1_longestFreeRow_27 : decode cX1_longestFreeRow 27 = .ok (.iconst 1, 1) := by decide +kernel
theorem dX1_longestFreeRow_28 : decode cX1_longestFreeRow 28 = .ok (.iadd, 1) := by decide +kernel
theorem dX1_longestFreeRow_29 : decode cX1_longestFreeRow 29 = .ok (.goto 4, 3) := by decide +kernel
theorem dX1_longestFreeRow_32 : decode cX1_longestFreeRow 32 = .ok (.iconst 0, 1) := by decide +kernel
theorem dX1_longestFreeRow_33 : decode cX1_longestFreeRow 33 = .ok (.istore 4, 2) := by decide +kernel
theorem dX1_longestFreeRow_35 : decode cX1_longestFreeRow 35 = .ok (.iload_n 3, 1) := by decide +kernel
theorem dX1_longestFreeRow_36 : decode cX1_longestFreeRow 36 = .ok (.iload 4, 2) := by decide +kernel
theorem dX1_longestFreeRow_38 : decode cX1_longestFreeRow 38 = .ok (.invokestatic 42, 3) := by decide +kernel
theorem dX1_longestFreeRow_41 : decode cX1_longestFreeRow 41 = .ok (.istore_n 3, 1) := by decide +kernel
theorem dX1_longestFreeRow_42 : decode cX1_longestFreeRow 42 = .ok (.iinc 5 1, 3) := by decide +kernel
theorem dX1_longestFreeRow_45 : decode cX1_longestFreeRow 45 = .ok (.goto (-37), 3) := by decide +kernel
theorem dX1_longestFreeRow_48 : decode cX1_longestFreeRow 48 = .ok (.iload_n 3, 1) := by decide +kernel
theorem dX1_longestFreeRow_49 : decode cX1_longestFreeRow 49 = .ok (.ireturn, 1) := by decide +kernel
theorem dX1_freeRows_0 : decode cX1_freeRows 0 = .ok (.iconst 0, 1) := by decide +kernel
theorem dX1_freeRows_1 : decode cX1_freeRows 1 = .ok (.istore_n 3, 1) := by decide +kernel
theorem dX1_freeRows_2 : decode cX1_freeRows 2 = .ok (.iconst 0, 1) := by decide +kernel
theorem dX1_freeRows_3 : decode cX1_freeRows 3 = .ok (.istore 4, 2) := by decide +kernel
theorem dX1_freeRows_5 : decode cX1_freeRows 5 = .ok (.iload_n 1, 1) := by decide +kernel
theorem dX1_freeRows_6 : decode cX1_freeRows 6 = .ok (.istore 5, 2) := by decide +kernel
theorem dX1_freeRows_8 : decode cX1_freeRows 8 = .ok (.iload 5, 2) := by decide +kernel
theorem dX1_freeRows_10 : decode cX1_freeRows 10 = .ok (.iload_n 2, 1) := by decide +kernel
theorem dX1_freeRows_11 : decode cX1_freeRows 11 = .ok (.if_icmp .ge 44, 3) := by decide +kernel
theorem dX1_freeRows_14 : decode cX1_freeRows 14 = .ok (.aload_n 0, 1) := by decide +kernel
theorem dX1_freeRows_15 : decode cX1_freeRows 15 = .ok (.getfield 9, 3) := by decide +kernel
theorem dX1_freeRows_18 : decode cX1_freeRows 18 = .ok (.iload 5, 2) := by decide +kernel
theorem dX1_freeRows_20 : decode cX1_freeRows 20 = .ok (.iaload, 1) := by decide +kernel
theorem dX1_freeRows_21 : decode cX1_freeRows 21 = .ok (.iconst (-1), 1) := by decide +kernel
theorem dX1_freeRows_22 : decode cX1_freeRows 22 = .ok (.if_icmp .ne 7, 3) := by decide +kernel
theorem dX1_freeRows_25 : decode cX1_freeRows 25 = .ok (.iconst 1, 1) := by decide +kernel
theorem dX1_freeRows_26 : decode cX1_freeRows 26 = .ok (.goto 4, 3) := by decide +kernel
theorem dX1_freeRows_29 : decode cX1_freeRows 29 = .ok (.iconst 0, 1) := by decide +kernel
theorem dX1_freeRows_30 : decode cX1_freeRows 30 = .ok (.istore 6, 2) := by decide +kernel
theorem dX1_freeRows_32 : decode cX1_freeRows 32 = .ok (.iload 6, 2) := by decide +kernel
theorem dX1_freeRows_34 : decode cX1_freeRows 34 = .ok (.ifCond .eq 11, 3) := by decide +kernel
theorem dX1_freeRows_37 : decode cX1_freeRows 37 = .ok (.iload 4, 2) := by decide +kernel
theorem dX1_freeRows_39 : decode cX1_freeRows 39 = .ok (.ifCond .ne 6, 3) := by decide +kernel
theorem dX1_freeRows_42 : decode cX1_freeRows 42 = .ok (.iinc 3 1, 3) := by decide +kernel
theorem dX1_freeRows_45 : decode cX1_freeRows 45 = .ok (.iload 6, 2) := by decide +kernel
theorem dX1_freeRows_47 : decode cX1_freeRows 47 = .ok (.istore 4, 2) := by decide +kernel
theorem dX1_freeRows_49 : decode cX1_freeRows 49 = .ok (.iinc 5 1, 3) := by decide +kernel
theorem dX1_freeRows_52 : decode cX1_freeRows 52 = .ok (.goto (-44), 3) := by decide +kernel
theorem dX1_freeRows_55 : decode cX1_freeRows 55 = .ok (.iload_n 3, 1) := by decide +kernel
theorem dX1_freeRows_56 : decode cX1_freeRows 56 = .ok (.ireturn, 1) := by decide +kernel
theorem dX1_copyFrom_0 : decode cX1_copyFrom 0 = .ok (.aload_n 1, 1) := by decide +kernel
theorem dX1_copyFrom_1 : decode cX1_copyFrom 1 = .ok (.getfield 9, 3) := by decide +kernel
theorem dX1_copyFrom_4 : decode cX1_copyFrom 4 = .ok (.aload_n 0, 1) := by decide +kernel
theorem dX1_copyFrom_5 : decode cX1_copyFrom 5 = .ok (.getfield 9, 3) := by decide +kernel
theorem dX1_copyFrom_8 : decode cX1_copyFrom 8 = .ok (.invokestatic 48, 3) := by decide +kernel
theorem dX1_copyFrom_11 : decode cX1_copyFrom 11 = .ok (.return_, 1) := by decide +kernel
theorem dX2_init_0 : decode cX2_init 0 = .ok (.aload_n 0, 1) := by decide +kernel
theorem dX2_init_1 : decode cX2_init 1 = .ok (.invokespecial 3, 3) := by decide +kernel
theorem dX2_init_4 : decode cX2_init 4 = .ok (.aload_n 0, 1) := by decide +kernel
theorem dX2_init_5 : decode cX2_init 5 = .ok (.bipush 6, 2) := by decide +kernel
theorem dX2_init_7 : decode cX2_init 7 = .ok (.newarray .int, 2) := by decide +kernel
theorem dX2_init_9 : decode cX2_init 9 = .ok (.putfield 9, 3) := by decide +kernel
theorem dX2_init_12 : decode cX2_init 12 = .ok (.aload_n 0, 1) := by decide +kernel
theorem dX2_init_13 : decode cX2_init 13 = .ok (.bipush 6, 2) := by decide +kernel
theorem dX2_init_15 : decode cX2_init 15 = .ok (.newarray .int, 2) := by decide +kernel
theorem dX2_init_17 : decode cX2_init 17 = .ok (.putfield 15, 3) := by decide +kernel
theorem dX2_init_20 : decode cX2_init 20 = .ok (.aload_n 0, 1) := by decide +kernel
theorem dX2_init_21 : decode cX2_init 21 = .ok (.bipush 6, 2) := by decide +kernel
theorem dX2_init_23 : decode cX2_init 23 = .ok (.newarray .int, 2) := by decide +kernel
theorem dX2_init_25 : decode cX2_init 25 = .ok (.putfield 18, 3) := by decide +kernel
theorem dX2_init_28 : decode cX2_init 28 = .ok (.aload_n 0, 1) := by decide +kernel
theorem dX2_init_29 : decode cX2_init 29 = .ok (.sipush 360, 3) := by decide +kernel
theorem dX2_init_32 : decode cX2_init 32 = .ok (.newarray .int, 2) := by decide +kernel
theorem dX2_init_34 : decode cX2_init 34 = .ok (.putfield 21, 3) := by decide +kernel
theorem dX2_init_37 : decode cX2_init 37 = .ok (.return_, 1) := by decide +kernel
theorem dX2_faultAsRow_0 : decode cX2_faultAsRow 0 = .ok (.aload_n 0, 1) := by decide +kernel
theorem dX2_faultAsRow_1 : decode cX2_faultAsRow 1 = .ok (.getfield 9, 3) := by decide +kernel
theorem dX2_faultAsRow_4 : decode cX2_faultAsRow 4 = .ok (.iload_n 1, 1) := by decide +kernel
theorem dX2_faultAsRow_5 : decode cX2_faultAsRow 5 = .ok (.iaload, 1) := by decide +kernel
theorem dX2_faultAsRow_6 : decode cX2_faultAsRow 6 = .ok (.iconst 2, 1) := by decide +kernel
theorem dX2_faultAsRow_7 : decode cX2_faultAsRow 7 = .ok (.if_icmp .ne 5, 3) := by decide +kernel
theorem dX2_faultAsRow_10 : decode cX2_faultAsRow 10 = .ok (.iconst 0, 1) := by decide +kernel
theorem dX2_faultAsRow_11 : decode cX2_faultAsRow 11 = .ok (.ireturn, 1) := by decide +kernel
theorem dX2_faultAsRow_12 : decode cX2_faultAsRow 12 = .ok (.aload_n 0, 1) := by decide +kernel
theorem dX2_faultAsRow_13 : decode cX2_faultAsRow 13 = .ok (.getfield 9, 3) := by decide +kernel
theorem dX2_faultAsRow_16 : decode cX2_faultAsRow 16 = .ok (.iload_n 1, 1) := by decide +kernel
theorem dX2_faultAsRow_17 : decode cX2_faultAsRow 17 = .ok (.iaload, 1) := by decide +kernel
theorem dX2_faultAsRow_18 : decode cX2_faultAsRow 18 = .ok (.ifCond .ne 8, 3) := by decide +kernel
theorem dX2_faultAsRow_21 : decode cX2_faultAsRow 21 = .ok (.bipush (-11), 2) := by decide +kernel
theorem dX2_faultAsRow_23 : decode cX2_faultAsRow 23 = .ok (.goto 5, 3) := by decide +kernel
theorem dX2_faultAsRow_26 : decode cX2_faultAsRow 26 = .ok (.bipush (-12), 2) := by decide +kernel
theorem dX2_faultAsRow_28 : decode cX2_faultAsRow 28 = .ok (.ireturn, 1) := by decide +kernel
theorem dX2_takeRow_0 : decode cX2_takeRow 0 = .ok (.aload_n 0, 1) := by decide +kernel
theorem dX2_takeRow_1 : decode cX2_takeRow 1 = .ok (.getfield 9, 3) := by decide +kernel
theorem dX2_takeRow_4 : decode cX2_takeRow 4 = .ok (.iload_n 1, 1) := by decide +kernel
theorem dX2_takeRow_5 : decode cX2_takeRow 5 = .ok (.iconst 2, 1) := by decide +kernel
theorem dX2_takeRow_6 : decode cX2_takeRow 6 = .ok (.iastore, 1) := by decide +kernel
theorem dX2_takeRow_7 : decode cX2_takeRow 7 = .ok (.aload_n 0, 1) := by decide +kernel
theorem dX2_takeRow_8 : decode cX2_takeRow 8 = .ok (.getfield 18, 3) := by decide +kernel
theorem dX2_takeRow_11 : decode cX2_takeRow 11 = .ok (.iload_n 1, 1) := by decide +kernel
theorem dX2_takeRow_12 : decode cX2_takeRow 12 = .ok (.iload_n 2, 1) := by decide +kernel
theorem dX2_takeRow_13 : decode cX2_takeRow 13 = .ok (.iastore, 1) := by decide +kernel
theorem dX2_takeRow_14 : decode cX2_takeRow 14 = .ok (.aload_n 0, 1) := by decide +kernel
theorem dX2_takeRow_15 : decode cX2_takeRow 15 = .ok (.getfield 21, 3) := by decide +kernel
theorem dX2_takeRow_18 : decode cX2_takeRow 18 = .ok (.bipush 60, 2) := by decide +kernel
theorem dX2_takeRow_20 : decode cX2_takeRow 20 = .ok (.iload_n 1, 1) := by decide +kernel
theorem dX2_takeRow_21 : decode cX2_takeRow 21 = .ok (.imul, 1) := by decide +kernel
theorem dX2_takeRow_22 : decode cX2_takeRow 22 = .ok (.iload_n 2, 1) := by decide +kernel
theorem dX2_takeRow_23 : decode cX2_takeRow 23 = .ok (.iconst 0, 1) := by decide +kernel
theorem dX2_takeRow_24 : decode cX2_takeRow 24 = .ok (.invokestatic 24, 3) := by decide +kernel
theorem dX2_takeRow_27 : decode cX2_takeRow 27 = .ok (.return_, 1) := by decide +kernel
theorem dX2_hasItem_0 : decode cX2_hasItem 0 = .ok (.aload_n 0, 1) := by decide +kernel
theorem dX2_hasItem_1 : decode cX2_hasItem 1 = .ok (.getfield 9, 3) := by decide +kernel
theorem dX2_hasItem_4 : decode cX2_hasItem 4 = .ok (.iload_n 1, 1) := by decide +kernel
theorem dX2_hasItem_5 : decode cX2_hasItem 5 = .ok (.iaload, 1) := by decide +kernel
theorem dX2_hasItem_6 : decode cX2_hasItem 6 = .ok (.iconst 2, 1) := by decide +kernel
theorem dX2_hasItem_7 : decode cX2_hasItem 7 = .ok (.if_icmp .ne 21, 3) := by decide +kernel
theorem dX2_hasItem_10 : decode cX2_hasItem 10 = .ok (.iload_n 2, 1) := by decide +kernel
theorem dX2_hasItem_11 : decode cX2_hasItem 11 = .ok (.ifCond .lt 17, 3) := by decide +kernel
theorem dX2_hasItem_14 : decode cX2_hasItem 14 = .ok (.iload_n 2, 1) := by decide +kernel
theorem dX2_hasItem_15 : decode cX2_hasItem 15 = .ok (.aload_n 0, 1) := by decide +kernel
theorem dX2_hasItem_16 : decode cX2_hasItem 16 = .ok (.getfield 18, 3) := by decide +kernel
theorem dX2_hasItem_19 : decode cX2_hasItem 19 = .ok (.iload_n 1, 1) := by decide +kernel
theorem dX2_hasItem_20 : decode cX2_hasItem 20 = .ok (.iaload, 1) := by decide +kernel
theorem dX2_hasItem_21 : decode cX2_hasItem 21 = .ok (.if_icmp .ge 7, 3) := by decide +kernel
theorem dX2_hasItem_24 : decode cX2_hasItem 24 = .ok (.iconst 1, 1) := by decide +kernel
theorem dX2_hasItem_25 : decode cX2_hasItem 25 = .ok (.goto 4, 3) := by decide +kernel
theorem dX2_hasItem_28 : decode cX2_hasItem 28 = .ok (.iconst 0, 1) := by decide +kernel
theorem dX2_hasItem_29 : decode cX2_hasItem 29 = .ok (.ireturn, 1) := by decide +kernel
theorem dX2_item_0 : decode cX2_item 0 = .ok (.aload_n 0, 1) := by decide +kernel
theorem dX2_item_1 : decode cX2_item 1 = .ok (.getfield 21, 3) := by decide +kernel
theorem dX2_item_4 : decode cX2_item 4 = .ok (.bipush 60, 2) := by decide +kernel
theorem dX2_item_6 : decode cX2_item 6 = .ok (.iload_n 1, 1) := by decide +kernel
theorem dX2_item_7 : decode cX2_item 7 = .ok (.imul, 1) := by decide +kernel
theorem dX2_item_8 : decode cX2_item 8 = .ok (.iload_n 2, 1) := by decide +kernel
theorem dX2_item_9 : decode cX2_item 9 = .ok (.iadd, 1) := by decide +kernel
theorem dX2_item_10 : decode cX2_item 10 = .ok (.iaload, 1) := by decide +kernel
theorem dX2_item_11 : decode cX2_item 11 = .ok (.ireturn, 1) := by decide +kernel
theorem dX2_setItem_0 : decode cX2_setItem 0 = .ok (.aload_n 0, 1) := by decide +kernel
theorem dX2_setItem_1 : decode cX2_setItem 1 = .ok (.getfield 21, 3) := by decide +kernel
theorem dX2_setItem_4 : decode cX2_setItem 4 = .ok (.bipush 60, 2) := by decide +kernel
theorem dX2_setItem_6 : decode cX2_setItem 6 = .ok (.iload_n 1, 1) := by decide +kernel
theorem dX2_setItem_7 : decode cX2_setItem 7 = .ok (.imul, 1) := by decide +kernel
theorem dX2_setItem_8 : decode cX2_setItem 8 = .ok (.iload_n 2, 1) := by decide +kernel
theorem dX2_setItem_9 : decode cX2_setItem 9 = .ok (.iadd, 1) := by decide +kernel
theorem dX2_setItem_10 : decode cX2_setItem 10 = .ok (.iload_n 3, 1) := by decide +kernel
theorem dX2_setItem_11 : decode cX2_setItem 11 = .ok (.iastore, 1) := by decide +kernel
theorem dX2_setItem_12 : decode cX2_setItem 12 = .ok (.return_, 1) := by decide +kernel
theorem dX2_manyHolding_0 : decode cX2_manyHolding 0 = .ok (.iconst 0, 1) := by decide +kernel
theorem dX2_manyHolding_1 : decode cX2_manyHolding 1 = .ok (.istore_n 1, 1) := by decide +kernel
theorem dX2_manyHolding_2 : decode cX2_manyHolding 2 = .ok (.iconst 0, 1) := by decide +kernel
theorem dX2_manyHolding_3 : decode cX2_manyHolding 3 = .ok (.istore_n 2, 1) := by decide +kernel
theorem dX2_manyHolding_4 : decode cX2_manyHolding 4 = .ok (.iload_n 2, 1) := by decide +kernel
theorem dX2_manyHolding_5 : decode cX2_manyHolding 5 = .ok (.bipush 6, 2) := by decide +kernel
theorem dX2_manyHolding_7 : decode cX2_manyHolding 7 = .ok (.if_icmp .ge 21, 3) := by decide +kernel
theorem dX2_manyHolding_10 : decode cX2_manyHolding 10 = .ok (.aload_n 0, 1) := by decide +kernel
theorem dX2_manyHolding_11 : decode cX2_manyHolding 11 = .ok (.getfield 9, 3) := by decide +kernel
theorem dX2_manyHolding_14 : decode cX2_manyHolding 14 = .ok (.iload_n 2, 1) := by decide +kernel
theorem dX2_manyHolding_15 : decode cX2_manyHolding 15 = .ok (.iaload, 1) := by decide +kernel
theorem dX2_manyHolding_16 : decode cX2_manyHolding 16 = .ok (.ifCond .eq 6, 3) := by decide +kernel
theorem dX2_manyHolding_19 : decode cX2_manyHolding 19 = .ok (.iinc 1 1, 3) := by decide +kernel
theorem dX2_manyHolding_22 : decode cX2_manyHolding 22 = .ok (.iinc 2 1, 3) := by decide +kernel
theorem dX2_manyHolding_25 : decode cX2_manyHolding 25 = .ok (.goto (-21), 3) := by decide +kernel
theorem dX2_manyHolding_28 : decode cX2_manyHolding 28 = .ok (.iload_n 1, 1) := by decide +kernel
theorem dX2_manyHolding_29 : decode cX2_manyHolding 29 = .ok (.ireturn, 1) := by decide +kernel
theorem dX3_init_0 : decode cX3_init 0 = .ok (.aload_n 0, 1) := by decide +kernel
theorem dX3_init_1 : decode cX3_init 1 = .ok (.invokespecial 3, 3) := by decide +kernel
theorem dX3_init_4 : decode cX3_init 4 = .ok (.aload_n 0, 1) := by decide +kernel
theorem dX3_init_5 : decode cX3_init 5 = .ok (.sipush 240, 3) := by decide +kernel
theorem dX3_init_8 : decode cX3_init 8 = .ok (.newarray .int, 2) := by decide +kernel
theorem dX3_init_10 : decode cX3_init 10 = .ok (.putfield 9, 3) := by decide +kernel
theorem dX3_init_13 : decode cX3_init 13 = .ok (.aload_n 0, 1) := by decide +kernel
theorem dX3_init_14 : decode cX3_init 14 = .ok (.new 15, 3) := by decide +kernel
theorem dX3_init_17 : decode cX3_init 17 = .ok (.dup, 1) := by decide +kernel
theorem dX3_init_18 : decode cX3_init 18 = .ok (.invokespecial 17, 3) := by decide +kernel
theorem dX3_init_21 : decode cX3_init 21 = .ok (.putfield 18, 3) := by decide +kernel
theorem dX3_init_24 : decode cX3_init 24 = .ok (.aload_n 0, 1) := by decide +kernel
theorem dX3_init_25 : decode cX3_init 25 = .ok (.new 22, 3) := by decide +kernel
theorem dX3_init_28 : decode cX3_init 28 = .ok (.dup, 1) := by decide +kernel
theorem dX3_init_29 : decode cX3_init 29 = .ok (.invokespecial 24, 3) := by decide +kernel
theorem dX3_init_32 : decode cX3_init 32 = .ok (.putfield 25, 3) := by decide +kernel
theorem dX3_init_35 : decode cX3_init 35 = .ok (.aload_n 0, 1) := by decide +kernel
theorem dX3_init_36 : decode cX3_init 36 = .ok (.new 29, 3) := by decide +kernel
theorem dX3_init_39 : decode cX3_init 39 = .ok (.dup, 1) := by decide +kernel
theorem dX3_init_40 : decode cX3_init 40 = .ok (.invokespecial 31, 3) := by decide +kernel
theorem dX3_init_43 : decode cX3_init 43 = .ok (.putfield 32, 3) := by decide +kernel
theorem dX3_init_46 : decode cX3_init 46 = .ok (.aload_n 0, 1) := by decide +kernel
theorem dX3_init_47 : decode cX3_init 47 = .ok (.new 36, 3) := by decide +kernel
theorem dX3_init_50 : decode cX3_init 50 = .ok (.dup, 1) := by decide +kernel
theorem dX3_init_51 : decode cX3_init 51 = .ok (.invokespecial 38, 3) := by decide +kernel
theorem dX3_init_54 : decode cX3_init 54 = .ok (.putfield 39, 3) := by decide +kernel
theorem dX3_init_57 : decode cX3_init 57 = .ok (.aload_n 0, 1) := by decide +kernel
theorem dX3_init_58 : decode cX3_init 58 = .ok (.bipush 10, 2) := by decide +kernel
theorem dX3_init_60 : decode cX3_init 60 = .ok (.newarray .int, 2) := by decide +kernel
theorem dX3_init_62 : decode cX3_init 62 = .ok (.putfield 43, 3) := by decide +kernel
theorem dX3_init_65 : decode cX3_init 65 = .ok (.aload_n 0, 1) := by decide +kernel
theorem dX3_init_66 : decode cX3_init 66 = .ok (.bipush 6, 2) := by decide +kernel
theorem dX3_init_68 : decode cX3_init 68 = .ok (.newarray .int, 2) := by decide +kernel
theorem dX3_init_70 : decode cX3_init 70 = .ok (.putfield 46, 3) := by decide +kernel
theorem dX3_init_73 : decode cX3_init 73 = .ok (.aload_n 0, 1) := by decide +kernel
theorem dX3_init_74 : decode cX3_init 74 = .ok (.getfield 43, 3) := by decide +kernel
theorem dX3_init_77 : decode cX3_init 77 = .ok (.iconst 0, 1) := by decide +kernel
theorem dX3_init_78 : decode cX3_init 78 = .ok (.bipush 10, 2) := by decide +kernel
theorem dX3_init_80 : decode cX3_init 80 = .ok (.sipush 240, 3) := by decide +kernel
theorem dX3_init_83 : decode cX3_init 83 = .ok (.invokestatic 49, 3) := by decide +kernel
theorem dX3_init_86 : decode cX3_init 86 = .ok (.aload_n 0, 1) := by decide +kernel
theorem dX3_init_87 : decode cX3_init 87 = .ok (.getfield 46, 3) := by decide +kernel
theorem dX3_init_90 : decode cX3_init 90 = .ok (.iconst 0, 1) := by decide +kernel
theorem dX3_init_91 : decode cX3_init 91 = .ok (.bipush 6, 2) := by decide +kernel
theorem dX3_init_93 : decode cX3_init 93 = .ok (.iconst (-1), 1) := by decide +kernel
theorem dX3_init_94 : decode cX3_init 94 = .ok (.invokestatic 49, 3) := by decide +kernel
theorem dX3_init_97 : decode cX3_init 97 = .ok (.return_, 1) := by decide +kernel
theorem dX3_copyFrom_0 : decode cX3_copyFrom 0 = .ok (.aload_n 0, 1) := by decide +kernel
theorem dX3_copyFrom_1 : decode cX3_copyFrom 1 = .ok (.aload_n 1, 1) := by decide +kernel
theorem dX3_copyFrom_2 : decode cX3_copyFrom 2 = .ok (.getfield 53, 3) := by decide +kernel
theorem dX3_copyFrom_5 : decode cX3_copyFrom 5 = .ok (.putfield 53, 3) := by decide +kernel
theorem dX3_copyFrom_8 : decode cX3_copyFrom 8 = .ok (.aload_n 1, 1) := by decide +kernel
theorem dX3_copyFrom_9 : decode cX3_copyFrom 9 = .ok (.getfield 9, 3) := by decide +kernel
theorem dX3_copyFrom_12 : decode cX3_copyFrom 12 = .ok (.aload_n 0, 1) := by decide +kernel
theorem dX3_copyFrom_13 : decode cX3_copyFrom 13 = .ok (.getfield 9, 3) := by decide +kernel
theorem dX3_copyFrom_16 : decode cX3_copyFrom 16 = .ok (.invokestatic 57, 3) := by decide +kernel
theorem dX3_copyFrom_19 : decode cX3_copyFrom 19 = .ok (.aload_n 0, 1) := by decide +kernel
theorem dX3_copyFrom_20 : decode cX3_copyFrom 20 = .ok (.getfield 18, 3) := by decide +kernel
theorem dX3_copyFrom_23 : decode cX3_copyFrom 23 = .ok (.aload_n 1, 1) := by decide +kernel
theorem dX3_copyFrom_24 : decode cX3_copyFrom 24 = .ok (.getfield 18, 3) := by decide +kernel
theorem dX3_copyFrom_27 : decode cX3_copyFrom 27 = .ok (.invokevirtual 61, 3) := by decide +kernel
theorem dX3_copyFrom_30 : decode cX3_copyFrom 30 = .ok (.aload_n 0, 1) := by decide +kernel
theorem dX3_copyFrom_31 : decode cX3_copyFrom 31 = .ok (.getfield 25, 3) := by decide +kernel
theorem dX3_copyFrom_34 : decode cX3_copyFrom 34 = .ok (.aload_n 1, 1) := by decide +kernel
theorem dX3_copyFrom_35 : decode cX3_copyFrom 35 = .ok (.getfield 25, 3) := by decide +kernel
theorem dX3_copyFrom_38 : decode cX3_copyFrom 38 = .ok (.invokevirtual 65, 3) := by decide +kernel
theorem dX3_copyFrom_41 : decode cX3_copyFrom 41 = .ok (.aload_n 0, 1) := by decide +kernel
theorem dX3_copyFrom_42 : decode cX3_copyFrom 42 = .ok (.getfield 32, 3) := by decide +kernel
theorem dX3_copyFrom_45 : decode cX3_copyFrom 45 = .ok (.aload_n 1, 1) := by decide +kernel
theorem dX3_copyFrom_46 : decode cX3_copyFrom 46 = .ok (.getfield 32, 3) := by decide +kernel
theorem dX3_copyFrom_49 : decode cX3_copyFrom 49 = .ok (.invokevirtual 68, 3) := by decide +kernel
theorem dX3_copyFrom_52 : decode cX3_copyFrom 52 = .ok (.aload_n 0, 1) := by decide +kernel
theorem dX3_copyFrom_53 : decode cX3_copyFrom 53 = .ok (.getfield 39, 3) := by decide +kernel
theorem dX3_copyFrom_56 : decode cX3_copyFrom 56 = .ok (.aload_n 1, 1) := by decide +kernel
theorem dX3_copyFrom_57 : decode cX3_copyFrom 57 = .ok (.getfield 39, 3) := by decide +kernel
theorem dX3_copyFrom_60 : decode cX3_copyFrom 60 = .ok (.invokevirtual 71, 3) := by decide +kernel
theorem dX3_copyFrom_63 : decode cX3_copyFrom 63 = .ok (.aload_n 1, 1) := by decide +kernel
theorem dX3_copyFrom_64 : decode cX3_copyFrom 64 = .ok (.getfield 43, 3) := by decide +kernel
theorem dX3_copyFrom_67 : decode cX3_copyFrom 67 = .ok (.aload_n 0, 1) := by decide +kernel
theorem dX3_copyFrom_68 : decode cX3_copyFrom 68 = .ok (.getfield 43, 3) := by decide +kernel
theorem dX3_copyFrom_71 : decode cX3_copyFrom 71 = .ok (.invokestatic 57, 3) := by decide +kernel
theorem dX3_copyFrom_74 : decode cX3_copyFrom 74 = .ok (.aload_n 1, 1) := by decide +kernel
theorem dX3_copyFrom_75 : decode cX3_copyFrom 75 = .ok (.getfield 46, 3) := by decide +kernel
theorem dX3_copyFrom_78 : decode cX3_copyFrom 78 = .ok (.aload_n 0, 1) := by decide +kernel
theorem dX3_copyFrom_79 : decode cX3_copyFrom 79 = .ok (.getfield 46, 3) := by decide +kernel
theorem dX3_copyFrom_82 : decode cX3_copyFrom 82 = .ok (.invokestatic 57, 3) := by decide +kernel
theorem dX3_copyFrom_85 : decode cX3_copyFrom 85 = .ok (.return_, 1) := by decide +kernel
theorem dX3_quotaAllows_0 : decode cX3_quotaAllows 0 = .ok (.aload_n 0, 1) := by decide +kernel
theorem dX3_quotaAllows_1 : decode cX3_quotaAllows 1 = .ok (.getfield 32, 3) := by decide +kernel
theorem dX3_quotaAllows_4 : decode cX3_quotaAllows 4 = .ok (.iload_n 1, 1) := by decide +kernel
theorem dX3_quotaAllows_5 : decode cX3_quotaAllows 5 = .ok (.invokevirtual 74, 3) := by decide +kernel
theorem dX3_quotaAllows_8 : decode cX3_quotaAllows 8 = .ok (.iload_n 2, 1) := by decide +kernel
theorem dX3_quotaAllows_9 : decode cX3_quotaAllows 9 = .ok (.iadd, 1) := by decide +kernel
theorem dX3_quotaAllows_10 : decode cX3_quotaAllows 10 = .ok (.aload_n 0, 1) := by decide +kernel
theorem dX3_quotaAllows_11 : decode cX3_quotaAllows 11 = .ok (.getfield 43, 3) := by decide +kernel
theorem dX3_quotaAllows_14 : decode cX3_quotaAllows 14 = .ok (.iload_n 1, 1) := by decide +kernel
theorem dX3_quotaAllows_15 : decode cX3_quotaAllows 15 = .ok (.iaload, 1) := by decide +kernel
theorem dX3_quotaAllows_16 : decode cX3_quotaAllows 16 = .ok (.if_icmp .gt 7, 3) := by decide +kernel
theorem dX3_quotaAllows_19 : decode cX3_quotaAllows 19 = .ok (.iconst 1, 1) := by decide +kernel
theorem dX3_quotaAllows_20 : decode cX3_quotaAllows 20 = .ok (.goto 4, 3) := by decide +kernel
theorem dX3_quotaAllows_23 : decode cX3_quotaAllows 23 = .ok (.iconst 0, 1) := by decide +kernel
theorem dX3_quotaAllows_24 : decode cX3_quotaAllows 24 = .ok (.ireturn, 1) := by decide +kernel
theorem dX3_placeFor_0 : decode cX3_placeFor 0 = .ok (.aload_n 0, 1) := by decide +kernel
theorem dX3_placeFor_1 : decode cX3_placeFor 1 = .ok (.getfield 25, 3) := by decide +kernel
theorem dX3_placeFor_4 : decode cX3_placeFor 4 = .ok (.aload_n 0, 1) := by decide +kernel
theorem dX3_placeFor_5 : decode cX3_placeFor 5 = .ok (.getfield 18, 3) := by decide +kernel
theorem dX3_placeFor_8 : decode cX3_placeFor 8 = .ok (.iload_n 1, 1) := by decide +kernel
theorem dX3_placeFor_9 : decode cX3_placeFor 9 = .ok (.iload_n 2, 1) := by decide +kernel
theorem dX3_placeFor_10 : decode cX3_placeFor 10 = .ok (.invokevirtual 78, 3) := by decide +kernel
theorem dX3_placeFor_13 : decode cX3_placeFor 13 = .ok (.ireturn, 1) := by decide +kernel
theorem dX3_cellAt_0 : decode cX3_cellAt 0 = .ok (.iload_n 1, 1) := by decide +kernel
theorem dX3_cellAt_1 : decode cX3_cellAt 1 = .ok (.ifCond .lt 26, 3) := by decide +kernel
theorem dX3_cellAt_4 : decode cX3_cellAt 4 = .ok (.iload_n 1, 1) := by decide +kernel
theorem dX3_cellAt_5 : decode cX3_cellAt 5 = .ok (.bipush 30, 2) := by decide +kernel
theorem dX3_cellAt_7 : decode cX3_cellAt 7 = .ok (.if_icmp .ge 20, 3) := by decide +kernel
theorem dX3_cellAt_10 : decode cX3_cellAt 10 = .ok (.iload_n 2, 1) := by decide +kernel
theorem dX3_cellAt_11 : decode cX3_cellAt 11 = .ok (.ifCond .lt 16, 3) := by decide +kernel
theorem dX3_cellAt_14 : decode cX3_cellAt 14 = .ok (.iload_n 2, 1) := by decide +kernel
theorem dX3_cellAt_15 : decode cX3_cellAt 15 = .ok (.aload_n 0, 1) := by decide +kernel
theorem dX3_cellAt_16 : decode cX3_cellAt 16 = .ok (.getfield 32, 3) := by decide +kernel
theorem dX3_cellAt_19 : decode cX3_cellAt 19 = .ok (.getfield 82, 3) := by decide +kernel
theorem dX3_cellAt_22 : decode cX3_cellAt 22 = .ok (.iload_n 1, 1) := by decide +kernel
theorem dX3_cellAt_23 : decode cX3_cellAt 23 = .ok (.iaload, 1) := by decide +kernel
theorem dX3_cellAt_24 : decode cX3_cellAt 24 = .ok (.if_icmp .lt 5, 3) := by decide +kernel
theorem dX3_cellAt_27 : decode cX3_cellAt 27 = .ok (.iconst (-1), 1) := by decide +kernel
theorem dX3_cellAt_28 : decode cX3_cellAt 28 = .ok (.ireturn, 1) := by decide +kernel
theorem dX3_cellAt_29 : decode cX3_cellAt 29 = .ok (.aload_n 0, 1) := by decide +kernel
theorem dX3_cellAt_30 : decode cX3_cellAt 30 = .ok (.getfield 32, 3) := by decide +kernel
theorem dX3_cellAt_33 : decode cX3_cellAt 33 = .ok (.getfield 85, 3) := by decide +kernel
theorem dX3_cellAt_36 : decode cX3_cellAt 36 = .ok (.iload_n 1, 1) := by decide +kernel
theorem dX3_cellAt_37 : decode cX3_cellAt 37 = .ok (.iaload, 1) := by decide +kernel
theorem dX3_cellAt_38 : decode cX3_cellAt 38 = .ok (.iload_n 2, 1) := by decide +kernel
theorem dX3_cellAt_39 : decode cX3_cellAt 39 = .ok (.iadd, 1) := by decide +kernel
theorem dX3_cellAt_40 : decode cX3_cellAt 40 = .ok (.ireturn, 1) := by decide +kernel
theorem dX3_makeBlock_0 : decode cX3_makeBlock 0 = .ok (.aload_n 0, 1) := by decide +kernel
theorem dX3_makeBlock_1 : decode cX3_makeBlock 1 = .ok (.getfield 32, 3) := by decide +kernel
theorem dX3_makeBlock_4 : decode cX3_makeBlock 4 = .ok (.getfield 88, 3) := by decide +kernel
theorem dX3_makeBlock_7 : decode cX3_makeBlock 7 = .ok (.iload_n 1, 1) := by decide +kernel
theorem dX3_makeBlock_8 : decode cX3_makeBlock 8 = .ok (.dup2, 1) := by decide +kernel
theorem dX3_makeBlock_9 : decode cX3_makeBlock 9 = .ok (.iaload, 1) := by decide +kernel
theorem dX3_makeBlock_10 : decode cX3_makeBlock 10 = .ok (.iconst 1, 1) := by decide +kernel
theorem dX3_makeBlock_11 : decode cX3_makeBlock 11 = .ok (.iadd, 1) := by decide +kernel
theorem dX3_makeBlock_12 : decode cX3_makeBlock 12 = .ok (.iastore, 1) := by decide +kernel
theorem dX3_makeBlock_13 : decode cX3_makeBlock 13 = .ok (.aload_n 0, 1) := by decide +kernel
theorem dX3_makeBlock_14 : decode cX3_makeBlock 14 = .ok (.getfield 32, 3) := by decide +kernel
theorem dX3_makeBlock_17 : decode cX3_makeBlock 17 = .ok (.getfield 91, 3) := by decide +kernel
theorem dX3_makeBlock_20 : decode cX3_makeBlock 20 = .ok (.iload_n 1, 1) := by decide +kernel
theorem dX3_makeBlock_21 : decode cX3_makeBlock 21 = .ok (.iconst 1, 1) := by decide +kernel
theorem dX3_makeBlock_22 : decode cX3_makeBlock 22 = .ok (.iastore, 1) := by decide +kernel
theorem dX3_makeBlock_23 : decode cX3_makeBlock 23 = .ok (.aload_n 0, 1) := by decide +kernel
theorem dX3_makeBlock_24 : decode cX3_makeBlock 24 = .ok (.getfield 32, 3) := by decide +kernel
theorem dX3_makeBlock_27 : decode cX3_makeBlock 27 = .ok (.getfield 85, 3) := by decide +kernel
theorem dX3_makeBlock_30 : decode cX3_makeBlock 30 = .ok (.iload_n 1, 1) := by decide +kernel
theorem dX3_makeBlock_31 : decode cX3_makeBlock 31 = .ok (.iload_n 3, 1) := by decide +kernel
theorem dX3_makeBlock_32 : decode cX3_makeBlock 32 = .ok (.iastore, 1) := by decide +kernel
theorem dX3_makeBlock_33 : decode cX3_makeBlock 33 = .ok (.aload_n 0, 1) := by decide +kernel
theorem dX3_makeBlock_34 : decode cX3_makeBlock 34 = .ok (.getfield 32, 3) := by decide +kernel
theorem dX3_makeBlock_37 : decode cX3_makeBlock 37 = .ok (.getfield 82, 3) := by decide +kernel
theorem dX3_makeBlock_40 : decode cX3_makeBlock 40 = .ok (.iload_n 1, 1) := by decide +kernel
theorem dX3_makeBlock_41 : decode cX3_makeBlock 41 = .ok (.iload 4, 2) := by decide +kernel
theorem dX3_makeBlock_43 : decode cX3_makeBlock 43 = .ok (.iastore, 1) := by decide +kernel
theorem dX3_makeBlock_44 : decode cX3_makeBlock 44 = .ok (.aload_n 0, 1) := by decide +kernel
theorem dX3_makeBlock_45 : decode cX3_makeBlock 45 = .ok (.getfield 32, 3) := by decide +kernel
theorem dX3_makeBlock_48 : decode cX3_makeBlock 48 = .ok (.getfield 94, 3) := by decide +kernel
theorem dX3_makeBlock_51 : decode cX3_makeBlock 51 = .ok (.iload_n 1, 1) := by decide +kernel
theorem dX3_makeBlock_52 : decode cX3_makeBlock 52 = .ok (.iload_n 2, 1) := by decide +kernel
theorem dX3_makeBlock_53 : decode cX3_makeBlock 53 = .ok (.iastore, 1) := by decide +kernel
theorem dX3_makeBlock_54 : decode cX3_makeBlock 54 = .ok (.aload_n 0, 1) := by decide +kernel
theorem dX3_makeBlock_55 : decode cX3_makeBlock 55 = .ok (.getfield 32, 3) := by decide +kernel
theorem dX3_makeBlock_58 : decode cX3_makeBlock 58 = .ok (.getfield 97, 3) := by decide +kernel
theorem dX3_makeBlock_61 : decode cX3_makeBlock 61 = .ok (.iload_n 1, 1) := by decide +kernel
theorem dX3_makeBlock_62 : decode cX3_makeBlock 62 = .ok (.iload 5, 2) := by decide +kernel
theorem dX3_makeBlock_64 : decode cX3_makeBlock 64 = .ok (.iastore, 1) := by decide +kernel
theorem dX3_makeBlock_65 : decode cX3_makeBlock 65 = .ok (.aload_n 0, 1) := by decide +kernel
theorem dX3_makeBlock_66 : decode cX3_makeBlock 66 = .ok (.getfield 32, 3) := by decide +kernel
theorem dX3_makeBlock_69 : decode cX3_makeBlock 69 = .ok (.getfield 100, 3) := by decide +kernel
theorem dX3_makeBlock_72 : decode cX3_makeBlock 72 = .ok (.iload_n 1, 1) := by decide +kernel
theorem dX3_makeBlock_73 : decode cX3_makeBlock 73 = .ok (.iconst 0, 1) := by decide +kernel
theorem dX3_makeBlock_74 : decode cX3_makeBlock 74 = .ok (.iastore, 1) := by decide +kernel
theorem dX3_makeBlock_75 : decode cX3_makeBlock 75 = .ok (.aload_n 0, 1) := by decide +kernel
theorem dX3_makeBlock_76 : decode cX3_makeBlock 76 = .ok (.getfield 32, 3) := by decide +kernel
theorem dX3_makeBlock_79 : decode cX3_makeBlock 79 = .ok (.getfield 103, 3) := by decide +kernel
theorem dX3_makeBlock_82 : decode cX3_makeBlock 82 = .ok (.iload_n 1, 1) := by decide +kernel
theorem dX3_makeBlock_83 : decode cX3_makeBlock 83 = .ok (.iconst (-1), 1) := by decide +kernel
theorem dX3_makeBlock_84 : decode cX3_makeBlock 84 = .ok (.iastore, 1) := by decide +kernel
theorem dX3_makeBlock_85 : decode cX3_makeBlock 85 = .ok (.aload_n 0, 1) := by decide +kernel
theorem dX3_makeBlock_86 : decode cX3_makeBlock 86 = .ok (.getfield 25, 3) := by decide +kernel
theorem dX3_makeBlock_89 : decode cX3_makeBlock 89 = .ok (.iload_n 3, 1) := by decide +kernel
theorem dX3_makeBlock_90 : decode cX3_makeBlock 90 = .ok (.iload 4, 2) := by decide +kernel
theorem dX3_makeBlock_92 : decode cX3_makeBlock 92 = .ok (.iload_n 1, 1) := by decide +kernel
theorem dX3_makeBlock_93 : decode cX3_makeBlock 93 = .ok (.invokevirtual 106, 3) := by decide +kernel
theorem dX3_makeBlock_96 : decode cX3_makeBlock 96 = .ok (.aload_n 0, 1) := by decide +kernel
theorem dX3_makeBlock_97 : decode cX3_makeBlock 97 = .ok (.getfield 9, 3) := by decide +kernel
theorem dX3_makeBlock_100 : decode cX3_makeBlock 100 = .ok (.iload_n 3, 1) := by decide +kernel
theorem dX3_makeBlock_101 : decode cX3_makeBlock 101 = .ok (.iload 4, 2) := by decide +kernel
theorem dX3_makeBlock_103 : decode cX3_makeBlock 103 = .ok (.iconst 0, 1) := by decide +kernel
theorem dX3_makeBlock_104 : decode cX3_makeBlock 104 = .ok (.invokestatic 49, 3) := by decide +kernel
theorem dX3_makeBlock_107 : decode cX3_makeBlock 107 = .ok (.return_, 1) := by decide +kernel
theorem dX3_doom_0 : decode cX3_doom 0 = .ok (.aload_n 0, 1) := by decide +kernel
theorem dX3_doom_1 : decode cX3_doom 1 = .ok (.getfield 32, 3) := by decide +kernel
theorem dX3_doom_4 : decode cX3_doom 4 = .ok (.getfield 91, 3) := by decide +kernel
theorem dX3_doom_7 : decode cX3_doom 7 = .ok (.iload_n 1, 1) := by decide +kernel
theorem dX3_doom_8 : decode cX3_doom 8 = .ok (.iconst 2, 1) := by decide +kernel
theorem dX3_doom_9 : decode cX3_doom 9 = .ok (.iastore, 1) := by decide +kernel
theorem dX3_doom_10 : decode cX3_doom 10 = .ok (.aload_n 0, 1) := by decide +kernel
theorem dX3_doom_11 : decode cX3_doom 11 = .ok (.getfield 32, 3) := by decide +kernel
theorem dX3_doom_14 : decode cX3_doom 14 = .ok (.getfield 110, 3) := by decide +kernel
theorem dX3_doom_17 : decode cX3_doom 17 = .ok (.iload_n 1, 1) := by decide +kernel
theorem dX3_doom_18 : decode cX3_doom 18 = .ok (.aload_n 0, 1) := by decide +kernel
theorem dX3_doom_19 : decode cX3_doom 19 = .ok (.getfield 53, 3) := by decide +kernel
theorem dX3_doom_22 : decode cX3_doom 22 = .ok (.iastore, 1) := by decide +kernel
theorem dX3_doom_23 : decode cX3_doom 23 = .ok (.aload_n 0, 1) := by decide +kernel
theorem dX3_doom_24 : decode cX3_doom 24 = .ok (.getfield 32, 3) := by decide +kernel
theorem dX3_doom_27 : decode cX3_doom 27 = .ok (.getfield 103, 3) := by decide +kernel
theorem dX3_doom_30 : decode cX3_doom 30 = .ok (.iload_n 1, 1) := by decide +kernel
theorem dX3_doom_31 : decode cX3_doom 31 = .ok (.iconst (-1), 1) := by decide +kernel
theorem dX3_doom_32 : decode cX3_doom 32 = .ok (.iastore, 1) := by decide +kernel
theorem dX3_doom_33 : decode cX3_doom 33 = .ok (.aload_n 0, 1) := by decide +kernel
theorem dX3_doom_34 : decode cX3_doom 34 = .ok (.getfield 39, 3) := by decide +kernel
theorem dX3_doom_37 : decode cX3_doom 37 = .ok (.iload_n 1, 1) := by decide +kernel
theorem dX3_doom_38 : decode cX3_doom 38 = .ok (.invokevirtual 113, 3) := by decide +kernel
theorem dX3_doom_41 : decode cX3_doom 41 = .ok (.return_, 1) := by decide +kernel
theorem dX3_growInPlace_0 : decode cX3_growInPlace 0 = .ok (.aload_n 0, 1) := by decide +kernel
theorem dX3_growInPlace_1 : decode cX3_growInPlace 1 = .ok (.getfield 32, 3) := by decide +kernel
theorem dX3_growInPlace_4 : decode cX3_growInPlace 4 = .ok (.getfield 85, 3) := by decide +kernel
theorem dX3_growInPlace_7 : decode cX3_growInPlace 7 = .ok (.iload_n 1, 1) := by decide +kernel
theorem dX3_growInPlace_8 : decode cX3_growInPlace 8 = .ok (.iaload, 1) := by decide +kernel
theorem dX3_growInPlace_9 : decode cX3_growInPlace 9 = .ok (.aload_n 0, 1) := by decide +kernel
theorem dX3_growInPlace_10 : decode cX3_growInPlace 10 = .ok (.getfield 32, 3) := by decide +kernel
theorem dX3_growInPlace_13 : decode cX3_growInPlace 13 = .ok (.getfield 82, 3) := by decide +kernel
theorem dX3_growInPlace_16 : decode cX3_growInPlace 16 = .ok (.iload_n 1, 1) := by decide +kernel
theorem dX3_growInPlace_17 : decode cX3_growInPlace 17 = .ok (.iaload, 1) := by decide +kernel
theorem dX3_growInPlace_18 : decode cX3_growInPlace 18 = .ok (.iadd, 1) := by decide +kernel
theorem dX3_growInPlace_19 : decode cX3_growInPlace 19 = .ok (.istore_n 3, 1) := by decide +kernel
theorem dX3_growInPlace_20 : decode cX3_growInPlace 20 = .ok (.iload_n 3, 1) := by decide +kernel
theorem dX3_growInPlace_21 : decode cX3_growInPlace 21 = .ok (.iload_n 2, 1) := by decide +kernel
theorem dX3_growInPlace_22 : decode cX3_growInPlace 22 = .ok (.iadd, 1) := by decide +kernel
theorem dX3_growInPlace_23 : decode cX3_growInPlace 23 = .ok (.aload_n 0, 1) := by decide +kernel
theorem dX3_growInPlace_24 : decode cX3_growInPlace 24 = .ok (.getfield 18, 3) := by decide +kernel
theorem dX3_growInPlace_27 : decode cX3_growInPlace 27 = .ok (.aload_n 0, 1) := by decide +kernel
theorem dX3_growInPlace_28 : decode cX3_growInPlace 28 = .ok (.getfield 32, 3) := by decide +kernel
theorem dX3_growInPlace_31 : decode cX3_growInPlace 31 = .ok (.getfield 94, 3) := by decide +kernel
theorem dX3_growInPlace_34 : decode cX3_growInPlace 34 = .ok (.iload_n 1, 1) := by decide +kernel
theorem dX3_growInPlace_35 : decode cX3_growInPlace 35 = .ok (.iaload, 1) := by decide +kernel
theorem dX3_growInPlace_36 : decode cX3_growInPlace 36 = .ok (.invokevirtual 117, 3) := by decide +kernel
theorem dX3_growInPlace_39 : decode cX3_growInPlace 39 = .ok (.if_icmp .le 5, 3) := by decide +kernel
theorem dX3_growInPlace_42 : decode cX3_growInPlace 42 = .ok (.iconst 0, 1) := by decide +kernel
theorem dX3_growInPlace_43 : decode cX3_growInPlace 43 = .ok (.ireturn, 1) := by decide +kernel
theorem dX3_growInPlace_44 : decode cX3_growInPlace 44 = .ok (.aload_n 0, 1) := by decide +kernel
theorem dX3_growInPlace_45 : decode cX3_growInPlace 45 = .ok (.getfield 25, 3) := by decide +kernel
theorem dX3_growInPlace_48 : decode cX3_growInPlace 48 = .ok (.iload_n 3, 1) := by decide +kernel
theorem dX3_growInPlace_49 : decode cX3_growInPlace 49 = .ok (.iload_n 2, 1) := by decide +kernel
theorem dX3_growInPlace_50 : decode cX3_growInPlace 50 = .ok (.invokevirtual 120, 3) := by decide +kernel
theorem dX3_growInPlace_53 : decode cX3_growInPlace 53 = .ok (.ifCond .ne 5, 3) := by decide +kernel
theorem dX3_growInPlace_56 : decode cX3_growInPlace 56 = .ok (.iconst 0, 1) := by decide +kernel
theorem dX3_growInPlace_57 : decode cX3_growInPlace 57 = .ok (.ireturn, 1) := by decide +kernel
theorem dX3_growInPlace_58 : decode cX3_growInPlace 58 = .ok (.aload_n 0, 1) := by decide +kernel
theorem dX3_growInPlace_59 : decode cX3_growInPlace 59 = .ok (.getfield 25, 3) := by decide +kernel
theorem dX3_growInPlace_62 : decode cX3_growInPlace 62 = .ok (.iload_n 3, 1) := by decide +kernel
theorem dX3_growInPlace_63 : decode cX3_growInPlace 63 = .ok (.iload_n 2, 1) := by decide +kernel
theorem dX3_growInPlace_64 : decode cX3_growInPlace 64 = .ok (.iload_n 1, 1) := by decide +kernel
theorem dX3_growInPlace_65 : decode cX3_growInPlace 65 = .ok (.invokevirtual 106, 3) := by decide +kernel
theorem dX3_growInPlace_68 : decode cX3_growInPlace 68 = .ok (.aload_n 0, 1) := by decide +kernel
theorem dX3_growInPlace_69 : decode cX3_growInPlace 69 = .ok (.getfield 9, 3) := by decide +kernel
theorem dX3_growInPlace_72 : decode cX3_growInPlace 72 = .ok (.iload_n 3, 1) := by decide +kernel
theorem dX3_growInPlace_73 : decode cX3_growInPlace 73 = .ok (.iload_n 2, 1) := by decide +kernel
theorem dX3_growInPlace_74 : decode cX3_growInPlace 74 = .ok (.iconst 0, 1) := by decide +kernel
theorem dX3_growInPlace_75 : decode cX3_growInPlace 75 = .ok (.invokestatic 49, 3) := by decide +kernel
theorem dX3_growInPlace_78 : decode cX3_growInPlace 78 = .ok (.aload_n 0, 1) := by decide +kernel
theorem dX3_growInPlace_79 : decode cX3_growInPlace 79 = .ok (.getfield 32, 3) := by decide +kernel
theorem dX3_growInPlace_82 : decode cX3_growInPlace 82 = .ok (.getfield 82, 3) := by decide +kernel
theorem dX3_growInPlace_85 : decode cX3_growInPlace 85 = .ok (.iload_n 1, 1) := by decide +kernel
theorem dX3_growInPlace_86 : decode cX3_growInPlace 86 = .ok (.dup2, 1) := by decide +kernel
theorem dX3_growInPlace_87 : decode cX3_growInPlace 87 = .ok (.iaload, 1) := by decide +kernel
theorem dX3_growInPlace_88 : decode cX3_growInPlace 88 = .ok (.iload_n 2, 1) := by decide +kernel
theorem dX3_growInPlace_89 : decode cX3_growInPlace 89 = .ok (.iadd, 1) := by decide +kernel
theorem dX3_growInPlace_90 : decode cX3_growInPlace 90 = .ok (.iastore, 1) := by decide +kernel
theorem dX3_growInPlace_91 : decode cX3_growInPlace 91 = .ok (.iconst 1, 1) := by decide +kernel
theorem dX3_growInPlace_92 : decode cX3_growInPlace 92 = .ok (.ireturn, 1) := by decide +kernel
theorem dX3_growElsewhere_0 : decode cX3_growElsewhere 0 = .ok (.aload_n 0, 1) := by decide +kernel
theorem dX3_growElsewhere_1 : decode cX3_growElsewhere 1 = .ok (.getfield 32, 3) := by decide +kernel
theorem dX3_growElsewhere_4 : decode cX3_growElsewhere 4 = .ok (.getfield 82, 3) := by decide +kernel
theorem dX3_growElsewhere_7 : decode cX3_growElsewhere 7 = .ok (.iload_n 1, 1) := by decide +kernel
theorem dX3_growElsewhere_8 : decode cX3_growElsewhere 8 = .ok (.iaload, 1) := by decide +kernel
theorem dX3_growElsewhere_9 : decode cX3_growElsewhere 9 = .ok (.istore_n 3, 1) := by decide +kernel
theorem dX3_growElsewhere_10 : decode cX3_growElsewhere 10 = .ok (.aload_n 0, 1) := by decide +kernel
theorem dX3_growElsewhere_11 : decode cX3_growElsewhere 11 = .ok (.aload_n 0, 1) := by decide +kernel
theorem dX3_growElsewhere_12 : decode cX3_growElsewhere 12 = .ok (.getfield 32, 3) := by decide +kernel
theorem dX3_growElsewhere_15 : decode cX3_growElsewhere 15 = .ok (.getfield 94, 3) := by decide +kernel
theorem dX3_growElsewhere_18 : decode cX3_growElsewhere 18 = .ok (.iload_n 1, 1) := by decide +kernel
theorem dX3_growElsewhere_19 : decode cX3_growElsewhere 19 = .ok (.iaload, 1) := by decide +kernel
theorem dX3_growElsewhere_20 : decode cX3_growElsewhere 20 = .ok (.iload_n 3, 1) := by decide +kernel
theorem dX3_growElsewhere_21 : decode cX3_growElsewhere 21 = .ok (.iload_n 2, 1) := by decide +kernel
theorem dX3_growElsewhere_22 : decode cX3_growElsewhere 22 = .ok (.iadd, 1) := by decide +kernel
theorem dX3_growElsewhere_23 : decode cX3_growElsewhere 23 = .ok (.invokevirtual 124, 3) := by decide +kernel
theorem dX3_growElsewhere_26 : decode cX3_growElsewhere 26 = .ok (.istore 4, 2) := by decide +kernel
theorem dX3_growElsewhere_28 : decode cX3_growElsewhere 28 = .ok (.iload 4, 2) := by decide +kernel
theorem dX3_growElsewhere_30 : decode cX3_growElsewhere 30 = .ok (.iconst (-1), 1) := by decide +kernel
theorem dX3_growElsewhere_31 : decode cX3_growElsewhere 31 = .ok (.if_icmp .ne 5, 3) := by decide +kernel
theorem dX3_growElsewhere_34 : decode cX3_growElsewhere 34 = .ok (.iconst 0, 1) := by decide +kernel
theorem dX3_growElsewhere_35 : decode cX3_growElsewhere 35 = .ok (.ireturn, 1) := by decide +kernel
theorem dX3_growElsewhere_36 : decode cX3_growElsewhere 36 = .ok (.aload_n 0, 1) := by decide +kernel
theorem dX3_growElsewhere_37 : decode cX3_growElsewhere 37 = .ok (.iload_n 1, 1) := by decide +kernel
theorem dX3_growElsewhere_38 : decode cX3_growElsewhere 38 = .ok (.iload 4, 2) := by decide +kernel
theorem dX3_growElsewhere_40 : decode cX3_growElsewhere 40 = .ok (.invokevirtual 128, 3) := by decide +kernel
theorem dX3_growElsewhere_43 : decode cX3_growElsewhere 43 = .ok (.aload_n 0, 1) := by decide +kernel
theorem dX3_growElsewhere_44 : decode cX3_growElsewhere 44 = .ok (.getfield 32, 3) := by decide +kernel
theorem dX3_growElsewhere_47 : decode cX3_growElsewhere 47 = .ok (.getfield 82, 3) := by decide +kernel
theorem dX3_growElsewhere_50 : decode cX3_growElsewhere 50 = .ok (.iload_n 1, 1) := by decide +kernel
theorem dX3_growElsewhere_51 : decode cX3_growElsewhere 51 = .ok (.iload_n 3, 1) := by decide +kernel
theorem dX3_growElsewhere_52 : decode cX3_growElsewhere 52 = .ok (.iload_n 2, 1) := by decide +kernel
theorem dX3_growElsewhere_53 : decode cX3_growElsewhere 53 = .ok (.iadd, 1) := by decide +kernel
theorem dX3_growElsewhere_54 : decode cX3_growElsewhere 54 = .ok (.iastore, 1) := by decide +kernel
theorem dX3_growElsewhere_55 : decode cX3_growElsewhere 55 = .ok (.aload_n 0, 1) := by decide +kernel
theorem dX3_growElsewhere_56 : decode cX3_growElsewhere 56 = .ok (.getfield 25, 3) := by decide +kernel
theorem dX3_growElsewhere_59 : decode cX3_growElsewhere 59 = .ok (.iload 4, 2) := by decide +kernel
theorem dX3_growElsewhere_61 : decode cX3_growElsewhere 61 = .ok (.iload_n 3, 1) := by decide +kernel
theorem dX3_growElsewhere_62 : decode cX3_growElsewhere 62 = .ok (.iadd, 1) := by decide +kernel
theorem dX3_growElsewhere_63 : decode cX3_growElsewhere 63 = .ok (.iload_n 2, 1) := by decide +kernel
theorem dX3_growElsewhere_64 : decode cX3_growElsewhere 64 = .ok (.iload_n 1, 1) := by decide +kernel
theorem dX3_growElsewhere_65 : decode cX3_growElsewhere 65 = .ok (.invokevirtual 106, 3) := by decide +kernel
theorem dX3_growElsewhere_68 : decode cX3_growElsewhere 68 = .ok (.aload_n 0, 1) := by decide +kernel
theorem dX3_growElsewhere_69 : decode cX3_growElsewhere 69 = .ok (.getfield 9, 3) := by decide +kernel
theorem dX3_growElsewhere_72 : decode cX3_growElsewhere 72 = .ok (.iload 4, 2) := by decide +kernel
theorem dX3_growElsewhere_74 : decode cX3_growElsewhere 74 = .ok (.iload_n 3, 1) := by decide +kernel
theorem dX3_growElsewhere_75 : decode cX3_growElsewhere 75 = .ok (.iadd, 1) := by decide +kernel
theorem dX3_growElsewhere_76 : decode cX3_growElsewhere 76 = .ok (.iload_n 2, 1) := by decide +kernel
theorem dX3_growElsewhere_77 : decode cX3_growElsewhere 77 = .ok (.iconst 0, 1) := by decide +kernel
theorem dX3_growElsewhere_78 : decode cX3_growElsewhere 78 = .ok (.invokestatic 49, 3) := by decide +kernel
theorem dX3_growElsewhere_81 : decode cX3_growElsewhere 81 = .ok (.iconst 1, 1) := by decide +kernel
theorem dX3_growElsewhere_82 : decode cX3_growElsewhere 82 = .ok (.ireturn, 1) := by decide +kernel
theorem dX3_layAt_0 : decode cX3_layAt 0 = .ok (.aload_n 0, 1) := by decide +kernel
theorem dX3_layAt_1 : decode cX3_layAt 1 = .ok (.getfield 32, 3) := by decide +kernel
theorem dX3_layAt_4 : decode cX3_layAt 4 = .ok (.getfield 85, 3) := by decide +kernel
theorem dX3_layAt_7 : decode cX3_layAt 7 = .ok (.iload_n 1, 1) := by decide +kernel
theorem dX3_layAt_8 : decode cX3_layAt 8 = .ok (.iaload, 1) := by decide +kernel
theorem dX3_layAt_9 : decode cX3_layAt 9 = .ok (.istore_n 3, 1) := by decide +kernel
theorem dX3_layAt_10 : decode cX3_layAt 10 = .ok (.aload_n 0, 1) := by decide +kernel
theorem dX3_layAt_11 : decode cX3_layAt 11 = .ok (.getfield 32, 3) := by decide +kernel
theorem dX3_layAt_14 : decode cX3_layAt 14 = .ok (.getfield 82, 3) := by decide +kernel
theorem dX3_layAt_17 : decode cX3_layAt 17 = .ok (.iload_n 1, 1) := by decide +kernel
theorem dX3_layAt_18 : decode cX3_layAt 18 = .ok (.iaload, 1) := by decide +kernel
theorem dX3_layAt_19 : decode cX3_layAt 19 = .ok (.istore 4, 2) := by decide +kernel
theorem dX3_layAt_21 : decode cX3_layAt 21 = .ok (.aload_n 0, 1) := by decide +kernel
theorem dX3_layAt_22 : decode cX3_layAt 22 = .ok (.getfield 9, 3) := by decide +kernel
theorem dX3_layAt_25 : decode cX3_layAt 25 = .ok (.iload_n 3, 1) := by decide +kernel
theorem dX3_layAt_26 : decode cX3_layAt 26 = .ok (.aload_n 0, 1) := by decide +kernel
theorem dX3_layAt_27 : decode cX3_layAt 27 = .ok (.getfield 9, 3) := by decide +kernel
theorem dX3_layAt_30 : decode cX3_layAt 30 = .ok (.iload_n 2, 1) := by decide +kernel
theorem dX3_layAt_31 : decode cX3_layAt 31 = .ok (.iload 4, 2) := by decide +kernel
theorem dX3_layAt_33 : decode cX3_layAt 33 = .ok (.invokestatic 132, 3) := by decide +kernel
theorem dX3_layAt_36 : decode cX3_layAt 36 = .ok (.aload_n 0, 1) := by decide +kernel
theorem dX3_layAt_37 : decode cX3_layAt 37 = .ok (.getfield 25, 3) := by decide +kernel
theorem dX3_layAt_40 : decode cX3_layAt 40 = .ok (.iload_n 3, 1) := by decide +kernel
theorem dX3_layAt_41 : decode cX3_layAt 41 = .ok (.iload 4, 2) := by decide +kernel
theorem dX3_layAt_43 : decode cX3_layAt 43 = .ok (.invokevirtual 138, 3) := by decide +kernel
theorem dX3_layAt_46 : decode cX3_layAt 46 = .ok (.aload_n 0, 1) := by decide +kernel
theorem dX3_layAt_47 : decode cX3_layAt 47 = .ok (.getfield 25, 3) := by decide +kernel
theorem dX3_layAt_50 : decode cX3_layAt 50 = .ok (.iload_n 2, 1) := by decide +kernel
theorem dX3_layAt_51 : decode cX3_layAt 51 = .ok (.iload 4, 2) := by decide +kernel
theorem dX3_layAt_53 : decode cX3_layAt 53 = .ok (.iload_n 1, 1) := by decide +kernel
theorem dX3_layAt_54 : decode cX3_layAt 54 = .ok (.invokevirtual 106, 3) := by decide +kernel
theorem dX3_layAt_57 : decode cX3_layAt 57 = .ok (.aload_n 0, 1) := by decide +kernel
theorem dX3_layAt_58 : decode cX3_layAt 58 = .ok (.getfield 32, 3) := by decide +kernel
theorem dX3_layAt_61 : decode cX3_layAt 61 = .ok (.getfield 85, 3) := by decide +kernel
theorem dX3_layAt_64 : decode cX3_layAt 64 = .ok (.iload_n 1, 1) := by decide +kernel
theorem dX3_layAt_65 : decode cX3_layAt 65 = .ok (.iload_n 2, 1) := by decide +kernel
theorem dX3_layAt_66 : decode cX3_layAt 66 = .ok (.iastore, 1) := by decide +kernel
theorem dX3_layAt_67 : decode cX3_layAt 67 = .ok (.return_, 1) := by decide +kernel
theorem dX3_moveWithin_0 : decode cX3_moveWithin 0 = .ok (.iconst 0, 1) := by decide +kernel
theorem dX3_moveWithin_1 : decode cX3_moveWithin 1 = .ok (.istore_n 3, 1) := by decide +kernel
theorem dX3_moveWithin_2 : decode cX3_moveWithin 2 = .ok (.iconst 0, 1) := by decide +kernel
theorem dX3_moveWithin_3 : decode cX3_moveWithin 3 = .ok (.istore 4, 2) := by decide +kernel
theorem dX3_moveWithin_5 : decode cX3_moveWithin 5 = .ok (.iload 4, 2) := by decide +kernel
theorem dX3_moveWithin_7 : decode cX3_moveWithin 7 = .ok (.bipush 30, 2) := by decide +kernel
theorem dX3_moveWithin_9 : decode cX3_moveWithin 9 = .ok (.if_icmp .ge 65, 3) := by decide +kernel
theorem dX3_moveWithin_12 : decode cX3_moveWithin 12 = .ok (.aload_n 0, 1) := by decide +kernel
theorem dX3_moveWithin_13 : decode cX3_moveWithin 13 = .ok (.iload_n 1, 1) := by decide +kernel
theorem dX3_moveWithin_14 : decode cX3_moveWithin 14 = .ok (.invokevirtual 141, 3) := by decide +kernel
theorem dX3_moveWithin_17 : decode cX3_moveWithin 17 = .ok (.istore 5, 2) := by decide +kernel
theorem dX3_moveWithin_19 : decode cX3_moveWithin 19 = .ok (.iload 5, 2) := by decide +kernel
theorem dX3_moveWithin_21 : decode cX3_moveWithin 21 = .ok (.iconst (-1), 1) := by decide +kernel
theorem dX3_moveWithin_22 : decode cX3_moveWithin 22 = .ok (.if_icmp .eq 19, 3) := by decide +kernel
theorem dX3_moveWithin_25 : decode cX3_moveWithin 25 = .ok (.aload_n 0, 1) := by decide +kernel
theorem dX3_moveWithin_26 : decode cX3_moveWithin 26 = .ok (.getfield 32, 3) := by decide +kernel
theorem dX3_moveWithin_29 : decode cX3_moveWithin 29 = .ok (.getfield 82, 3) := by decide +kernel
theorem dX3_moveWithin_32 : decode cX3_moveWithin 32 = .ok (.iload 5, 2) := by decide +kernel
theorem dX3_moveWithin_34 : decode cX3_moveWithin 34 = .ok (.iaload, 1) := by decide +kernel
theorem dX3_moveWithin_35 : decode cX3_moveWithin 35 = .ok (.iload_n 2, 1) := by decide +kernel
theorem dX3_moveWithin_36 : decode cX3_moveWithin 36 = .ok (.iload_n 3, 1) := by decide +kernel
theorem dX3_moveWithin_37 : decode cX3_moveWithin 37 = .ok (.isub, 1) := by decide +kernel
theorem dX3_moveWithin_38 : decode cX3_moveWithin 38 = .ok (.if_icmp .le 5, 3) := by decide +kernel
theorem dX3_moveWithin_41 : decode cX3_moveWithin 41 = .ok (.iload_n 3, 1) := by decide +kernel
theorem dX3_moveWithin_42 : decode cX3_moveWithin 42 = .ok (.ireturn, 1) := by decide +kernel
theorem dX3_moveWithin_43 : decode cX3_moveWithin 43 = .ok (.iload_n 3, 1) := by decide +kernel
theorem dX3_moveWithin_44 : decode cX3_moveWithin 44 = .ok (.aload_n 0, 1) := by decide +kernel
theorem dX3_moveWithin_45 : decode cX3_moveWithin 45 = .ok (.getfield 32, 3) := by decide +kernel
theorem dX3_moveWithin_48 : decode cX3_moveWithin 48 = .ok (.getfield 82, 3) := by decide +kernel
theorem dX3_moveWithin_51 : decode cX3_moveWithin 51 = .ok (.iload 5, 2) := by decide +kernel
theorem dX3_moveWithin_53 : decode cX3_moveWithin 53 = .ok (.iaload, 1) := by decide +kernel
theorem dX3_moveWithin_54 : decode cX3_moveWithin 54 = .ok (.iadd, 1) := by decide +kernel
theorem dX3_moveWithin_55 : decode cX3_moveWithin 55 = .ok (.istore_n 3, 1) := by decide +kernel
theorem dX3_moveWithin_56 : decode cX3_moveWithin 56 = .ok (.aload_n 0, 1) := by decide +kernel
theorem dX3_moveWithin_57 : decode cX3_moveWithin 57 = .ok (.iload 5, 2) := by decide +kernel
theorem dX3_moveWithin_59 : decode cX3_moveWithin 59 = .ok (.aload_n 0, 1) := by decide +kernel
theorem dX3_moveWithin_60 : decode cX3_moveWithin 60 = .ok (.iload 5, 2) := by decide +kernel
theorem dX3_moveWithin_62 : decode cX3_moveWithin 62 = .ok (.invokevirtual 144, 3) := by decide +kernel
theorem dX3_moveWithin_65 : decode cX3_moveWithin 65 = .ok (.invokevirtual 128, 3) := by decide +kernel
theorem dX3_moveWithin_68 : decode cX3_moveWithin 68 = .ok (.iinc 4 1, 3) := by decide +kernel
theorem dX3_moveWithin_71 : decode cX3_moveWithin 71 = .ok (.goto (-66), 3) := by decide +kernel
theorem dX3_moveWithin_74 : decode cX3_moveWithin 74 = .ok (.iload_n 3, 1) := by decide +kernel
theorem dX3_moveWithin_75 : decode cX3_moveWithin 75 = .ok (.ireturn, 1) := by decide +kernel
theorem dX3_leastBudget_0 : decode cX3_leastBudget 0 = .ok (.iconst 0, 1) := by decide +kernel
theorem dX3_leastBudget_1 : decode cX3_leastBudget 1 = .ok (.istore_n 3, 1) := by decide +kernel
theorem dX3_leastBudget_2 : decode cX3_leastBudget 2 = .ok (.iconst 0, 1) := by decide +kernel
theorem dX3_leastBudget_3 : decode cX3_leastBudget 3 = .ok (.istore 4, 2) := by decide +kernel
theorem dX3_leastBudget_5 : decode cX3_leastBudget 5 = .ok (.iload 4, 2) := by decide +kernel
theorem dX3_leastBudget_7 : decode cX3_leastBudget 7 = .ok (.bipush 30, 2) := by decide +kernel
theorem dX3_leastBudget_9 : decode cX3_leastBudget 9 = .ok (.if_icmp .gt 61, 3) := by decide +kernel
theorem dX3_leastBudget_12 : decode cX3_leastBudget 12 = .ok (.aload_n 0, 1) := by decide +kernel
theorem dX3_leastBudget_13 : decode cX3_leastBudget 13 = .ok (.iload_n 1, 1) := by decide +kernel
theorem dX3_leastBudget_14 : decode cX3_leastBudget 14 = .ok (.iload_n 2, 1) := by decide +kernel
theorem dX3_leastBudget_15 : decode cX3_leastBudget 15 = .ok (.invokevirtual 124, 3) := by decide +kernel
theorem dX3_leastBudget_18 : decode cX3_leastBudget 18 = .ok (.iconst (-1), 1) := by decide +kernel
theorem dX3_leastBudget_19 : decode cX3_leastBudget 19 = .ok (.if_icmp .eq 5, 3) := by decide +kernel
theorem dX3_leastBudget_22 : decode cX3_leastBudget 22 = .ok (.iload_n 3, 1) := by decide +kernel
theorem dX3_leastBudget_23 : decode cX3_leastBudget 23 = .ok (.ireturn, 1) := by decide +kernel
theorem dX3_leastBudget_24 : decode cX3_leastBudget 24 = .ok (.aload_n 0, 1) := by decide +kernel
theorem dX3_leastBudget_25 : decode cX3_leastBudget 25 = .ok (.iload_n 1, 1) := by decide +kernel
theorem dX3_leastBudget_26 : decode cX3_leastBudget 26 = .ok (.invokevirtual 141, 3) := by decide +kernel
theorem dX3_leastBudget_29 : decode cX3_leastBudget 29 = .ok (.istore 5, 2) := by decide +kernel
theorem dX3_leastBudget_31 : decode cX3_leastBudget 31 = .ok (.iload 5, 2) := by decide +kernel
theorem dX3_leastBudget_33 : decode cX3_leastBudget 33 = .ok (.iconst (-1), 1) := by decide +kernel
theorem dX3_leastBudget_34 : decode cX3_leastBudget 34 = .ok (.if_icmp .ne 5, 3) := by decide +kernel
theorem dX3_leastBudget_37 : decode cX3_leastBudget 37 = .ok (.iconst (-1), 1) := by decide +kernel
theorem dX3_leastBudget_38 : decode cX3_leastBudget 38 = .ok (.ireturn, 1) := by decide +kernel
theorem dX3_leastBudget_39 : decode cX3_leastBudget 39 = .ok (.iload_n 3, 1) := by decide +kernel
theorem dX3_leastBudget_40 : decode cX3_leastBudget 40 = .ok (.aload_n 0, 1) := by decide +kernel
theorem dX3_leastBudget_41 : decode cX3_leastBudget 41 = .ok (.getfield 32, 3) := by decide +kernel
theorem dX3_leastBudget_44 : decode cX3_leastBudget 44 = .ok (.getfield 82, 3) := by decide +kernel
theorem dX3_leastBudget_47 : decode cX3_leastBudget 47 = .ok (.iload 5, 2) := by decide +kernel
theorem dX3_leastBudget_49 : decode cX3_leastBudget 49 = .ok (.iaload, 1) := by decide +kernel
theorem dX3_leastBudget_50 : decode cX3_leastBudget 50 = .ok (.iadd, 1) := by decide +kernel
theorem dX3_leastBudget_51 : decode cX3_leastBudget 51 = .ok (.istore_n 3, 1) := by decide +kernel
theorem dX3_leastBudget_52 : decode cX3_leastBudget 52 = .ok (.aload_n 0, 1) := by decide +kernel
theorem dX3_leastBudget_53 : decode cX3_leastBudget 53 = .ok (.iload 5, 2) := by decide +kernel
theorem dX3_leastBudget_55 : decode cX3_leastBudget 55 = .ok (.aload_n 0, 1) := by decide +kernel
theorem dX3_leastBudget_56 : decode cX3_leastBudget 56 = .ok (.iload 5, 2) := by decide +kernel
theorem dX3_leastBudget_58 : decode cX3_leastBudget 58 = .ok (.invokevirtual 144, 3) := by decide +kernel
theorem dX3_leastBudget_61 : decode cX3_leastBudget 61 = .ok (.invokevirtual 128, 3) := by decide +kernel
theorem dX3_leastBudget_64 : decode cX3_leastBudget 64 = .ok (.iinc 4 1, 3) := by decide +kernel
theorem dX3_leastBudget_67 : decode cX3_leastBudget 67 = .ok (.goto (-62), 3) := by decide +kernel
theorem dX3_leastBudget_70 : decode cX3_leastBudget 70 = .ok (.iconst (-1), 1) := by decide +kernel
theorem dX3_leastBudget_71 : decode cX3_leastBudget 71 = .ok (.ireturn, 1) := by decide +kernel
theorem dX3_nextToMove_0 : decode cX3_nextToMove 0 = .ok (.aload_n 0, 1) := by decide +kernel
theorem dX3_nextToMove_1 : decode cX3_nextToMove 1 = .ok (.getfield 18, 3) := by decide +kernel
theorem dX3_nextToMove_4 : decode cX3_nextToMove 4 = .ok (.getfield 147, 3) := by decide +kernel
theorem dX3_nextToMove_7 : decode cX3_nextToMove 7 = .ok (.iload_n 1, 1) := by decide +kernel
theorem dX3_nextToMove_8 : decode cX3_nextToMove 8 = .ok (.iaload, 1) := by decide +kernel
theorem dX3_nextToMove_9 : decode cX3_nextToMove 9 = .ok (.istore_n 2, 1) := by decide +kernel
theorem dX3_nextToMove_10 : decode cX3_nextToMove 10 = .ok (.aload_n 0, 1) := by decide +kernel
theorem dX3_nextToMove_11 : decode cX3_nextToMove 11 = .ok (.getfield 18, 3) := by decide +kernel
theorem dX3_nextToMove_14 : decode cX3_nextToMove 14 = .ok (.getfield 148, 3) := by decide +kernel
theorem dX3_nextToMove_17 : decode cX3_nextToMove 17 = .ok (.iload_n 1, 1) := by decide +kernel
theorem dX3_nextToMove_18 : decode cX3_nextToMove 18 = .ok (.iaload, 1) := by decide +kernel
theorem dX3_nextToMove_19 : decode cX3_nextToMove 19 = .ok (.ifCond .ne 7, 3) := by decide +kernel
theorem dX3_nextToMove_22 : decode cX3_nextToMove 22 = .ok (.iconst 1, 1) := by decide +kernel
theorem dX3_nextToMove_23 : decode cX3_nextToMove 23 = .ok (.goto 4, 3) := by decide +kernel
theorem dX3_nextToMove_26 : decode cX3_nextToMove 26 = .ok (.iconst 0, 1) := by decide +kernel
theorem dX3_nextToMove_27 : decode cX3_nextToMove 27 = .ok (.istore_n 3, 1) := by decide +kernel
theorem dX3_nextToMove_28 : decode cX3_nextToMove 28 = .ok (.iconst 0, 1) := by decide +kernel
theorem dX3_nextToMove_29 : decode cX3_nextToMove 29 = .ok (.istore 4, 2) := by decide +kernel
theorem dX3_nextToMove_31 : decode cX3_nextToMove 31 = .ok (.iload 4, 2) := by decide +kernel
theorem dX3_nextToMove_33 : decode cX3_nextToMove 33 = .ok (.iload_n 2, 1) := by decide +kernel
theorem dX3_nextToMove_34 : decode cX3_nextToMove 34 = .ok (.if_icmp .ge 81, 3) := by decide +kernel
theorem dX3_nextToMove_37 : decode cX3_nextToMove 37 = .ok (.aload_n 0, 1) := by decide +kernel
theorem dX3_nextToMove_38 : decode cX3_nextToMove 38 = .ok (.getfield 25, 3) := by decide +kernel
theorem dX3_nextToMove_41 : decode cX3_nextToMove 41 = .ok (.getfield 151, 3) := by decide +kernel
theorem dX3_nextToMove_44 : decode cX3_nextToMove 44 = .ok (.aload_n 0, 1) := by decide +kernel
theorem dX3_nextToMove_45 : decode cX3_nextToMove 45 = .ok (.getfield 18, 3) := by decide +kernel
theorem dX3_nextToMove_48 : decode cX3_nextToMove 48 = .ok (.getfield 154, 3) := by decide +kernel
theorem dX3_nextToMove_51 : decode cX3_nextToMove 51 = .ok (.iload_n 1, 1) := by decide +kernel
theorem dX3_nextToMove_52 : decode cX3_nextToMove 52 = .ok (.iaload, 1) := by decide +kernel
theorem dX3_nextToMove_53 : decode cX3_nextToMove 53 = .ok (.iload_n 3, 1) := by decide +kernel
theorem dX3_nextToMove_54 : decode cX3_nextToMove 54 = .ok (.ifCond .eq 8, 3) := by decide +kernel
theorem dX3_nextToMove_57 : decode cX3_nextToMove 57 = .ok (.iload 4, 2) := by decide +kernel
theorem dX3_nextToMove_59 : decode cX3_nextToMove 59 = .ok (.goto 9, 3) := by decide +kernel
theorem dX3_nextToMove_62 : decode cX3_nextToMove 62 = .ok (.iload_n 2, 1) := by decide +kernel
theorem dX3_nextToMove_63 : decode cX3_nextToMove 63 = .ok (.iconst 1, 1) := by decide +kernel
theorem dX3_nextToMove_64 : decode cX3_nextToMove 64 = .ok (.isub, 1) := by decide +kernel
theorem dX3_nextToMove_65 : decode cX3_nextToMove 65 = .ok (.iload 4, 2) := by decide +kernel
theorem dX3_nextToMove_67 : decode cX3_nextToMove 67 = .ok (.isub, 1) := by decide +kernel
theorem dX3_nextToMove_68 : decode cX3_nextToMove 68 = .ok (.iadd, 1) := by decide +kernel
theorem dX3_nextToMove_69 : decode cX3_nextToMove 69 = .ok (.iaload, 1) := by decide +kernel
theorem dX3_nextToMove_70 : decode cX3_nextToMove 70 = .ok (.istore 5, 2) := by decide +kernel
theorem dX3_nextToMove_72 : decode cX3_nextToMove 72 = .ok (.iload 5, 2) := by decide +kernel
theorem dX3_nextToMove_74 : decode cX3_nextToMove 74 = .ok (.iconst (-1), 1) := by decide +kernel
theorem dX3_nextToMove_75 : decode cX3_nextToMove 75 = .ok (.if_icmp .eq 34, 3) := by decide +kernel
theorem dX3_nextToMove_78 : decode cX3_nextToMove 78 = .ok (.aload_n 0, 1) := by decide +kernel
theorem dX3_nextToMove_79 : decode cX3_nextToMove 79 = .ok (.iload 5, 2) := by decide +kernel
theorem dX3_nextToMove_81 : decode cX3_nextToMove 81 = .ok (.invokevirtual 155, 3) := by decide +kernel
theorem dX3_nextToMove_84 : decode cX3_nextToMove 84 = .ok (.ifCond .eq 25, 3) := by decide +kernel
theorem dX3_nextToMove_87 : decode cX3_nextToMove 87 = .ok (.aload_n 0, 1) := by decide +kernel
theorem dX3_nextToMove_88 : decode cX3_nextToMove 88 = .ok (.iload 5, 2) := by decide +kernel
theorem dX3_nextToMove_90 : decode cX3_nextToMove 90 = .ok (.invokevirtual 144, 3) := by decide +kernel
theorem dX3_nextToMove_93 : decode cX3_nextToMove 93 = .ok (.aload_n 0, 1) := by decide +kernel
theorem dX3_nextToMove_94 : decode cX3_nextToMove 94 = .ok (.getfield 32, 3) := by decide +kernel
theorem dX3_nextToMove_97 : decode cX3_nextToMove 97 = .ok (.getfield 85, 3) := by decide +kernel
theorem dX3_nextToMove_100 : decode cX3_nextToMove 100 = .ok (.iload 5, 2) := by decide +kernel
theorem dX3_nextToMove_102 : decode cX3_nextToMove 102 = .ok (.iaload, 1) := by decide +kernel
theorem dX3_nextToMove_103 : decode cX3_nextToMove 103 = .ok (.if_icmp .eq 6, 3) := by decide +kernel
theorem dX3_nextToMove_106 : decode cX3_nextToMove 106 = .ok (.iload 5, 2) := by decide +kernel
theorem dX3_nextToMove_108 : decode cX3_nextToMove 108 = .ok (.ireturn, 1) := by decide +kernel
theorem dX3_nextToMove_109 : decode cX3_nextToMove 109 = .ok (.iinc 4 1, 3) := by decide +kernel
theorem dX3_nextToMove_112 : decode cX3_nextToMove 112 = .ok (.goto (-81), 3) := by decide +kernel
theorem dX3_nextToMove_115 : decode cX3_nextToMove 115 = .ok (.iconst (-1), 1) := by decide +kernel
theorem dX3_nextToMove_116 : decode cX3_nextToMove 116 = .ok (.ireturn, 1) := by decide +kernel
theorem dX3_mayMove_0 : decode cX3_mayMove 0 = .ok (.aload_n 0, 1) := by decide +kernel
theorem dX3_mayMove_1 : decode cX3_mayMove 1 = .ok (.getfield 32, 3) := by decide +kernel
theorem dX3_mayMove_4 : decode cX3_mayMove 4 = .ok (.getfield 91, 3) := by decide +kernel
theorem dX3_mayMove_7 : decode cX3_mayMove 7 = .ok (.iload_n 1, 1) := by decide +kernel
theorem dX3_mayMove_8 : decode cX3_mayMove 8 = .ok (.iaload, 1) := by decide +kernel
theorem dX3_mayMove_9 : decode cX3_mayMove 9 = .ok (.iconst 1, 1) := by decide +kernel
theorem dX3_mayMove_10 : decode cX3_mayMove 10 = .ok (.if_icmp .ne 19, 3) := by decide +kernel
theorem dX3_mayMove_13 : decode cX3_mayMove 13 = .ok (.aload_n 0, 1) := by decide +kernel
theorem dX3_mayMove_14 : decode cX3_mayMove 14 = .ok (.getfield 32, 3) := by decide +kernel
theorem dX3_mayMove_17 : decode cX3_mayMove 17 = .ok (.getfield 100, 3) := by decide +kernel
theorem dX3_mayMove_20 : decode cX3_mayMove 20 = .ok (.iload_n 1, 1) := by decide +kernel
theorem dX3_mayMove_21 : decode cX3_mayMove 21 = .ok (.iaload, 1) := by decide +kernel
theorem dX3_mayMove_22 : decode cX3_mayMove 22 = .ok (.ifCond .ne 7, 3) := by decide +kernel
theorem dX3_mayMove_25 : decode cX3_mayMove 25 = .ok (.iconst 1, 1) := by decide +kernel
theorem dX3_mayMove_26 : decode cX3_mayMove 26 = .ok (.goto 4, 3) := by decide +kernel
theorem dX3_mayMove_29 : decode cX3_mayMove 29 = .ok (.iconst 0, 1) := by decide +kernel
theorem dX3_mayMove_30 : decode cX3_mayMove 30 = .ok (.ireturn, 1) := by decide +kernel
theorem dX3_movedLow_0 : decode cX3_movedLow 0 = .ok (.aload_n 0, 1) := by decide +kernel
theorem dX3_movedLow_1 : decode cX3_movedLow 1 = .ok (.getfield 32, 3) := by decide +kernel
theorem dX3_movedLow_4 : decode cX3_movedLow 4 = .ok (.getfield 94, 3) := by decide +kernel
theorem dX3_movedLow_7 : decode cX3_movedLow 7 = .ok (.iload_n 1, 1) := by decide +kernel
theorem dX3_movedLow_8 : decode cX3_movedLow 8 = .ok (.iaload, 1) := by decide +kernel
theorem dX3_movedLow_9 : decode cX3_movedLow 9 = .ok (.istore_n 2, 1) := by decide +kernel
theorem dX3_movedLow_10 : decode cX3_movedLow 10 = .ok (.aload_n 0, 1) := by decide +kernel
theorem dX3_movedLow_11 : decode cX3_movedLow 11 = .ok (.getfield 32, 3) := by decide +kernel
theorem dX3_movedLow_14 : decode cX3_movedLow 14 = .ok (.getfield 82, 3) := by decide +kernel
theorem dX3_movedLow_17 : decode cX3_movedLow 17 = .ok (.iload_n 1, 1) := by decide +kernel
theorem dX3_movedLow_18 : decode cX3_movedLow 18 = .ok (.iaload, 1) := by decide +kernel
theorem dX3_movedLow_19 : decode cX3_movedLow 19 = .ok (.istore_n 3, 1) := by decide +kernel
theorem dX3_movedLow_20 : decode cX3_movedLow 20 = .ok (.aload_n 0, 1) := by decide +kernel
theorem dX3_movedLow_21 : decode cX3_movedLow 21 = .ok (.getfield 32, 3) := by decide +kernel
theorem dX3_movedLow_24 : decode cX3_movedLow 24 = .ok (.getfield 85, 3) := by decide +kernel
theorem dX3_movedLow_27 : decode cX3_movedLow 27 = .ok (.iload_n 1, 1) := by decide +kernel
theorem dX3_movedLow_28 : decode cX3_movedLow 28 = .ok (.iaload, 1) := by decide +kernel
theorem dX3_movedLow_29 : decode cX3_movedLow 29 = .ok (.istore 4, 2) := by decide +kernel
theorem dX3_movedLow_31 : decode cX3_movedLow 31 = .ok (.aload_n 0, 1) := by decide +kernel
theorem dX3_movedLow_32 : decode cX3_movedLow 32 = .ok (.getfield 18, 3) := by decide +kernel
theorem dX3_movedLow_35 : decode cX3_movedLow 35 = .ok (.getfield 148, 3) := by decide +kernel
theorem dX3_movedLow_38 : decode cX3_movedLow 38 = .ok (.iload_n 2, 1) := by decide +kernel
theorem dX3_movedLow_39 : decode cX3_movedLow 39 = .ok (.iaload, 1) := by decide +kernel
theorem dX3_movedLow_40 : decode cX3_movedLow 40 = .ok (.ifCond .ne 42, 3) := by decide +kernel
theorem dX3_movedLow_43 : decode cX3_movedLow 43 = .ok (.iload 4, 2) := by decide +kernel
theorem dX3_movedLow_45 : decode cX3_movedLow 45 = .ok (.aload_n 0, 1) := by decide +kernel
theorem dX3_movedLow_46 : decode cX3_movedLow 46 = .ok (.getfield 18, 3) := by decide +kernel
theorem dX3_movedLow_49 : decode cX3_movedLow 49 = .ok (.getfield 154, 3) := by decide +kernel
theorem dX3_movedLow_52 : decode cX3_movedLow 52 = .ok (.iload_n 2, 1) := by decide +kernel
theorem dX3_movedLow_53 : decode cX3_movedLow 53 = .ok (.iaload, 1) := by decide +kernel
theorem dX3_movedLow_54 : decode cX3_movedLow 54 = .ok (.if_icmp .le 25, 3) := by decide +kernel
theorem dX3_movedLow_57 : decode cX3_movedLow 57 = .ok (.aload_n 0, 1) := by decide +kernel
theorem dX3_movedLow_58 : decode cX3_movedLow 58 = .ok (.getfield 25, 3) := by decide +kernel
theorem dX3_movedLow_61 : decode cX3_movedLow 61 = .ok (.getfield 151, 3) := by decide +kernel
theorem dX3_movedLow_64 : decode cX3_movedLow 64 = .ok (.iload 4, 2) := by decide +kernel
theorem dX3_movedLow_66 : decode cX3_movedLow 66 = .ok (.iconst 1, 1) := by decide +kernel
theorem dX3_movedLow_67 : decode cX3_movedLow 67 = .ok (.isub, 1) := by decide +kernel
theorem dX3_movedLow_68 : decode cX3_movedLow 68 = .ok (.iaload, 1) := by decide +kernel
theorem dX3_movedLow_69 : decode cX3_movedLow 69 = .ok (.iconst (-1), 1) := by decide +kernel
theorem dX3_movedLow_70 : decode cX3_movedLow 70 = .ok (.if_icmp .ne 9, 3) := by decide +kernel
theorem dX3_movedLow_73 : decode cX3_movedLow 73 = .ok (.iinc 4 (-1), 3) := by decide +kernel
theorem dX3_movedLow_76 : decode cX3_movedLow 76 = .ok (.goto (-33), 3) := by decide +kernel
theorem dX3_movedLow_79 : decode cX3_movedLow 79 = .ok (.iload 4, 2) := by decide +kernel
theorem dX3_movedLow_81 : decode cX3_movedLow 81 = .ok (.ireturn, 1) := by decide +kernel
theorem dX3_movedLow_82 : decode cX3_movedLow 82 = .ok (.aload_n 0, 1) := by decide +kernel
theorem dX3_movedLow_83 : decode cX3_movedLow 83 = .ok (.getfield 18, 3) := by decide +kernel
theorem dX3_movedLow_86 : decode cX3_movedLow 86 = .ok (.iload_n 2, 1) := by decide +kernel
theorem dX3_movedLow_87 : decode cX3_movedLow 87 = .ok (.invokevirtual 117, 3) := by decide +kernel
theorem dX3_movedLow_90 : decode cX3_movedLow 90 = .ok (.iload_n 3, 1) := by decide +kernel
theorem dX3_movedLow_91 : decode cX3_movedLow 91 = .ok (.isub, 1) := by decide +kernel
theorem dX3_movedLow_92 : decode cX3_movedLow 92 = .ok (.istore 5, 2) := by decide +kernel
theorem dX3_movedLow_94 : decode cX3_movedLow 94 = .ok (.iload 4, 2) := by decide +kernel
theorem dX3_movedLow_96 : decode cX3_movedLow 96 = .ok (.iload 5, 2) := by decide +kernel
theorem dX3_movedLow_98 : decode cX3_movedLow 98 = .ok (.if_icmp .ge 25, 3) := by decide +kernel
theorem dX3_movedLow_101 : decode cX3_movedLow 101 = .ok (.aload_n 0, 1) := by decide +kernel
theorem dX3_movedLow_102 : decode cX3_movedLow 102 = .ok (.getfield 25, 3) := by decide +kernel
theorem dX3_movedLow_105 : decode cX3_movedLow 105 = .ok (.getfield 151, 3) := by decide +kernel
theorem dX3_movedLow_108 : decode cX3_movedLow 108 = .ok (.iload 4, 2) := by decide +kernel
theorem dX3_movedLow_110 : decode cX3_movedLow 110 = .ok (.iload_n 3, 1) := by decide +kernel
theorem dX3_movedLow_111 : decode cX3_movedLow 111 = .ok (.iadd, 1) := by decide +kernel
theorem dX3_movedLow_112 : decode cX3_movedLow 112 = .ok (.iaload, 1) := by decide +kernel
theorem dX3_movedLow_113 : decode cX3_movedLow 113 = .ok (.iconst (-1), 1) := by decide +kernel
theorem dX3_movedLow_114 : decode cX3_movedLow 114 = .ok (.if_icmp .ne 9, 3) := by decide +kernel
theorem dX3_movedLow_117 : decode cX3_movedLow 117 = .ok (.iinc 4 1, 3) := by decide +kernel
theorem dX3_movedLow_120 : decode cX3_movedLow 120 = .ok (.goto (-26), 3) := by decide +kernel
theorem dX3_movedLow_123 : decode cX3_movedLow 123 = .ok (.iload 4, 2) := by decide +kernel
theorem dX3_movedLow_125 : decode cX3_movedLow 125 = .ok (.ireturn, 1) := by decide +kernel
theorem dX3_tagBearer_0 : decode cX3_tagBearer 0 = .ok (.iconst 0, 1) := by decide +kernel
theorem dX3_tagBearer_1 : decode cX3_tagBearer 1 = .ok (.istore_n 2, 1) := by decide +kernel
theorem dX3_tagBearer_2 : decode cX3_tagBearer 2 = .ok (.iload_n 2, 1) := by decide +kernel
theorem dX3_tagBearer_3 : decode cX3_tagBearer 3 = .ok (.aload_n 0, 1) := by decide +kernel
theorem dX3_tagBearer_4 : decode cX3_tagBearer 4 = .ok (.getfield 39, 3) := by decide +kernel
theorem dX3_tagBearer_7 : decode cX3_tagBearer 7 = .ok (.getfield 159, 3) := by decide +kernel
theorem dX3_tagBearer_10 : decode cX3_tagBearer 10 = .ok (.if_icmp .ge 38, 3) := by decide +kernel
theorem dX3_tagBearer_13 : decode cX3_tagBearer 13 = .ok (.aload_n 0, 1) := by decide +kernel
theorem dX3_tagBearer_14 : decode cX3_tagBearer 14 = .ok (.getfield 39, 3) := by decide +kernel
theorem dX3_tagBearer_17 : decode cX3_tagBearer 17 = .ok (.iload_n 2, 1) := by decide +kernel
theorem dX3_tagBearer_18 : decode cX3_tagBearer 18 = .ok (.invokevirtual 162, 3) := by decide +kernel
theorem dX3_tagBearer_21 : decode cX3_tagBearer 21 = .ok (.istore_n 3, 1) := by decide +kernel
theorem dX3_tagBearer_22 : decode cX3_tagBearer 22 = .ok (.iload_n 3, 1) := by decide +kernel
theorem dX3_tagBearer_23 : decode cX3_tagBearer 23 = .ok (.iconst (-1), 1) := by decide +kernel
theorem dX3_tagBearer_24 : decode cX3_tagBearer 24 = .ok (.if_icmp .eq 18, 3) := by decide +kernel
theorem dX3_tagBearer_27 : decode cX3_tagBearer 27 = .ok (.aload_n 0, 1) := by decide +kernel
theorem dX3_tagBearer_28 : decode cX3_tagBearer 28 = .ok (.getfield 32, 3) := by decide +kernel
theorem dX3_tagBearer_31 : decode cX3_tagBearer 31 = .ok (.getfield 103, 3) := by decide +kernel
theorem dX3_tagBearer_34 : decode cX3_tagBearer 34 = .ok (.iload_n 3, 1) := by decide +kernel
theorem dX3_tagBearer_35 : decode cX3_tagBearer 35 = .ok (.iaload, 1) := by decide +kernel
theorem dX3_tagBearer_36 : decode cX3_tagBearer 36 = .ok (.iload_n 1, 1) := by decide +kernel
theorem dX3_tagBearer_37 : decode cX3_tagBearer 37 = .ok (.if_icmp .ne 5, 3) := by decide +kernel
theorem dX3_tagBearer_40 : decode cX3_tagBearer 40 = .ok (.iload_n 3, 1) := by decide +kernel
theorem dX3_tagBearer_41 : decode cX3_tagBearer 41 = .ok (.ireturn, 1) := by decide +kernel
theorem dX3_tagBearer_42 : decode cX3_tagBearer 42 = .ok (.iinc 2 1, 3) := by decide +kernel
theorem dX3_tagBearer_45 : decode cX3_tagBearer 45 = .ok (.goto (-43), 3) := by decide +kernel
theorem dX3_tagBearer_48 : decode cX3_tagBearer 48 = .ok (.iconst (-1), 1) := by decide +kernel
theorem dX3_tagBearer_49 : decode cX3_tagBearer 49 = .ok (.ireturn, 1) := by decide +kernel
theorem dX3_giveTag_0 : decode cX3_giveTag 0 = .ok (.aload_n 0, 1) := by decide +kernel
theorem dX3_giveTag_1 : decode cX3_giveTag 1 = .ok (.getfield 39, 3) := by decide +kernel
theorem dX3_giveTag_4 : decode cX3_giveTag 4 = .ok (.iload_n 1, 1) := by decide +kernel
theorem dX3_giveTag_5 : decode cX3_giveTag 5 = .ok (.invokevirtual 113, 3) := by decide +kernel
theorem dX3_giveTag_8 : decode cX3_giveTag 8 = .ok (.aload_n 0, 1) := by decide +kernel
theorem dX3_giveTag_9 : decode cX3_giveTag 9 = .ok (.getfield 39, 3) := by decide +kernel
theorem dX3_giveTag_12 : decode cX3_giveTag 12 = .ok (.iload_n 1, 1) := by decide +kernel
theorem dX3_giveTag_13 : decode cX3_giveTag 13 = .ok (.invokevirtual 164, 3) := by decide +kernel
theorem dX3_giveTag_16 : decode cX3_giveTag 16 = .ok (.aload_n 0, 1) := by decide +kernel
theorem dX3_giveTag_17 : decode cX3_giveTag 17 = .ok (.getfield 32, 3) := by decide +kernel
theorem dX3_giveTag_20 : decode cX3_giveTag 20 = .ok (.getfield 103, 3) := by decide +kernel
theorem dX3_giveTag_23 : decode cX3_giveTag 23 = .ok (.iload_n 1, 1) := by decide +kernel
theorem dX3_giveTag_24 : decode cX3_giveTag 24 = .ok (.iload_n 2, 1) := by decide +kernel
theorem dX3_giveTag_25 : decode cX3_giveTag 25 = .ok (.iastore, 1) := by decide +kernel
theorem dX3_giveTag_26 : decode cX3_giveTag 26 = .ok (.return_, 1) := by decide +kernel
theorem dX3_seenSince_0 : decode cX3_seenSince 0 = .ok (.aload_n 0, 1) := by decide +kernel
theorem dX3_seenSince_1 : decode cX3_seenSince 1 = .ok (.getfield 32, 3) := by decide +kernel
theorem dX3_seenSince_4 : decode cX3_seenSince 4 = .ok (.getfield 91, 3) := by decide +kernel
theorem dX3_seenSince_7 : decode cX3_seenSince 7 = .ok (.iload_n 1, 1) := by decide +kernel
theorem dX3_seenSince_8 : decode cX3_seenSince 8 = .ok (.iaload, 1) := by decide +kernel
theorem dX3_seenSince_9 : decode cX3_seenSince 9 = .ok (.iconst 1, 1) := by decide +kernel
theorem dX3_seenSince_10 : decode cX3_seenSince 10 = .ok (.if_icmp .eq 16, 3) := by decide +kernel
theorem dX3_seenSince_13 : decode cX3_seenSince 13 = .ok (.aload_n 0, 1) := by decide +kernel
theorem dX3_seenSince_14 : decode cX3_seenSince 14 = .ok (.getfield 32, 3) := by decide +kernel
theorem dX3_seenSince_17 : decode cX3_seenSince 17 = .ok (.getfield 110, 3) := by decide +kernel
theorem dX3_seenSince_20 : decode cX3_seenSince 20 = .ok (.iload_n 1, 1) := by decide +kernel
theorem dX3_seenSince_21 : decode cX3_seenSince 21 = .ok (.iaload, 1) := by decide +kernel
theorem dX3_seenSince_22 : decode cX3_seenSince 22 = .ok (.iload_n 2, 1) := by decide +kernel
theorem dX3_seenSince_23 : decode cX3_seenSince 23 = .ok (.if_icmp .lt 7, 3) := by decide +kernel
theorem dX3_seenSince_26 : decode cX3_seenSince 26 = .ok (.iconst 1, 1) := by decide +kernel
theorem dX3_seenSince_27 : decode cX3_seenSince 27 = .ok (.goto 4, 3) := by decide +kernel
theorem dX3_seenSince_30 : decode cX3_seenSince 30 = .ok (.iconst 0, 1) := by decide +kernel
theorem dX3_seenSince_31 : decode cX3_seenSince 31 = .ok (.ireturn, 1) := by decide +kernel
theorem dX3_isFreeable_0 : decode cX3_isFreeable 0 = .ok (.aload_n 0, 1) := by decide +kernel
theorem dX3_isFreeable_1 : decode cX3_isFreeable 1 = .ok (.getfield 32, 3) := by decide +kernel
theorem dX3_isFreeable_4 : decode cX3_isFreeable 4 = .ok (.getfield 91, 3) := by decide +kernel
theorem dX3_isFreeable_7 : decode cX3_isFreeable 7 = .ok (.iload_n 1, 1) := by decide +kernel
theorem dX3_isFreeable_8 : decode cX3_isFreeable 8 = .ok (.iaload, 1) := by decide +kernel
theorem dX3_isFreeable_9 : decode cX3_isFreeable 9 = .ok (.iconst 2, 1) := by decide +kernel
theorem dX3_isFreeable_10 : decode cX3_isFreeable 10 = .ok (.if_icmp .eq 5, 3) := by decide +kernel
theorem dX3_isFreeable_13 : decode cX3_isFreeable 13 = .ok (.iconst 0, 1) := by decide +kernel
theorem dX3_isFreeable_14 : decode cX3_isFreeable 14 = .ok (.ireturn, 1) := by decide +kernel
theorem dX3_isFreeable_15 : decode cX3_isFreeable 15 = .ok (.iconst 0, 1) := by decide +kernel
theorem dX3_isFreeable_16 : decode cX3_isFreeable 16 = .ok (.istore_n 2, 1) := by decide +kernel
theorem dX3_isFreeable_17 : decode cX3_isFreeable 17 = .ok (.iload_n 2, 1) := by decide +kernel
theorem dX3_isFreeable_18 : decode cX3_isFreeable 18 = .ok (.bipush 6, 2) := by decide +kernel
theorem dX3_isFreeable_20 : decode cX3_isFreeable 20 = .ok (.if_icmp .ge 39, 3) := by decide +kernel
theorem dX3_isFreeable_23 : decode cX3_isFreeable 23 = .ok (.aload_n 0, 1) := by decide +kernel
theorem dX3_isFreeable_24 : decode cX3_isFreeable 24 = .ok (.getfield 46, 3) := by decide +kernel
theorem dX3_isFreeable_27 : decode cX3_isFreeable 27 = .ok (.iload_n 2, 1) := by decide +kernel
theorem dX3_isFreeable_28 : decode cX3_isFreeable 28 = .ok (.iaload, 1) := by decide +kernel
theorem dX3_isFreeable_29 : decode cX3_isFreeable 29 = .ok (.iconst (-1), 1) := by decide +kernel
theorem dX3_isFreeable_30 : decode cX3_isFreeable 30 = .ok (.if_icmp .eq 23, 3) := by decide +kernel
theorem dX3_isFreeable_33 : decode cX3_isFreeable 33 = .ok (.aload_n 0, 1) := by decide +kernel
theorem dX3_isFreeable_34 : decode cX3_isFreeable 34 = .ok (.getfield 46, 3) := by decide +kernel
theorem dX3_isFreeable_37 : decode cX3_isFreeable 37 = .ok (.iload_n 2, 1) := by decide +kernel
theorem dX3_isFreeable_38 : decode cX3_isFreeable 38 = .ok (.iaload, 1) := by decide +kernel
theorem dX3_isFreeable_39 : decode cX3_isFreeable 39 = .ok (.aload_n 0, 1) := by decide +kernel
theorem dX3_isFreeable_40 : decode cX3_isFreeable 40 = .ok (.getfield 32, 3) := by decide +kernel
theorem dX3_isFreeable_43 : decode cX3_isFreeable 43 = .ok (.getfield 110, 3) := by decide +kernel
theorem dX3_isFreeable_46 : decode cX3_isFreeable 46 = .ok (.iload_n 1, 1) := by decide +kernel
theorem dX3_isFreeable_47 : decode cX3_isFreeable 47 = .ok (.iaload, 1) := by decide +kernel
theorem dX3_isFreeable_48 : decode cX3_isFreeable 48 = .ok (.if_icmp .gt 5, 3) := by decide +kernel
theorem dX3_isFreeable_51 : decode cX3_isFreeable 51 = .ok (.iconst 0, 1) := by decide +kernel
theorem dX3_isFreeable_52 : decode cX3_isFreeable 52 = .ok (.ireturn, 1) := by decide +kernel
theorem dX3_isFreeable_53 : decode cX3_isFreeable 53 = .ok (.iinc 2 1, 3) := by decide +kernel
theorem dX3_isFreeable_56 : decode cX3_isFreeable 56 = .ok (.goto (-39), 3) := by decide +kernel
theorem dX3_isFreeable_59 : decode cX3_isFreeable 59 = .ok (.iconst 1, 1) := by decide +kernel
theorem dX3_isFreeable_60 : decode cX3_isFreeable 60 = .ok (.ireturn, 1) := by decide +kernel
theorem dX3_freeable_0 : decode cX3_freeable 0 = .ok (.iconst 0, 1) := by decide +kernel
theorem dX3_freeable_1 : decode cX3_freeable 1 = .ok (.istore_n 1, 1) := by decide +kernel
theorem dX3_freeable_2 : decode cX3_freeable 2 = .ok (.iconst 0, 1) := by decide +kernel
theorem dX3_freeable_3 : decode cX3_freeable 3 = .ok (.istore_n 2, 1) := by decide +kernel
theorem dX3_freeable_4 : decode cX3_freeable 4 = .ok (.iload_n 2, 1) := by decide +kernel
theorem dX3_freeable_5 : decode cX3_freeable 5 = .ok (.bipush 30, 2) := by decide +kernel
theorem dX3_freeable_7 : decode cX3_freeable 7 = .ok (.if_icmp .ge 20, 3) := by decide +kernel
theorem dX3_freeable_10 : decode cX3_freeable 10 = .ok (.aload_n 0, 1) := by decide +kernel
theorem dX3_freeable_11 : decode cX3_freeable 11 = .ok (.iload_n 2, 1) := by decide +kernel
theorem dX3_freeable_12 : decode cX3_freeable 12 = .ok (.invokevirtual 167, 3) := by decide +kernel
theorem dX3_freeable_15 : decode cX3_freeable 15 = .ok (.ifCond .eq 6, 3) := by decide +kernel
theorem dX3_freeable_18 : decode cX3_freeable 18 = .ok (.iinc 1 1, 3) := by decide +kernel
theorem dX3_freeable_21 : decode cX3_freeable 21 = .ok (.iinc 2 1, 3) := by decide +kernel
theorem dX3_freeable_24 : decode cX3_freeable 24 = .ok (.goto (-20), 3) := by decide +kernel
theorem dX3_freeable_27 : decode cX3_freeable 27 = .ok (.iload_n 1, 1) := by decide +kernel
theorem dX3_freeable_28 : decode cX3_freeable 28 = .ok (.ireturn, 1) := by decide +kernel
theorem dX3_dropFreeable_0 : decode cX3_dropFreeable 0 = .ok (.iconst 0, 1) := by decide +kernel
theorem dX3_dropFreeable_1 : decode cX3_dropFreeable 1 = .ok (.istore_n 1, 1) := by decide +kernel
theorem dX3_dropFreeable_2 : decode cX3_dropFreeable 2 = .ok (.iconst 0, 1) := by decide +kernel
theorem dX3_dropFreeable_3 : decode cX3_dropFreeable 3 = .ok (.istore_n 2, 1) := by decide +kernel
theorem dX3_dropFreeable_4 : decode cX3_dropFreeable 4 = .ok (.iload_n 2, 1) := by decide +kernel
theorem dX3_dropFreeable_5 : decode cX3_dropFreeable 5 = .ok (.bipush 30, 2) := by decide +kernel
theorem dX3_dropFreeable_7 : decode cX3_dropFreeable 7 = .ok (.if_icmp .ge 58, 3) := by decide +kernel
theorem dX3_dropFreeable_10 : decode cX3_dropFreeable 10 = .ok (.aload_n 0, 1) := by decide +kernel
theorem dX3_dropFreeable_11 : decode cX3_dropFreeable 11 = .ok (.iload_n 2, 1) := by decide +kernel
theorem dX3_dropFreeable_12 : decode cX3_dropFreeable 12 = .ok (.invokevirtual 167, 3) := by decide +kernel
theorem dX3_dropFreeable_15 : decode cX3_dropFreeable 15 = .ok (.ifCond .ne 6, 3) := by decide +kernel
theorem dX3_dropFreeable_18 : decode cX3_dropFreeable 18 = .ok (.goto 41, 3) := by decide +kernel
theorem dX3_dropFreeable_21 : decode cX3_dropFreeable 21 = .ok (.aload_n 0, 1) := by decide +kernel
theorem dX3_dropFreeable_22 : decode cX3_dropFreeable 22 = .ok (.getfield 25, 3) := by decide +kernel
theorem dX3_dropFreeable_25 : decode cX3_dropFreeable 25 = .ok (.aload_n 0, 1) := by decide +kernel
theorem dX3_dropFreeable_26 : decode cX3_dropFreeable 26 = .ok (.getfield 32, 3) := by decide +kernel
theorem dX3_dropFreeable_29 : decode cX3_dropFreeable 29 = .ok (.getfield 85, 3) := by decide +kernel
theorem dX3_dropFreeable_32 : decode cX3_dropFreeable 32 = .ok (.iload_n 2, 1) := by decide +kernel
theorem dX3_dropFreeable_33 : decode cX3_dropFreeable 33 = .ok (.iaload, 1) := by decide +kernel
theorem dX3_dropFreeable_34 : decode cX3_dropFreeable 34 = .ok (.aload_n 0, 1) := by decide +kernel
theorem dX3_dropFreeable_35 : decode cX3_dropFreeable 35 = .ok (.getfield 32, 3) := by decide +kernel
theorem dX3_dropFreeable_38 : decode cX3_dropFreeable 38 = .ok (.getfield 82, 3) := by decide +kernel
theorem dX3_dropFreeable_41 : decode cX3_dropFreeable 41 = .ok (.iload_n 2, 1) := by decide +kernel
theorem dX3_dropFreeable_42 : decode cX3_dropFreeable 42 = .ok (.iaload, 1) := by decide +kernel
theorem dX3_dropFreeable_43 : decode cX3_dropFreeable 43 = .ok (.invokevirtual 138, 3) := by decide +kernel
theorem dX3_dropFreeable_46 : decode cX3_dropFreeable 46 = .ok (.aload_n 0, 1) := by decide +kernel
theorem dX3_dropFreeable_47 : decode cX3_dropFreeable 47 = .ok (.getfield 32, 3) := by decide +kernel
theorem dX3_dropFreeable_50 : decode cX3_dropFreeable 50 = .ok (.getfield 91, 3) := by decide +kernel
theorem dX3_dropFreeable_53 : decode cX3_dropFreeable 53 = .ok (.iload_n 2, 1) := by decide +kernel
theorem dX3_dropFreeable_54 : decode cX3_dropFreeable 54 = .ok (.iconst 0, 1) := by decide +kernel
theorem dX3_dropFreeable_55 : decode cX3_dropFreeable 55 = .ok (.iastore, 1) := by decide +kernel
theorem dX3_dropFreeable_56 : decode cX3_dropFreeable 56 = .ok (.iinc 1 1, 3) := by decide +kernel
theorem dX3_dropFreeable_59 : decode cX3_dropFreeable 59 = .ok (.iinc 2 1, 3) := by decide +kernel
theorem dX3_dropFreeable_62 : decode cX3_dropFreeable 62 = .ok (.goto (-58), 3) := by decide +kernel
theorem dX3_dropFreeable_65 : decode cX3_dropFreeable 65 = .ok (.iload_n 1, 1) := by decide +kernel
theorem dX3_dropFreeable_66 : decode cX3_dropFreeable 66 = .ok (.ireturn, 1) := by decide +kernel
theorem dX3_earliestReader_0 : decode cX3_earliestReader 0 = .ok (.iconst (-1), 1) := by decide +kernel
theorem dX3_earliestReader_1 : decode cX3_earliestReader 1 = .ok (.istore_n 1, 1) := by decide +kernel
theorem dX3_earliestReader_2 : decode cX3_earliestReader 2 = .ok (.iconst 0, 1) := by decide +kernel
theorem dX3_earliestReader_3 : decode cX3_earliestReader 3 = .ok (.istore_n 2, 1) := by decide +kernel
theorem dX3_earliestReader_4 : decode cX3_earliestReader 4 = .ok (.iload_n 2, 1) := by decide +kernel
theorem dX3_earliestReader_5 : decode cX3_earliestReader 5 = .ok (.bipush 6, 2) := by decide +kernel
theorem dX3_earliestReader_7 : decode cX3_earliestReader 7 = .ok (.if_icmp .ge 44, 3) := by decide +kernel
theorem dX3_earliestReader_10 : decode cX3_earliestReader 10 = .ok (.aload_n 0, 1) := by decide +kernel
theorem dX3_earliestReader_11 : decode cX3_earliestReader 11 = .ok (.getfield 46, 3) := by decide +kernel
theorem dX3_earliestReader_14 : decode cX3_earliestReader 14 = .ok (.iload_n 2, 1) := by decide +kernel
theorem dX3_earliestReader_15 : decode cX3_earliestReader 15 = .ok (.iaload, 1) := by decide +kernel
theorem dX3_earliestReader_16 : decode cX3_earliestReader 16 = .ok (.iconst (-1), 1) := by decide +kernel
theorem dX3_earliestReader_17 : decode cX3_earliestReader 17 = .ok (.if_icmp .ne 6, 3) := by decide +kernel
theorem dX3_earliestReader_20 : decode cX3_earliestReader 20 = .ok (.goto 25, 3) := by decide +kernel
theorem dX3_earliestReader_23 : decode cX3_earliestReader 23 = .ok (.iload_n 1, 1) := by decide +kernel
theorem dX3_earliestReader_24 : decode cX3_earliestReader 24 = .ok (.iconst (-1), 1) := by decide +kernel
theorem dX3_earliestReader_25 : decode cX3_earliestReader 25 = .ok (.if_icmp .eq 18, 3) := by decide +kernel
theorem dX3_earliestReader_28 : decode cX3_earliestReader 28 = .ok (.aload_n 0, 1) := by decide +kernel
theorem dX3_earliestReader_29 : decode cX3_earliestReader 29 = .ok (.getfield 46, 3) := by decide +kernel
theorem dX3_earliestReader_32 : decode cX3_earliestReader 32 = .ok (.iload_n 2, 1) := by decide +kernel
theorem dX3_earliestReader_33 : decode cX3_earliestReader 33 = .ok (.iaload, 1) := by decide +kernel
theorem dX3_earliestReader_34 : decode cX3_earliestReader 34 = .ok (.aload_n 0, 1) := by decide +kernel
theorem dX3_earliestReader_35 : decode cX3_earliestReader 35 = .ok (.getfield 46, 3) := by decide +kernel
theorem dX3_earliestReader_38 : decode cX3_earliestReader 38 = .ok (.iload_n 1, 1) := by decide +kernel
theorem dX3_earliestReader_39 : decode cX3_earliestReader 39 = .ok (.iaload, 1) := by decide +kernel
theorem dX3_earliestReader_40 : decode cX3_earliestReader 40 = .ok (.if_icmp .ge 5, 3) := by decide +kernel
theorem dX3_earliestReader_43 : decode cX3_earliestReader 43 = .ok (.iload_n 2, 1) := by decide +kernel
theorem dX3_earliestReader_44 : decode cX3_earliestReader 44 = .ok (.istore_n 1, 1) := by decide +kernel
theorem dX3_earliestReader_45 : decode cX3_earliestReader 45 = .ok (.iinc 2 1, 3) := by decide +kernel
theorem dX3_earliestReader_48 : decode cX3_earliestReader 48 = .ok (.goto (-44), 3) := by decide +kernel
theorem dX3_earliestReader_51 : decode cX3_earliestReader 51 = .ok (.iload_n 1, 1) := by decide +kernel
theorem dX3_earliestReader_52 : decode cX3_earliestReader 52 = .ok (.ireturn, 1) := by decide +kernel
theorem dX3_readersIn_0 : decode cX3_readersIn 0 = .ok (.iconst 0, 1) := by decide +kernel
theorem dX3_readersIn_1 : decode cX3_readersIn 1 = .ok (.istore_n 1, 1) := by decide +kernel
theorem dX3_readersIn_2 : decode cX3_readersIn 2 = .ok (.iconst 0, 1) := by decide +kernel
theorem dX3_readersIn_3 : decode cX3_readersIn 3 = .ok (.istore_n 2, 1) := by decide +kernel
theorem dX3_readersIn_4 : decode cX3_readersIn 4 = .ok (.iload_n 2, 1) := by decide +kernel
theorem dX3_readersIn_5 : decode cX3_readersIn 5 = .ok (.bipush 6, 2) := by decide +kernel
theorem dX3_readersIn_7 : decode cX3_readersIn 7 = .ok (.if_icmp .ge 25, 3) := by decide +kernel
theorem dX3_readersIn_10 : decode cX3_readersIn 10 = .ok (.aload_n 0, 1) := by decide +kernel
theorem dX3_readersIn_11 : decode cX3_readersIn 11 = .ok (.getfield 46, 3) := by decide +kernel
theorem dX3_readersIn_14 : decode cX3_readersIn 14 = .ok (.iload_n 2, 1) := by decide +kernel
theorem dX3_readersIn_15 : decode cX3_readersIn 15 = .ok (.iaload, 1) := by decide +kernel
theorem dX3_readersIn_16 : decode cX3_readersIn 16 = .ok (.iconst (-1), 1) := by decide +kernel
theorem dX3_readersIn_17 : decode cX3_readersIn 17 = .ok (.if_icmp .eq 9, 3) := by decide +kernel
theorem dX3_readersIn_20 : decode cX3_readersIn 20 = .ok (.iload_n 1, 1) := by decide +kernel
theorem dX3_readersIn_21 : decode cX3_readersIn 21 = .ok (.iconst 1, 1) := by decide +kernel
theorem dX3_readersIn_22 : decode cX3_readersIn 22 = .ok (.iload_n 2, 1) := by decide +kernel
theorem dX3_readersIn_23 : decode cX3_readersIn 23 = .ok (.ishl, 1) := by decide +kernel
theorem dX3_readersIn_24 : decode cX3_readersIn 24 = .ok (.ior, 1) := by decide +kernel
theorem dX3_readersIn_25 : decode cX3_readersIn 25 = .ok (.istore_n 1, 1) := by decide +kernel
theorem dX3_readersIn_26 : decode cX3_readersIn 26 = .ok (.iinc 2 1, 3) := by decide +kernel
theorem dX3_readersIn_29 : decode cX3_readersIn 29 = .ok (.goto (-25), 3) := by decide +kernel
theorem dX3_readersIn_32 : decode cX3_readersIn 32 = .ok (.iload_n 1, 1) := by decide +kernel
theorem dX3_readersIn_33 : decode cX3_readersIn 33 = .ok (.ireturn, 1) := by decide +kernel
theorem dX4_init_0 : decode cX4_init 0 = .ok (.aload_n 0, 1) := by decide +kernel
theorem dX4_init_1 : decode cX4_init 1 = .ok (.invokespecial 3, 3) := by decide +kernel
theorem dX4_init_4 : decode cX4_init 4 = .ok (.aload_n 0, 1) := by decide +kernel
theorem dX4_init_5 : decode cX4_init 5 = .ok (.bipush 60, 2) := by decide +kernel
theorem dX4_init_7 : decode cX4_init 7 = .ok (.newarray .int, 2) := by decide +kernel
theorem dX4_init_9 : decode cX4_init 9 = .ok (.putfield 9, 3) := by decide +kernel
theorem dX4_init_12 : decode cX4_init 12 = .ok (.aload_n 0, 1) := by decide +kernel
theorem dX4_init_13 : decode cX4_init 13 = .ok (.bipush 60, 2) := by decide +kernel
theorem dX4_init_15 : decode cX4_init 15 = .ok (.newarray .int, 2) := by decide +kernel
theorem dX4_init_17 : decode cX4_init 17 = .ok (.putfield 15, 3) := by decide +kernel
theorem dX4_init_20 : decode cX4_init 20 = .ok (.return_, 1) := by decide +kernel
theorem dX4_putOn_0 : decode cX4_putOn 0 = .ok (.aload_n 0, 1) := by decide +kernel
theorem dX4_putOn_1 : decode cX4_putOn 1 = .ok (.getfield 18, 3) := by decide +kernel
theorem dX4_putOn_4 : decode cX4_putOn 4 = .ok (.bipush 60, 2) := by decide +kernel
theorem dX4_putOn_6 : decode cX4_putOn 6 = .ok (.if_icmp .lt 5, 3) := by decide +kernel
theorem dX4_putOn_9 : decode cX4_putOn 9 = .ok (.iconst 0, 1) := by decide +kernel
theorem dX4_putOn_10 : decode cX4_putOn 10 = .ok (.ireturn, 1) := by decide +kernel
theorem dX4_putOn_11 : decode cX4_putOn 11 = .ok (.aload_n 0, 1) := by decide +kernel
theorem dX4_putOn_12 : decode cX4_putOn 12 = .ok (.getfield 9, 3) := by decide +kernel
theorem dX4_putOn_15 : decode cX4_putOn 15 = .ok (.aload_n 0, 1) := by decide +kernel
theorem dX4_putOn_16 : decode cX4_putOn 16 = .ok (.getfield 18, 3) := by decide +kernel
theorem dX4_putOn_19 : decode cX4_putOn 19 = .ok (.iload_n 2, 1) := by decide +kernel
theorem dX4_putOn_20 : decode cX4_putOn 20 = .ok (.iastore, 1) := by decide +kernel
theorem dX4_putOn_21 : decode cX4_putOn 21 = .ok (.aload_n 0, 1) := by decide +kernel
theorem dX4_putOn_22 : decode cX4_putOn 22 = .ok (.getfield 15, 3) := by decide +kernel
theorem dX4_putOn_25 : decode cX4_putOn 25 = .ok (.aload_n 0, 1) := by decide +kernel
theorem dX4_putOn_26 : decode cX4_putOn 26 = .ok (.getfield 18, 3) := by decide +kernel
theorem dX4_putOn_29 : decode cX4_putOn 29 = .ok (.iload_n 3, 1) := by decide +kernel
theorem dX4_putOn_30 : decode cX4_putOn 30 = .ok (.iastore, 1) := by decide +kernel
theorem dX4_putOn_31 : decode cX4_putOn 31 = .ok (.aload_n 0, 1) := by decide +kernel
theorem dX4_putOn_32 : decode cX4_putOn 32 = .ok (.dup, 1) := by decide +kernel
theorem dX4_putOn_33 : decode cX4_putOn 33 = .ok (.getfield 18, 3) := by decide +kernel
theorem dX4_putOn_36 : decode cX4_putOn 36 = .ok (.iconst 1, 1) := by decide +kernel
theorem dX4_putOn_37 : decode cX4_putOn 37 = .ok (.iadd, 1) := by decide +kernel
theorem dX4_putOn_38 : decode cX4_putOn 38 = .ok (.putfield 18, 3) := by decide +kernel
theorem dX4_putOn_41 : decode cX4_putOn 41 = .ok (.aload_n 1, 1) := by decide +kernel
theorem dX4_putOn_42 : decode cX4_putOn 42 = .ok (.iload_n 2, 1) := by decide +kernel
theorem dX4_putOn_43 : decode cX4_putOn 43 = .ok (.iload_n 3, 1) := by decide +kernel
theorem dX4_putOn_44 : decode cX4_putOn 44 = .ok (.bipush 30, 2) := by decide +kernel
theorem dX4_putOn_46 : decode cX4_putOn 46 = .ok (.invokevirtual 22, 3) := by decide +kernel
theorem dX4_putOn_49 : decode cX4_putOn 49 = .ok (.iconst 1, 1) := by decide +kernel
theorem dX4_putOn_50 : decode cX4_putOn 50 = .ok (.ireturn, 1) := by decide +kernel
theorem dX4_dropFrom_0 : decode cX4_dropFrom 0 = .ok (.iload_n 2, 1) := by decide +kernel
theorem dX4_dropFrom_1 : decode cX4_dropFrom 1 = .ok (.ifCond .ge 12, 3) := by decide +kernel
theorem dX4_dropFrom_4 : decode cX4_dropFrom 4 = .ok (.iload_n 2, 1) := by decide +kernel
theorem dX4_dropFrom_5 : decode cX4_dropFrom 5 = .ok (.aload_n 0, 1) := by decide +kernel
theorem dX4_dropFrom_6 : decode cX4_dropFrom 6 = .ok (.getfield 18, 3) := by decide +kernel
theorem dX4_dropFrom_9 : decode cX4_dropFrom 9 = .ok (.ineg, 1) := by decide +kernel
theorem dX4_dropFrom_10 : decode cX4_dropFrom 10 = .ok (.if_icmp .ge 5, 3) := by decide +kernel
theorem dX4_dropFrom_13 : decode cX4_dropFrom 13 = .ok (.iconst 0, 1) := by decide +kernel
theorem dX4_dropFrom_14 : decode cX4_dropFrom 14 = .ok (.ireturn, 1) := by decide +kernel
theorem dX4_dropFrom_15 : decode cX4_dropFrom 15 = .ok (.iconst (-1), 1) := by decide +kernel
theorem dX4_dropFrom_16 : decode cX4_dropFrom 16 = .ok (.iload_n 2, 1) := by decide +kernel
theorem dX4_dropFrom_17 : decode cX4_dropFrom 17 = .ok (.isub, 1) := by decide +kernel
theorem dX4_dropFrom_18 : decode cX4_dropFrom 18 = .ok (.istore_n 3, 1) := by decide +kernel
theorem dX4_dropFrom_19 : decode cX4_dropFrom 19 = .ok (.aload_n 0, 1) := by decide +kernel
theorem dX4_dropFrom_20 : decode cX4_dropFrom 20 = .ok (.getfield 15, 3) := by decide +kernel
theorem dX4_dropFrom_23 : decode cX4_dropFrom 23 = .ok (.iload_n 3, 1) := by decide +kernel
theorem dX4_dropFrom_24 : decode cX4_dropFrom 24 = .ok (.iaload, 1) := by decide +kernel
theorem dX4_dropFrom_25 : decode cX4_dropFrom 25 = .ok (.ifCond .ne 5, 3) := by decide +kernel
theorem dX4_dropFrom_28 : decode cX4_dropFrom 28 = .ok (.iconst 0, 1) := by decide +kernel
theorem dX4_dropFrom_29 : decode cX4_dropFrom 29 = .ok (.ireturn, 1) := by decide +kernel
theorem dX4_dropFrom_30 : decode cX4_dropFrom 30 = .ok (.aload_n 1, 1) := by decide +kernel
theorem dX4_dropFrom_31 : decode cX4_dropFrom 31 = .ok (.aload_n 0, 1) := by decide +kernel
theorem dX4_dropFrom_32 : decode cX4_dropFrom 32 = .ok (.getfield 9, 3) := by decide +kernel
theorem dX4_dropFrom_35 : decode cX4_dropFrom 35 = .ok (.iload_n 3, 1) := by decide +kernel
theorem dX4_dropFrom_36 : decode cX4_dropFrom 36 = .ok (.iaload, 1) := by decide +kernel
theorem dX4_dropFrom_37 : decode cX4_dropFrom 37 = .ok (.aload_n 0, 1) := by decide +kernel
theorem dX4_dropFrom_38 : decode cX4_dropFrom 38 = .ok (.getfield 15, 3) := by decide +kernel
theorem dX4_dropFrom_41 : decode cX4_dropFrom 41 = .ok (.iload_n 3, 1) := by decide +kernel
theorem dX4_dropFrom_42 : decode cX4_dropFrom 42 = .ok (.iaload, 1) := by decide +kernel
theorem dX4_dropFrom_43 : decode cX4_dropFrom 43 = .ok (.invokevirtual 28, 3) := by decide +kernel
theorem dX4_dropFrom_46 : decode cX4_dropFrom 46 = .ok (.aload_n 0, 1) := by decide +kernel
theorem dX4_dropFrom_47 : decode cX4_dropFrom 47 = .ok (.getfield 15, 3) := by decide +kernel
theorem dX4_dropFrom_50 : decode cX4_dropFrom 50 = .ok (.iload_n 3, 1) := by decide +kernel
theorem dX4_dropFrom_51 : decode cX4_dropFrom 51 = .ok (.iconst 0, 1) := by decide +kernel
theorem dX4_dropFrom_52 : decode cX4_dropFrom 52 = .ok (.iastore, 1) := by decide +kernel
theorem dX4_dropFrom_53 : decode cX4_dropFrom 53 = .ok (.iconst 1, 1) := by decide +kernel
theorem dX4_dropFrom_54 : decode cX4_dropFrom 54 = .ok (.ireturn, 1) := by decide +kernel
theorem dX5_init_0 : decode cX5_init 0 = .ok (.aload_n 0, 1) := by decide +kernel
theorem dX5_init_1 : decode cX5_init 1 = .ok (.invokespecial 3, 3) := by decide +kernel
theorem dX5_init_4 : decode cX5_init 4 = .ok (.aload_n 0, 1) := by decide +kernel
theorem dX5_init_5 : decode cX5_init 5 = .ok (.bipush 6, 2) := by decide +kernel
theorem dX5_init_7 : decode cX5_init 7 = .ok (.newarray .int, 2) := by decide +kernel
theorem dX5_init_9 : decode cX5_init 9 = .ok (.putfield 9, 3) := by decide +kernel
theorem dX5_init_12 : decode cX5_init 12 = .ok (.aload_n 0, 1) := by decide +kernel
theorem dX5_init_13 : decode cX5_init 13 = .ok (.bipush 6, 2) := by decide +kernel
theorem dX5_init_15 : decode cX5_init 15 = .ok (.newarray .int, 2) := by decide +kernel
theorem dX5_init_17 : decode cX5_init 17 = .ok (.putfield 15, 3) := by decide +kernel
theorem dX5_init_20 : decode cX5_init 20 = .ok (.aload_n 0, 1) := by decide +kernel
theorem dX5_init_21 : decode cX5_init 21 = .ok (.bipush 6, 2) := by decide +kernel
theorem dX5_init_23 : decode cX5_init 23 = .ok (.newarray .int, 2) := by decide +kernel
theorem dX5_init_25 : decode cX5_init 25 = .ok (.putfield 18, 3) := by decide +kernel
theorem dX5_init_28 : decode cX5_init 28 = .ok (.return_, 1) := by decide +kernel
theorem dX5_has_0 : decode cX5_has 0 = .ok (.iload_n 1, 1) := by decide +kernel
theorem dX5_has_1 : decode cX5_has 1 = .ok (.ifCond .lt 21, 3) := by decide +kernel
theorem dX5_has_4 : decode cX5_has 4 = .ok (.iload_n 1, 1) := by decide +kernel
theorem dX5_has_5 : decode cX5_has 5 = .ok (.aload_n 0, 1) := by decide +kernel
theorem dX5_has_6 : decode cX5_has 6 = .ok (.getfield 21, 3) := by decide +kernel
theorem dX5_has_9 : decode cX5_has 9 = .ok (.if_icmp .ge 13, 3) := by decide +kernel
theorem dX5_has_12 : decode cX5_has 12 = .ok (.iload_n 1, 1) := by decide +kernel
theorem dX5_has_13 : decode cX5_has 13 = .ok (.bipush 6, 2) := by decide +kernel
theorem dX5_has_15 : decode cX5_has 15 = .ok (.if_icmp .ge 7, 3) := by decide +kernel
theorem dX5_has_18 : decode cX5_has 18 = .ok (.iconst 1, 1) := by decide +kernel
theorem dX5_has_19 : decode cX5_has 19 = .ok (.goto 4, 3) := by decide +kernel
theorem dX5_has_22 : decode cX5_has 22 = .ok (.iconst 0, 1) := by decide +kernel
theorem dX5_has_23 : decode cX5_has 23 = .ok (.ireturn, 1) := by decide +kernel
theorem dX5_highOf_0 : decode cX5_highOf 0 = .ok (.aload_n 0, 1) := by decide +kernel
theorem dX5_highOf_1 : decode cX5_highOf 1 = .ok (.getfield 9, 3) := by decide +kernel
theorem dX5_highOf_4 : decode cX5_highOf 4 = .ok (.iload_n 1, 1) := by decide +kernel
theorem dX5_highOf_5 : decode cX5_highOf 5 = .ok (.iaload, 1) := by decide +kernel
theorem dX5_highOf_6 : decode cX5_highOf 6 = .ok (.aload_n 0, 1) := by decide +kernel
theorem dX5_highOf_7 : decode cX5_highOf 7 = .ok (.getfield 15, 3) := by decide +kernel
theorem dX5_highOf_10 : decode cX5_highOf 10 = .ok (.iload_n 1, 1) := by decide +kernel
theorem dX5_highOf_11 : decode cX5_highOf 11 = .ok (.iaload, 1) := by decide +kernel
theorem dX5_highOf_12 : decode cX5_highOf 12 = .ok (.iadd, 1) := by decide +kernel
theorem dX5_highOf_13 : decode cX5_highOf 13 = .ok (.ireturn, 1) := by decide +kernel
theorem dX5_end_0 : decode cX5_end 0 = .ok (.aload_n 0, 1) := by decide +kernel
theorem dX5_end_1 : decode cX5_end 1 = .ok (.aload_n 0, 1) := by decide +kernel
theorem dX5_end_2 : decode cX5_end 2 = .ok (.getfield 21, 3) := by decide +kernel
theorem dX5_end_5 : decode cX5_end 5 = .ok (.iconst 1, 1) := by decide +kernel
theorem dX5_end_6 : decode cX5_end 6 = .ok (.isub, 1) := by decide +kernel
theorem dX5_end_7 : decode cX5_end 7 = .ok (.invokevirtual 25, 3) := by decide +kernel
theorem dX5_end_10 : decode cX5_end 10 = .ok (.ifCond .eq 16, 3) := by decide +kernel
theorem dX5_end_13 : decode cX5_end 13 = .ok (.aload_n 0, 1) := by decide +kernel
theorem dX5_end_14 : decode cX5_end 14 = .ok (.aload_n 0, 1) := by decide +kernel
theorem dX5_end_15 : decode cX5_end 15 = .ok (.getfield 21, 3) := by decide +kernel
theorem dX5_end_18 : decode cX5_end 18 = .ok (.iconst 1, 1) := by decide +kernel
theorem dX5_end_19 : decode cX5_end 19 = .ok (.isub, 1) := by decide +kernel
theorem dX5_end_20 : decode cX5_end 20 = .ok (.invokevirtual 29, 3) := by decide +kernel
theorem dX5_end_23 : decode cX5_end 23 = .ok (.goto 4, 3) := by decide +kernel
theorem dX5_end_26 : decode cX5_end 26 = .ok (.iconst 0, 1) := by decide +kernel
theorem dX5_end_27 : decode cX5_end 27 = .ok (.ireturn, 1) := by decide +kernel
theorem dX5_addNext_0 : decode cX5_addNext 0 = .ok (.aload_n 0, 1) := by decide +kernel
theorem dX5_addNext_1 : decode cX5_addNext 1 = .ok (.invokevirtual 33, 3) := by decide +kernel
theorem dX5_addNext_4 : decode cX5_addNext 4 = .ok (.istore_n 3, 1) := by decide +kernel
theorem dX5_addNext_5 : decode cX5_addNext 5 = .ok (.aload_n 0, 1) := by decide +kernel
theorem dX5_addNext_6 : decode cX5_addNext 6 = .ok (.getfield 21, 3) := by decide +kernel
theorem dX5_addNext_9 : decode cX5_addNext 9 = .ok (.bipush 6, 2) := by decide +kernel
theorem dX5_addNext_11 : decode cX5_addNext 11 = .ok (.if_icmp .ge 12, 3) := by decide +kernel
theorem dX5_addNext_14 : decode cX5_addNext 14 = .ok (.iload_n 3, 1) := by decide +kernel
theorem dX5_addNext_15 : decode cX5_addNext 15 = .ok (.iload_n 1, 1) := by decide +kernel
theorem dX5_addNext_16 : decode cX5_addNext 16 = .ok (.iadd, 1) := by decide +kernel
theorem dX5_addNext_17 : decode cX5_addNext 17 = .ok (.sipush 240, 3) := by decide +kernel
theorem dX5_addNext_20 : decode cX5_addNext 20 = .ok (.if_icmp .le 5, 3) := by decide +kernel
theorem dX5_addNext_23 : decode cX5_addNext 23 = .ok (.iconst (-1), 1) := by decide +kernel
theorem dX5_addNext_24 : decode cX5_addNext 24 = .ok (.ireturn, 1) := by decide +kernel
theorem dX5_addNext_25 : decode cX5_addNext 25 = .ok (.aload_n 0, 1) := by decide +kernel
theorem dX5_addNext_26 : decode cX5_addNext 26 = .ok (.getfield 9, 3) := by decide +kernel
theorem dX5_addNext_29 : decode cX5_addNext 29 = .ok (.aload_n 0, 1) := by decide +kernel
theorem dX5_addNext_30 : decode cX5_addNext 30 = .ok (.getfield 21, 3) := by decide +kernel
theorem dX5_addNext_33 : decode cX5_addNext 33 = .ok (.iload_n 3, 1) := by decide +kernel
theorem dX5_addNext_34 : decode cX5_addNext 34 = .ok (.iastore, 1) := by decide +kernel
theorem dX5_addNext_35 : decode cX5_addNext 35 = .ok (.aload_n 0, 1) := by decide +kernel
theorem dX5_addNext_36 : decode cX5_addNext 36 = .ok (.getfield 15, 3) := by decide +kernel
theorem dX5_addNext_39 : decode cX5_addNext 39 = .ok (.aload_n 0, 1) := by decide +kernel
theorem dX5_addNext_40 : decode cX5_addNext 40 = .ok (.getfield 21, 3) := by decide +kernel
theorem dX5_addNext_43 : decode cX5_addNext 43 = .ok (.iload_n 1, 1) := by decide +kernel
theorem dX5_addNext_44 : decode cX5_addNext 44 = .ok (.iastore, 1) := by decide +kernel
theorem dX5_addNext_45 : decode cX5_addNext 45 = .ok (.aload_n 0, 1) := by decide +kernel
theorem dX5_addNext_46 : decode cX5_addNext 46 = .ok (.getfield 18, 3) := by decide +kernel
theorem dX5_addNext_49 : decode cX5_addNext 49 = .ok (.aload_n 0, 1) := by decide +kernel
theorem dX5_addNext_50 : decode cX5_addNext 50 = .ok (.getfield 21, 3) := by decide +kernel
theorem dX5_addNext_53 : decode cX5_addNext 53 = .ok (.iload_n 2, 1) := by decide +kernel
theorem dX5_addNext_54 : decode cX5_addNext 54 = .ok (.iastore, 1) := by decide +kernel
theorem dX5_addNext_55 : decode cX5_addNext 55 = .ok (.aload_n 0, 1) := by decide +kernel
theorem dX5_addNext_56 : decode cX5_addNext 56 = .ok (.dup, 1) := by decide +kernel
theorem dX5_addNext_57 : decode cX5_addNext 57 = .ok (.getfield 21, 3) := by decide +kernel
theorem dX5_addNext_60 : decode cX5_addNext 60 = .ok (.iconst 1, 1) := by decide +kernel
theorem dX5_addNext_61 : decode cX5_addNext 61 = .ok (.iadd, 1) := by decide +kernel
theorem dX5_addNext_62 : decode cX5_addNext 62 = .ok (.putfield 21, 3) := by decide +kernel
theorem dX5_addNext_65 : decode cX5_addNext 65 = .ok (.aload_n 0, 1) := by decide +kernel
theorem dX5_addNext_66 : decode cX5_addNext 66 = .ok (.getfield 21, 3) := by decide +kernel
theorem dX5_addNext_69 : decode cX5_addNext 69 = .ok (.iconst 1, 1) := by decide +kernel
theorem dX5_addNext_70 : decode cX5_addNext 70 = .ok (.isub, 1) := by decide +kernel
theorem dX5_addNext_71 : decode cX5_addNext 71 = .ok (.ireturn, 1) := by decide +kernel
theorem dX5_copyFrom_0 : decode cX5_copyFrom 0 = .ok (.aload_n 0, 1) := by decide +kernel
theorem dX5_copyFrom_1 : decode cX5_copyFrom 1 = .ok (.aload_n 1, 1) := by decide +kernel
theorem dX5_copyFrom_2 : decode cX5_copyFrom 2 = .ok (.getfield 21, 3) := by decide +kernel
theorem dX5_copyFrom_5 : decode cX5_copyFrom 5 = .ok (.putfield 21, 3) := by decide +kernel
theorem dX5_copyFrom_8 : decode cX5_copyFrom 8 = .ok (.aload_n 1, 1) := by decide +kernel
theorem dX5_copyFrom_9 : decode cX5_copyFrom 9 = .ok (.getfield 9, 3) := by decide +kernel
theorem dX5_copyFrom_12 : decode cX5_copyFrom 12 = .ok (.aload_n 0, 1) := by decide +kernel
theorem dX5_copyFrom_13 : decode cX5_copyFrom 13 = .ok (.getfield 9, 3) := by decide +kernel
theorem dX5_copyFrom_16 : decode cX5_copyFrom 16 = .ok (.invokestatic 37, 3) := by decide +kernel
theorem dX5_copyFrom_19 : decode cX5_copyFrom 19 = .ok (.aload_n 1, 1) := by decide +kernel
theorem dX5_copyFrom_20 : decode cX5_copyFrom 20 = .ok (.getfield 15, 3) := by decide +kernel
theorem dX5_copyFrom_23 : decode cX5_copyFrom 23 = .ok (.aload_n 0, 1) := by decide +kernel
theorem dX5_copyFrom_24 : decode cX5_copyFrom 24 = .ok (.getfield 15, 3) := by decide +kernel
theorem dX5_copyFrom_27 : decode cX5_copyFrom 27 = .ok (.invokestatic 37, 3) := by decide +kernel
theorem dX5_copyFrom_30 : decode cX5_copyFrom 30 = .ok (.aload_n 1, 1) := by decide +kernel
theorem dX5_copyFrom_31 : decode cX5_copyFrom 31 = .ok (.getfield 18, 3) := by decide +kernel
theorem dX5_copyFrom_34 : decode cX5_copyFrom 34 = .ok (.aload_n 0, 1) := by decide +kernel
theorem dX5_copyFrom_35 : decode cX5_copyFrom 35 = .ok (.getfield 18, 3) := by decide +kernel
theorem dX5_copyFrom_38 : decode cX5_copyFrom 38 = .ok (.invokestatic 37, 3) := by decide +kernel
theorem dX5_copyFrom_41 : decode cX5_copyFrom 41 = .ok (.return_, 1) := by decide +kernel
theorem dX6_init_0 : decode cX6_init 0 = .ok (.aload_n 0, 1) := by decide +kernel
theorem dX6_init_1 : decode cX6_init 1 = .ok (.invokespecial 3, 3) := by decide +kernel
theorem dX6_init_4 : decode cX6_init 4 = .ok (.aload_n 0, 1) := by decide +kernel
theorem dX6_init_5 : decode cX6_init 5 = .ok (.bipush 30, 2) := by decide +kernel
theorem dX6_init_7 : decode cX6_init 7 = .ok (.newarray .int, 2) := by decide +kernel
theorem dX6_init_9 : decode cX6_init 9 = .ok (.putfield 9, 3) := by decide +kernel
theorem dX6_init_12 : decode cX6_init 12 = .ok (.return_, 1) := by decide +kernel
theorem dX6_slotAt_0 : decode cX6_slotAt 0 = .ok (.iload_n 1, 1) := by decide +kernel
theorem dX6_slotAt_1 : decode cX6_slotAt 1 = .ok (.ifCond .lt 26, 3) := by decide +kernel
theorem dX6_slotAt_4 : decode cX6_slotAt 4 = .ok (.iload_n 1, 1) := by decide +kernel
theorem dX6_slotAt_5 : decode cX6_slotAt 5 = .ok (.aload_n 0, 1) := by decide +kernel
theorem dX6_slotAt_6 : decode cX6_slotAt 6 = .ok (.getfield 15, 3) := by decide +kernel
theorem dX6_slotAt_9 : decode cX6_slotAt 9 = .ok (.if_icmp .ge 18, 3) := by decide +kernel
theorem dX6_slotAt_12 : decode cX6_slotAt 12 = .ok (.iload_n 1, 1) := by decide +kernel
theorem dX6_slotAt_13 : decode cX6_slotAt 13 = .ok (.bipush 30, 2) := by decide +kernel
theorem dX6_slotAt_15 : decode cX6_slotAt 15 = .ok (.if_icmp .ge 12, 3) := by decide +kernel
theorem dX6_slotAt_18 : decode cX6_slotAt 18 = .ok (.aload_n 0, 1) := by decide +kernel
theorem dX6_slotAt_19 : decode cX6_slotAt 19 = .ok (.getfield 9, 3) := by decide +kernel
theorem dX6_slotAt_22 : decode cX6_slotAt 22 = .ok (.iload_n 1, 1) := by decide +kernel
theorem dX6_slotAt_23 : decode cX6_slotAt 23 = .ok (.iaload, 1) := by decide +kernel
theorem dX6_slotAt_24 : decode cX6_slotAt 24 = .ok (.goto 4, 3) := by decide +kernel
theorem dX6_slotAt_27 : decode cX6_slotAt 27 = .ok (.iconst (-1), 1) := by decide +kernel
theorem dX6_slotAt_28 : decode cX6_slotAt 28 = .ok (.ireturn, 1) := by decide +kernel
theorem dX6_addLast_0 : decode cX6_addLast 0 = .ok (.aload_n 0, 1) := by decide +kernel
theorem dX6_addLast_1 : decode cX6_addLast 1 = .ok (.getfield 15, 3) := by decide +kernel
theorem dX6_addLast_4 : decode cX6_addLast 4 = .ok (.bipush 30, 2) := by decide +kernel
theorem dX6_addLast_6 : decode cX6_addLast 6 = .ok (.if_icmp .lt 4, 3) := by decide +kernel
theorem dX6_addLast_9 : decode cX6_addLast 9 = .ok (.return_, 1) := by decide +kernel
theorem dX6_addLast_10 : decode cX6_addLast 10 = .ok (.aload_n 0, 1) := by decide +kernel
theorem dX6_addLast_11 : decode cX6_addLast 11 = .ok (.getfield 9, 3) := by decide +kernel
theorem dX6_addLast_14 : decode cX6_addLast 14 = .ok (.aload_n 0, 1) := by decide +kernel
theorem dX6_addLast_15 : decode cX6_addLast 15 = .ok (.getfield 15, 3) := by decide +kernel
theorem dX6_addLast_18 : decode cX6_addLast 18 = .ok (.iload_n 1, 1) := by decide +kernel
theorem dX6_addLast_19 : decode cX6_addLast 19 = .ok (.iastore, 1) := by decide +kernel
theorem dX6_addLast_20 : decode cX6_addLast 20 = .ok (.aload_n 0, 1) := by decide +kernel
theorem dX6_addLast_21 : decode cX6_addLast 21 = .ok (.dup, 1) := by decide +kernel
theorem dX6_addLast_22 : decode cX6_addLast 22 = .ok (.getfield 15, 3) := by decide +kernel
theorem dX6_addLast_25 : decode cX6_addLast 25 = .ok (.iconst 1, 1) := by decide +kernel
theorem dX6_addLast_26 : decode cX6_addLast 26 = .ok (.iadd, 1) := by decide +kernel
theorem dX6_addLast_27 : decode cX6_addLast 27 = .ok (.putfield 15, 3) := by decide +kernel
theorem dX6_addLast_30 : decode cX6_addLast 30 = .ok (.return_, 1) := by decide +kernel
theorem dX6_drop_0 : decode cX6_drop 0 = .ok (.iconst 0, 1) := by decide +kernel
theorem dX6_drop_1 : decode cX6_drop 1 = .ok (.istore_n 2, 1) := by decide +kernel
theorem dX6_drop_2 : decode cX6_drop 2 = .ok (.iconst 0, 1) := by decide +kernel
theorem dX6_drop_3 : decode cX6_drop 3 = .ok (.istore_n 3, 1) := by decide +kernel
theorem dX6_drop_4 : decode cX6_drop 4 = .ok (.iload_n 3, 1) := by decide +kernel
theorem dX6_drop_5 : decode cX6_drop 5 = .ok (.aload_n 0, 1) := by decide +kernel
theorem dX6_drop_6 : decode cX6_drop 6 = .ok (.getfield 15, 3) := by decide +kernel
theorem dX6_drop_9 : decode cX6_drop 9 = .ok (.if_icmp .ge 43, 3) := by decide +kernel
theorem dX6_drop_12 : decode cX6_drop 12 = .ok (.iload_n 3, 1) := by decide +kernel
theorem dX6_drop_13 : decode cX6_drop 13 = .ok (.bipush 30, 2) := by decide +kernel
theorem dX6_drop_15 : decode cX6_drop 15 = .ok (.if_icmp .ge 37, 3) := by decide +kernel
theorem dX6_drop_18 : decode cX6_drop 18 = .ok (.aload_n 0, 1) := by decide +kernel
theorem dX6_drop_19 : decode cX6_drop 19 = .ok (.getfield 9, 3) := by decide +kernel
theorem dX6_drop_22 : decode cX6_drop 22 = .ok (.iload_n 3, 1) := by decide +kernel
theorem dX6_drop_23 : decode cX6_drop 23 = .ok (.iaload, 1) := by decide +kernel
theorem dX6_drop_24 : decode cX6_drop 24 = .ok (.iload_n 1, 1) := by decide +kernel
theorem dX6_drop_25 : decode cX6_drop 25 = .ok (.if_icmp .ne 6, 3) := by decide +kernel
theorem dX6_drop_28 : decode cX6_drop 28 = .ok (.goto 18, 3) := by decide +kernel
theorem dX6_drop_31 : decode cX6_drop 31 = .ok (.aload_n 0, 1) := by decide +kernel
theorem dX6_drop_32 : decode cX6_drop 32 = .ok (.getfield 9, 3) := by decide +kernel
theorem dX6_drop_35 : decode cX6_drop 35 = .ok (.iload_n 2, 1) := by decide +kernel
theorem dX6_drop_36 : decode cX6_drop 36 = .ok (.aload_n 0, 1) := by decide +kernel
theorem dX6_drop_37 : decode cX6_drop 37 = .ok (.getfield 9, 3) := by decide +kernel
theorem dX6_drop_40 : decode cX6_drop 40 = .ok (.iload_n 3, 1) := by decide +kernel
theorem dX6_drop_41 : decode cX6_drop 41 = .ok (.iaload, 1) := by decide +kernel
theorem dX6_drop_42 : decode cX6_drop 42 = .ok (.iastore, 1) := by decide +kernel
theorem dX6_drop_43 : decode cX6_drop 43 = .ok (.iinc 2 1, 3) := by decide +kernel
theorem dX6_drop_46 : decode cX6_drop 46 = .ok (.iinc 3 1, 3) := by decide +kernel
theorem dX6_drop_49 : decode cX6_drop 49 = .ok (.goto (-45), 3) := by decide +kernel
theorem dX6_drop_52 : decode cX6_drop 52 = .ok (.aload_n 0, 1) := by decide +kernel
theorem dX6_drop_53 : decode cX6_drop 53 = .ok (.iload_n 2, 1) := by decide +kernel
theorem dX6_drop_54 : decode cX6_drop 54 = .ok (.putfield 15, 3) := by decide +kernel
theorem dX6_drop_57 : decode cX6_drop 57 = .ok (.return_, 1) := by decide +kernel
theorem dX6_copyFrom_0 : decode cX6_copyFrom 0 = .ok (.aload_n 0, 1) := by decide +kernel
theorem dX6_copyFrom_1 : decode cX6_copyFrom 1 = .ok (.aload_n 1, 1) := by decide +kernel
theorem dX6_copyFrom_2 : decode cX6_copyFrom 2 = .ok (.getfield 15, 3) := by decide +kernel
theorem dX6_copyFrom_5 : decode cX6_copyFrom 5 = .ok (.putfield 15, 3) := by decide +kernel
theorem dX6_copyFrom_8 : decode cX6_copyFrom 8 = .ok (.aload_n 1, 1) := by decide +kernel
theorem dX6_copyFrom_9 : decode cX6_copyFrom 9 = .ok (.getfield 9, 3) := by decide +kernel
theorem dX6_copyFrom_12 : decode cX6_copyFrom 12 = .ok (.aload_n 0, 1) := by decide +kernel
theorem dX6_copyFrom_13 : decode cX6_copyFrom 13 = .ok (.getfield 9, 3) := by decide +kernel
theorem dX6_copyFrom_16 : decode cX6_copyFrom 16 = .ok (.invokestatic 19, 3) := by decide +kernel
theorem dX6_copyFrom_19 : decode cX6_copyFrom 19 = .ok (.return_, 1) := by decide +kernel
theorem dX7_init_0 : decode cX7_init 0 = .ok (.aload_n 0, 1) := by decide +kernel
theorem dX7_init_1 : decode cX7_init 1 = .ok (.invokespecial 3, 3) := by decide +kernel
theorem dX7_init_4 : decode cX7_init 4 = .ok (.aload_n 0, 1) := by decide +kernel
theorem dX7_init_5 : decode cX7_init 5 = .ok (.bipush 120, 2) := by decide +kernel
theorem dX7_init_7 : decode cX7_init 7 = .ok (.newarray .int, 2) := by decide +kernel
theorem dX7_init_9 : decode cX7_init 9 = .ok (.putfield 9, 3) := by decide +kernel
theorem dX7_init_12 : decode cX7_init 12 = .ok (.aload_n 0, 1) := by decide +kernel
theorem dX7_init_13 : decode cX7_init 13 = .ok (.bipush 60, 2) := by decide +kernel
theorem dX7_init_15 : decode cX7_init 15 = .ok (.newarray .int, 2) := by decide +kernel
theorem dX7_init_17 : decode cX7_init 17 = .ok (.putfield 15, 3) := by decide +kernel
theorem dX7_init_20 : decode cX7_init 20 = .ok (.aload_n 0, 1) := by decide +kernel
theorem dX7_init_21 : decode cX7_init 21 = .ok (.sipush 180, 3) := by decide +kernel
theorem dX7_init_24 : decode cX7_init 24 = .ok (.newarray .int, 2) := by decide +kernel
theorem dX7_init_26 : decode cX7_init 26 = .ok (.putfield 18, 3) := by decide +kernel
theorem dX7_init_29 : decode cX7_init 29 = .ok (.return_, 1) := by decide +kernel
theorem dX7_append_0 : decode cX7_append 0 = .ok (.aload_n 0, 1) := by decide +kernel
theorem dX7_append_1 : decode cX7_append 1 = .ok (.getfield 21, 3) := by decide +kernel
theorem dX7_append_4 : decode cX7_append 4 = .ok (.bipush 120, 2) := by decide +kernel
theorem dX7_append_6 : decode cX7_append 6 = .ok (.if_icmp .lt 5, 3) := by decide +kernel
theorem dX7_append_9 : decode cX7_append 9 = .ok (.iconst 0, 1) := by decide +kernel
theorem dX7_append_10 : decode cX7_append 10 = .ok (.ireturn, 1) := by decide +kernel
theorem dX7_append_11 : decode cX7_append 11 = .ok (.aload_n 0, 1) := by decide +kernel
theorem dX7_append_12 : decode cX7_append 12 = .ok (.getfield 9, 3) := by decide +kernel
theorem dX7_append_15 : decode cX7_append 15 = .ok (.aload_n 0, 1) := by decide +kernel
theorem dX7_append_16 : decode cX7_append 16 = .ok (.getfield 21, 3) := by decide +kernel
theorem dX7_append_19 : decode cX7_append 19 = .ok (.iload_n 1, 1) := by decide +kernel
theorem dX7_append_20 : decode cX7_append 20 = .ok (.iastore, 1) := by decide +kernel
theorem dX7_append_21 : decode cX7_append 21 = .ok (.aload_n 0, 1) := by decide +kernel
theorem dX7_append_22 : decode cX7_append 22 = .ok (.dup, 1) := by decide +kernel
theorem dX7_append_23 : decode cX7_append 23 = .ok (.getfield 21, 3) := by decide +kernel
theorem dX7_append_26 : decode cX7_append 26 = .ok (.iconst 1, 1) := by decide +kernel
theorem dX7_append_27 : decode cX7_append 27 = .ok (.iadd, 1) := by decide +kernel
theorem dX7_append_28 : decode cX7_append 28 = .ok (.putfield 21, 3) := by decide +kernel
theorem dX7_append_31 : decode cX7_append 31 = .ok (.iconst 1, 1) := by decide +kernel
theorem dX7_append_32 : decode cX7_append 32 = .ok (.ireturn, 1) := by decide +kernel
theorem dX7_number_0 : decode cX7_number 0 = .ok (.aload_n 0, 1) := by decide +kernel
theorem dX7_number_1 : decode cX7_number 1 = .ok (.getfield 18, 3) := by decide +kernel
theorem dX7_number_4 : decode cX7_number 4 = .ok (.iconst 3, 1) := by decide +kernel
theorem dX7_number_5 : decode cX7_number 5 = .ok (.iload_n 1, 1) := by decide +kernel
theorem dX7_number_6 : decode cX7_number 6 = .ok (.imul, 1) := by decide +kernel
theorem dX7_number_7 : decode cX7_number 7 = .ok (.iload_n 2, 1) := by decide +kernel
theorem dX7_number_8 : decode cX7_number 8 = .ok (.iadd, 1) := by decide +kernel
theorem dX7_number_9 : decode cX7_number 9 = .ok (.iaload, 1) := by decide +kernel
theorem dX7_number_10 : decode cX7_number 10 = .ok (.ireturn, 1) := by decide +kernel
theorem dX7_hasForm_0 : decode cX7_hasForm 0 = .ok (.aload_n 0, 1) := by decide +kernel
theorem dX7_hasForm_1 : decode cX7_hasForm 1 = .ok (.iconst 0, 1) := by decide +kernel
theorem dX7_hasForm_2 : decode cX7_hasForm 2 = .ok (.putfield 25, 3) := by decide +kernel
theorem dX7_hasForm_5 : decode cX7_hasForm 5 = .ok (.aload_n 0, 1) := by decide +kernel
theorem dX7_hasForm_6 : decode cX7_hasForm 6 = .ok (.iconst 0, 1) := by decide +kernel
theorem dX7_hasForm_7 : decode cX7_hasForm 7 = .ok (.putfield 28, 3) := by decide +kernel
theorem dX7_hasForm_10 : decode cX7_hasForm 10 = .ok (.iconst 0, 1) := by decide +kernel
theorem dX7_hasForm_11 : decode cX7_hasForm 11 = .ok (.istore_n 1, 1) := by decide +kernel
theorem dX7_hasForm_12 : decode cX7_hasForm 12 = .ok (.iload_n 1, 1) := by decide +kernel
theorem dX7_hasForm_13 : decode cX7_hasForm 13 = .ok (.bipush 60, 2) := by decide +kernel
theorem dX7_hasForm_15 : decode cX7_hasForm 15 = .ok (.if_icmp .ge 42, 3) := by decide +kernel
theorem dX7_hasForm_18 : decode cX7_hasForm 18 = .ok (.aload_n 0, 1) := by decide +kernel
theorem dX7_hasForm_19 : decode cX7_hasForm 19 = .ok (.invokevirtual 31, 3) := by decide +kernel
theorem dX7_hasForm_22 : decode cX7_hasForm 22 = .ok (.ifCond .ne 5, 3) := by decide +kernel
theorem dX7_hasForm_25 : decode cX7_hasForm 25 = .ok (.iconst 0, 1) := by decide +kernel
theorem dX7_hasForm_26 : decode cX7_hasForm 26 = .ok (.ireturn, 1) := by decide +kernel
theorem dX7_hasForm_27 : decode cX7_hasForm 27 = .ok (.aload_n 0, 1) := by decide +kernel
theorem dX7_hasForm_28 : decode cX7_hasForm 28 = .ok (.getfield 25, 3) := by decide +kernel
theorem dX7_hasForm_31 : decode cX7_hasForm 31 = .ok (.aload_n 0, 1) := by decide +kernel
theorem dX7_hasForm_32 : decode cX7_hasForm 32 = .ok (.getfield 21, 3) := by decide +kernel
theorem dX7_hasForm_35 : decode cX7_hasForm 35 = .ok (.if_icmp .ne 5, 3) := by decide +kernel
theorem dX7_hasForm_38 : decode cX7_hasForm 38 = .ok (.iconst 1, 1) := by decide +kernel
theorem dX7_hasForm_39 : decode cX7_hasForm 39 = .ok (.ireturn, 1) := by decide +kernel
theorem dX7_hasForm_40 : decode cX7_hasForm 40 = .ok (.aload_n 0, 1) := by decide +kernel
theorem dX7_hasForm_41 : decode cX7_hasForm 41 = .ok (.bipush 59, 2) := by decide +kernel
theorem dX7_hasForm_43 : decode cX7_hasForm 43 = .ok (.invokevirtual 35, 3) := by decide +kernel
theorem dX7_hasForm_46 : decode cX7_hasForm 46 = .ok (.ifCond .ne 5, 3) := by decide +kernel
theorem dX7_hasForm_49 : decode cX7_hasForm 49 = .ok (.iconst 0, 1) := by decide +kernel
theorem dX7_hasForm_50 : decode cX7_hasForm 50 = .ok (.ireturn, 1) := by decide +kernel
theorem dX7_hasForm_51 : decode cX7_hasForm 51 = .ok (.iinc 1 1, 3) := by decide +kernel
theorem dX7_hasForm_54 : decode cX7_hasForm 54 = .ok (.goto (-42), 3) := by decide +kernel
theorem dX7_hasForm_57 : decode cX7_hasForm 57 = .ok (.iconst 0, 1) := by decide +kernel
theorem dX7_hasForm_58 : decode cX7_hasForm 58 = .ok (.ireturn, 1) := by decide +kernel
theorem dX7_readLine_0 : decode cX7_readLine 0 = .ok (.aload_n 0, 1) := by decide +kernel
theorem dX7_readLine_1 : decode cX7_readLine 1 = .ok (.invokevirtual 39, 3) := by decide +kernel
theorem dX7_readLine_4 : decode cX7_readLine 4 = .ok (.invokestatic 43, 3) := by decide +kernel
theorem dX7_readLine_7 : decode cX7_readLine 7 = .ok (.istore_n 1, 1) := by decide +kernel
theorem dX7_readLine_8 : decode cX7_readLine 8 = .ok (.iload_n 1, 1) := by decide +kernel
theorem dX7_readLine_9 : decode cX7_readLine 9 = .ok (.iconst (-1), 1) := by decide +kernel
theorem dX7_readLine_10 : decode cX7_readLine 10 = .ok (.if_icmp .ne 5, 3) := by decide +kernel
theorem dX7_readLine_13 : decode cX7_readLine 13 = .ok (.iconst 0, 1) := by decide +kernel
theorem dX7_readLine_14 : decode cX7_readLine 14 = .ok (.ireturn, 1) := by decide +kernel
theorem dX7_readLine_15 : decode cX7_readLine 15 = .ok (.aload_n 0, 1) := by decide +kernel
theorem dX7_readLine_16 : decode cX7_readLine 16 = .ok (.getfield 15, 3) := by decide +kernel
theorem dX7_readLine_19 : decode cX7_readLine 19 = .ok (.aload_n 0, 1) := by decide +kernel
theorem dX7_readLine_20 : decode cX7_readLine 20 = .ok (.getfield 28, 3) := by decide +kernel
theorem dX7_readLine_23 : decode cX7_readLine 23 = .ok (.aload_n 0, 1) := by decide +kernel
theorem dX7_readLine_24 : decode cX7_readLine 24 = .ok (.invokevirtual 39, 3) := by decide +kernel
theorem dX7_readLine_27 : decode cX7_readLine 27 = .ok (.iastore, 1) := by decide +kernel
theorem dX7_readLine_28 : decode cX7_readLine 28 = .ok (.aload_n 0, 1) := by decide +kernel
theorem dX7_readLine_29 : decode cX7_readLine 29 = .ok (.dup, 1) := by decide +kernel
theorem dX7_readLine_30 : decode cX7_readLine 30 = .ok (.getfield 25, 3) := by decide +kernel
theorem dX7_readLine_33 : decode cX7_readLine 33 = .ok (.iconst 1, 1) := by decide +kernel
theorem dX7_readLine_34 : decode cX7_readLine 34 = .ok (.iadd, 1) := by decide +kernel
theorem dX7_readLine_35 : decode cX7_readLine 35 = .ok (.putfield 25, 3) := by decide +kernel
theorem dX7_readLine_38 : decode cX7_readLine 38 = .ok (.iconst 0, 1) := by decide +kernel
theorem dX7_readLine_39 : decode cX7_readLine 39 = .ok (.istore_n 2, 1) := by decide +kernel
theorem dX7_readLine_40 : decode cX7_readLine 40 = .ok (.iload_n 2, 1) := by decide +kernel
theorem dX7_readLine_41 : decode cX7_readLine 41 = .ok (.iload_n 1, 1) := by decide +kernel
theorem dX7_readLine_42 : decode cX7_readLine 42 = .ok (.if_icmp .ge 35, 3) := by decide +kernel
theorem dX7_readLine_45 : decode cX7_readLine 45 = .ok (.aload_n 0, 1) := by decide +kernel
theorem dX7_readLine_46 : decode cX7_readLine 46 = .ok (.bipush 32, 2) := by decide +kernel
theorem dX7_readLine_48 : decode cX7_readLine 48 = .ok (.invokevirtual 35, 3) := by decide +kernel
theorem dX7_readLine_51 : decode cX7_readLine 51 = .ok (.ifCond .eq 18, 3) := by decide +kernel
theorem dX7_readLine_54 : decode cX7_readLine 54 = .ok (.aload_n 0, 1) := by decide +kernel
theorem dX7_readLine_55 : decode cX7_readLine 55 = .ok (.iconst 3, 1) := by decide +kernel
theorem dX7_readLine_56 : decode cX7_readLine 56 = .ok (.aload_n 0, 1) := by decide +kernel
theorem dX7_readLine_57 : decode cX7_readLine 57 = .ok (.getfield 28, 3) := by decide +kernel
theorem dX7_readLine_60 : decode cX7_readLine 60 = .ok (.imul, 1) := by decide +kernel
theorem dX7_readLine_61 : decode cX7_readLine 61 = .ok (.iload_n 2, 1) := by decide +kernel
theorem dX7_readLine_62 : decode cX7_readLine 62 = .ok (.iadd, 1) := by decide +kernel
theorem dX7_readLine_63 : decode cX7_readLine 63 = .ok (.invokevirtual 47, 3) := by decide +kernel
theorem dX7_readLine_66 : decode cX7_readLine 66 = .ok (.ifCond .ne 5, 3) := by decide +kernel
theorem dX7_readLine_69 : decode cX7_readLine 69 = .ok (.iconst 0, 1) := by decide +kernel
theorem dX7_readLine_70 : decode cX7_readLine 70 = .ok (.ireturn, 1) := by decide +kernel
theorem dX7_readLine_71 : decode cX7_readLine 71 = .ok (.iinc 2 1, 3) := by decide +kernel
theorem dX7_readLine_74 : decode cX7_readLine 74 = .ok (.goto (-34), 3) := by decide +kernel
theorem dX7_readLine_77 : decode cX7_readLine 77 = .ok (.aload_n 0, 1) := by decide +kernel
theorem dX7_readLine_78 : decode cX7_readLine 78 = .ok (.dup, 1) := by decide +kernel
theorem dX7_readLine_79 : decode cX7_readLine 79 = .ok (.getfield 28, 3) := by decide +kernel
theorem dX7_readLine_82 : decode cX7_readLine 82 = .ok (.iconst 1, 1) := by decide +kernel
theorem dX7_readLine_83 : decode cX7_readLine 83 = .ok (.iadd, 1) := by decide +kernel
theorem dX7_readLine_84 : decode cX7_readLine 84 = .ok (.putfield 28, 3) := by decide +kernel
theorem dX7_readLine_87 : decode cX7_readLine 87 = .ok (.iconst 1, 1) := by decide +kernel
theorem dX7_readLine_88 : decode cX7_readLine 88 = .ok (.ireturn, 1) := by decide +kernel
theorem dX7_readSign_0 : decode cX7_readSign 0 = .ok (.aload_n 0, 1) := by decide +kernel
theorem dX7_readSign_1 : decode cX7_readSign 1 = .ok (.invokevirtual 39, 3) := by decide +kernel
theorem dX7_readSign_4 : decode cX7_readSign 4 = .ok (.iload_n 1, 1) := by decide +kernel
theorem dX7_readSign_5 : decode cX7_readSign 5 = .ok (.if_icmp .eq 5, 3) := by decide +kernel
theorem dX7_readSign_8 : decode cX7_readSign 8 = .ok (.iconst 0, 1) := by decide +kernel
theorem dX7_readSign_9 : decode cX7_readSign 9 = .ok (.ireturn, 1) := by decide +kernel
theorem dX7_readSign_10 : decode cX7_readSign 10 = .ok (.aload_n 0, 1) := by decide +kernel
theorem dX7_readSign_11 : decode cX7_readSign 11 = .ok (.dup, 1) := by decide +kernel
theorem dX7_readSign_12 : decode cX7_readSign 12 = .ok (.getfield 25, 3) := by decide +kernel
theorem dX7_readSign_15 : decode cX7_readSign 15 = .ok (.iconst 1, 1) := by decide +kernel
theorem dX7_readSign_16 : decode cX7_readSign 16 = .ok (.iadd, 1) := by decide +kernel
theorem dX7_readSign_17 : decode cX7_readSign 17 = .ok (.putfield 25, 3) := by decide +kernel
theorem dX7_readSign_20 : decode cX7_readSign 20 = .ok (.iconst 1, 1) := by decide +kernel
theorem dX7_readSign_21 : decode cX7_readSign 21 = .ok (.ireturn, 1) := by decide +kernel
theorem dX7_readNumber_0 : decode cX7_readNumber 0 = .ok (.iconst 0, 1) := by decide +kernel
theorem dX7_readNumber_1 : decode cX7_readNumber 1 = .ok (.istore_n 2, 1) := by decide +kernel
theorem dX7_readNumber_2 : decode cX7_readNumber 2 = .ok (.iconst 0, 1) := by decide +kernel
theorem dX7_readNumber_3 : decode cX7_readNumber 3 = .ok (.istore_n 3, 1) := by decide +kernel
theorem dX7_readNumber_4 : decode cX7_readNumber 4 = .ok (.iload_n 2, 1) := by decide +kernel
theorem dX7_readNumber_5 : decode cX7_readNumber 5 = .ok (.iconst 3, 1) := by decide +kernel
theorem dX7_readNumber_6 : decode cX7_readNumber 6 = .ok (.if_icmp .ge 50, 3) := by decide +kernel
theorem dX7_readNumber_9 : decode cX7_readNumber 9 = .ok (.aload_n 0, 1) := by decide +kernel
theorem dX7_readNumber_10 : decode cX7_readNumber 10 = .ok (.invokevirtual 39, 3) := by decide +kernel
theorem dX7_readNumber_13 : decode cX7_readNumber 13 = .ok (.bipush 48, 2) := by decide +kernel
theorem dX7_readNumber_15 : decode cX7_readNumber 15 = .ok (.if_icmp .lt 41, 3) := by decide +kernel
theorem dX7_readNumber_18 : decode cX7_readNumber 18 = .ok (.aload_n 0, 1) := by decide +kernel
theorem dX7_readNumber_19 : decode cX7_readNumber 19 = .ok (.invokevirtual 39, 3) := by decide +kernel
theorem dX7_readNumber_22 : decode cX7_readNumber 22 = .ok (.bipush 57, 2) := by decide +kernel
theorem dX7_readNumber_24 : decode cX7_readNumber 24 = .ok (.if_icmp .gt 32, 3) := by decide +kernel
theorem dX7_readNumber_27 : decode cX7_readNumber 27 = .ok (.bipush 10, 2) := by decide +kernel
theorem dX7_readNumber_29 : decode cX7_readNumber 29 = .ok (.iload_n 3, 1) := by decide +kernel
theorem dX7_readNumber_30 : decode cX7_readNumber 30 = .ok (.imul, 1) := by decide +kernel
theorem dX7_readNumber_31 : decode cX7_readNumber 31 = .ok (.aload_n 0, 1) := by decide +kernel
theorem dX7_readNumber_32 : decode cX7_readNumber 32 = .ok (.invokevirtual 39, 3) := by decide +kernel
theorem dX7_readNumber_35 : decode cX7_readNumber 35 = .ok (.iadd, 1) := by decide +kernel
theorem dX7_readNumber_36 : decode cX7_readNumber 36 = .ok (.bipush 48, 2) := by decide +kernel
theorem dX7_readNumber_38 : decode cX7_readNumber 38 = .ok (.isub, 1) := by decide +kernel
theorem dX7_readNumber_39 : decode cX7_readNumber 39 = .ok (.istore_n 3, 1) := by decide +kernel
theorem dX7_readNumber_40 : decode cX7_readNumber 40 = .ok (.aload_n 0, 1) := by decide +kernel
theorem dX7_readNumber_41 : decode cX7_readNumber 41 = .ok (.dup, 1) := by decide +kernel
theorem dX7_readNumber_42 : decode cX7_readNumber 42 = .ok (.getfield 25, 3) := by decide +kernel
theorem dX7_readNumber_45 : decode cX7_readNumber 45 = .ok (.iconst 1, 1) := by decide +kernel
theorem dX7_readNumber_46 : decode cX7_readNumber 46 = .ok (.iadd, 1) := by decide +kernel
theorem dX7_readNumber_47 : decode cX7_readNumber 47 = .ok (.putfield 25, 3) := by decide +kernel
theorem dX7_readNumber_50 : decode cX7_readNumber 50 = .ok (.iinc 2 1, 3) := by decide +kernel
theorem dX7_readNumber_53 : decode cX7_readNumber 53 = .ok (.goto (-49), 3) := by decide +kernel
theorem dX7_readNumber_56 : decode cX7_readNumber 56 = .ok (.aload_n 0, 1) := by decide +kernel
theorem dX7_readNumber_57 : decode cX7_readNumber 57 = .ok (.getfield 18, 3) := by decide +kernel
theorem dX7_readNumber_60 : decode cX7_readNumber 60 = .ok (.iload_n 1, 1) := by decide +kernel
theorem dX7_readNumber_61 : decode cX7_readNumber 61 = .ok (.iload_n 3, 1) := by decide +kernel
theorem dX7_readNumber_62 : decode cX7_readNumber 62 = .ok (.iastore, 1) := by decide +kernel
theorem dX7_readNumber_63 : decode cX7_readNumber 63 = .ok (.iload_n 2, 1) := by decide +kernel
theorem dX7_readNumber_64 : decode cX7_readNumber 64 = .ok (.ifCond .le 7, 3) := by decide +kernel
theorem dX7_readNumber_67 : decode cX7_readNumber 67 = .ok (.iconst 1, 1) := by decide +kernel
theorem dX7_readNumber_68 : decode cX7_readNumber 68 = .ok (.goto 4, 3) := by decide +kernel
theorem dX7_readNumber_71 : decode cX7_readNumber 71 = .ok (.iconst 0, 1) := by decide +kernel
theorem dX7_readNumber_72 : decode cX7_readNumber 72 = .ok (.ireturn, 1) := by decide +kernel
theorem dX7_nextByte_0 : decode cX7_nextByte 0 = .ok (.aload_n 0, 1) := by decide +kernel
theorem dX7_nextByte_1 : decode cX7_nextByte 1 = .ok (.getfield 25, 3) := by decide +kernel
theorem dX7_nextByte_4 : decode cX7_nextByte 4 = .ok (.ifCond .lt 35, 3) := by decide +kernel
theorem dX7_nextByte_7 : decode cX7_nextByte 7 = .ok (.aload_n 0, 1) := by decide +kernel
theorem dX7_nextByte_8 : decode cX7_nextByte 8 = .ok (.getfield 25, 3) := by decide +kernel
theorem dX7_nextByte_11 : decode cX7_nextByte 11 = .ok (.aload_n 0, 1) := by decide +kernel
theorem dX7_nextByte_12 : decode cX7_nextByte 12 = .ok (.getfield 21, 3) := by decide +kernel
theorem dX7_nextByte_15 : decode cX7_nextByte 15 = .ok (.if_icmp .ge 24, 3) := by decide +kernel
theorem dX7_nextByte_18 : decode cX7_nextByte 18 = .ok (.aload_n 0, 1) := by decide +kernel
theorem dX7_nextByte_19 : decode cX7_nextByte 19 = .ok (.getfield 25, 3) := by decide +kernel
theorem dX7_nextByte_22 : decode cX7_nextByte 22 = .ok (.bipush 120, 2) := by decide +kernel
theorem dX7_nextByte_24 : decode cX7_nextByte 24 = .ok (.if_icmp .ge 15, 3) := by decide +kernel
theorem dX7_nextByte_27 : decode cX7_nextByte 27 = .ok (.aload_n 0, 1) := by decide +kernel
theorem dX7_nextByte_28 : decode cX7_nextByte 28 = .ok (.getfield 9, 3) := by decide +kernel
theorem dX7_nextByte_31 : decode cX7_nextByte 31 = .ok (.aload_n 0, 1) := by decide +kernel
theorem dX7_nextByte_32 : decode cX7_nextByte 32 = .ok (.getfield 25, 3) := by decide +kernel
theorem dX7_nextByte_35 : decode cX7_nextByte 35 = .ok (.iaload, 1) := by decide +kernel
theorem dX7_nextByte_36 : decode cX7_nextByte 36 = .ok (.goto 4, 3) := by decide +kernel
theorem dX7_nextByte_39 : decode cX7_nextByte 39 = .ok (.iconst (-1), 1) := by decide +kernel
theorem dX7_nextByte_40 : decode cX7_nextByte 40 = .ok (.ireturn, 1) := by decide +kernel
theorem dX7_numbersBehind_0 : decode cX7_numbersBehind 0 = .ok (.iload_n 0, 1) := by decide +kernel
theorem dX7_numbersBehind_1 : decode cX7_numbersBehind 1 = .ok (.tableswitch 103 98 117 #[101, 103, 103, 95, 97, 103, 103, 97, 103, 103, 103, 99, 103, 97, 97, 103, 99, 103, 101, 97], 95) := by decide +kernel
theorem dX7_numbersBehind_96 : decode cX7_numbersBehind 96 = .ok (.iconst 0, 1) := by decide +kernel
theorem dX7_numbersBehind_97 : decode cX7_numbersBehind 97 = .ok (.ireturn, 1) := by decide +kernel
theorem dX7_numbersBehind_98 : decode cX7_numbersBehind 98 = .ok (.iconst 1, 1) := by decide +kernel
theorem dX7_numbersBehind_99 : decode cX7_numbersBehind 99 = .ok (.ireturn, 1) := by decide +kernel
theorem dX7_numbersBehind_100 : decode cX7_numbersBehind 100 = .ok (.iconst 2, 1) := by decide +kernel
theorem dX7_numbersBehind_101 : decode cX7_numbersBehind 101 = .ok (.ireturn, 1) := by decide +kernel
theorem dX7_numbersBehind_102 : decode cX7_numbersBehind 102 = .ok (.iconst 3, 1) := by decide +kernel
theorem dX7_numbersBehind_103 : decode cX7_numbersBehind 103 = .ok (.ireturn, 1) := by decide +kernel
theorem dX7_numbersBehind_104 : decode cX7_numbersBehind 104 = .ok (.iconst (-1), 1) := by decide +kernel
theorem dX7_numbersBehind_105 : decode cX7_numbersBehind 105 = .ok (.ireturn, 1) := by decide +kernel
theorem dX8_init_0 : decode cX8_init 0 = .ok (.aload_n 0, 1) := by decide +kernel
theorem dX8_init_1 : decode cX8_init 1 = .ok (.invokespecial 3, 3) := by decide +kernel
theorem dX8_init_4 : decode cX8_init 4 = .ok (.aload_n 0, 1) := by decide +kernel
theorem dX8_init_5 : decode cX8_init 5 = .ok (.bipush 30, 2) := by decide +kernel
theorem dX8_init_7 : decode cX8_init 7 = .ok (.newarray .int, 2) := by decide +kernel
theorem dX8_init_9 : decode cX8_init 9 = .ok (.putfield 9, 3) := by decide +kernel
theorem dX8_init_12 : decode cX8_init 12 = .ok (.aload_n 0, 1) := by decide +kernel
theorem dX8_init_13 : decode cX8_init 13 = .ok (.bipush 30, 2) := by decide +kernel
theorem dX8_init_15 : decode cX8_init 15 = .ok (.newarray .int, 2) := by decide +kernel
theorem dX8_init_17 : decode cX8_init 17 = .ok (.putfield 15, 3) := by decide +kernel
theorem dX8_init_20 : decode cX8_init 20 = .ok (.return_, 1) := by decide +kernel
theorem dX8_fromTagsAndPins_0 : decode cX8_fromTagsAndPins 0 = .ok (.aload_n 0, 1) := by decide +kernel
theorem dX8_fromTagsAndPins_1 : decode cX8_fromTagsAndPins 1 = .ok (.invokevirtual 18, 3) := by decide +kernel
theorem dX8_fromTagsAndPins_4 : decode cX8_fromTagsAndPins 4 = .ok (.iconst 0, 1) := by decide +kernel
theorem dX8_fromTagsAndPins_5 : decode cX8_fromTagsAndPins 5 = .ok (.istore_n 2, 1) := by decide +kernel
theorem dX8_fromTagsAndPins_6 : decode cX8_fromTagsAndPins 6 = .ok (.iload_n 2, 1) := by decide +kernel
theorem dX8_fromTagsAndPins_7 : decode cX8_fromTagsAndPins 7 = .ok (.bipush 30, 2) := by decide +kernel
theorem dX8_fromTagsAndPins_9 : decode cX8_fromTagsAndPins 9 = .ok (.if_icmp .ge 56, 3) := by decide +kernel
theorem dX8_fromTagsAndPins_12 : decode cX8_fromTagsAndPins 12 = .ok (.aload_n 1, 1) := by decide +kernel
theorem dX8_fromTagsAndPins_13 : decode cX8_fromTagsAndPins 13 = .ok (.getfield 21, 3) := by decide +kernel
theorem dX8_fromTagsAndPins_16 : decode cX8_fromTagsAndPins 16 = .ok (.getfield 27, 3) := by decide +kernel
theorem dX8_fromTagsAndPins_19 : decode cX8_fromTagsAndPins 19 = .ok (.iload_n 2, 1) := by decide +kernel
theorem dX8_fromTagsAndPins_20 : decode cX8_fromTagsAndPins 20 = .ok (.iaload, 1) := by decide +kernel
theorem dX8_fromTagsAndPins_21 : decode cX8_fromTagsAndPins 21 = .ok (.iconst 1, 1) := by decide +kernel
theorem dX8_fromTagsAndPins_22 : decode cX8_fromTagsAndPins 22 = .ok (.if_icmp .eq 6, 3) := by decide +kernel
theorem dX8_fromTagsAndPins_25 : decode cX8_fromTagsAndPins 25 = .ok (.goto 34, 3) := by decide +kernel
theorem dX8_fromTagsAndPins_28 : decode cX8_fromTagsAndPins 28 = .ok (.aload_n 1, 1) := by decide +kernel
theorem dX8_fromTagsAndPins_29 : decode cX8_fromTagsAndPins 29 = .ok (.getfield 21, 3) := by decide +kernel
theorem dX8_fromTagsAndPins_32 : decode cX8_fromTagsAndPins 32 = .ok (.getfield 32, 3) := by decide +kernel
theorem dX8_fromTagsAndPins_35 : decode cX8_fromTagsAndPins 35 = .ok (.iload_n 2, 1) := by decide +kernel
theorem dX8_fromTagsAndPins_36 : decode cX8_fromTagsAndPins 36 = .ok (.iaload, 1) := by decide +kernel
theorem dX8_fromTagsAndPins_37 : decode cX8_fromTagsAndPins 37 = .ok (.iconst (-1), 1) := by decide +kernel
theorem dX8_fromTagsAndPins_38 : decode cX8_fromTagsAndPins 38 = .ok (.if_icmp .ne 15, 3) := by decide +kernel
theorem dX8_fromTagsAndPins_41 : decode cX8_fromTagsAndPins 41 = .ok (.aload_n 1, 1) := by decide +kernel
theorem dX8_fromTagsAndPins_42 : decode cX8_fromTagsAndPins 42 = .ok (.getfield 21, 3) := by decide +kernel
theorem dX8_fromTagsAndPins_45 : decode cX8_fromTagsAndPins 45 = .ok (.getfield 35, 3) := by decide +kernel
theorem dX8_fromTagsAndPins_48 : decode cX8_fromTagsAndPins 48 = .ok (.iload_n 2, 1) := by decide +kernel
theorem dX8_fromTagsAndPins_49 : decode cX8_fromTagsAndPins 49 = .ok (.iaload, 1) := by decide +kernel
theorem dX8_fromTagsAndPins_50 : decode cX8_fromTagsAndPins 50 = .ok (.ifCond .le 9, 3) := by decide +kernel
theorem dX8_fromTagsAndPins_53 : decode cX8_fromTagsAndPins 53 = .ok (.aload_n 0, 1) := by decide +kernel
theorem dX8_fromTagsAndPins_54 : decode cX8_fromTagsAndPins 54 = .ok (.iload_n 2, 1) := by decide +kernel
theorem dX8_fromTagsAndPins_55 : decode cX8_fromTagsAndPins 55 = .ok (.iconst 0, 1) := by decide +kernel
theorem dX8_fromTagsAndPins_56 : decode cX8_fromTagsAndPins 56 = .ok (.invokevirtual 38, 3) := by decide +kernel
theorem dX8_fromTagsAndPins_59 : decode cX8_fromTagsAndPins 59 = .ok (.iinc 2 1, 3) := by decide +kernel
theorem dX8_fromTagsAndPins_62 : decode cX8_fromTagsAndPins 62 = .ok (.goto (-56), 3) := by decide +kernel
theorem dX8_fromTagsAndPins_65 : decode cX8_fromTagsAndPins 65 = .ok (.aload_n 0, 1) := by decide +kernel
theorem dX8_fromTagsAndPins_66 : decode cX8_fromTagsAndPins 66 = .ok (.aload_n 1, 1) := by decide +kernel
theorem dX8_fromTagsAndPins_67 : decode cX8_fromTagsAndPins 67 = .ok (.invokevirtual 42, 3) := by decide +kernel
theorem dX8_fromTagsAndPins_70 : decode cX8_fromTagsAndPins 70 = .ok (.return_, 1) := by decide +kernel
