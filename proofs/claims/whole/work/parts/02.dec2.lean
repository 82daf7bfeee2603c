theorem dX10_laid_1 : decode cX10_laid 1 = .ok (.istore_n 1, 1) := by decide +kernel
theorem dX10_laid_2 : decode cX10_laid 2 = .ok (.iload_n 1, 1) := by decide +kernel
theorem dX10_laid_3 : decode cX10_laid 3 = .ok (.sipush 240, 3) := by decide +kernel
theorem dX10_laid_6 : decode cX10_laid 6 = .ok (.if_icmp .ge 17, 3) := by decide +kernel
theorem dX10_laid_9 : decode cX10_laid 9 = .ok (.aload_n 0, 1) := by decide +kernel
theorem dX10_laid_10 : decode cX10_laid 10 = .ok (.getfield 22, 3) := by decide +kernel
theorem dX10_laid_13 : decode cX10_laid 13 = .ok (.iload_n 1, 1) := by decide +kernel
theorem dX10_laid_14 : decode cX10_laid 14 = .ok (.bipush 101, 2) := by decide +kernel
theorem dX10_laid_16 : decode cX10_laid 16 = .ok (.iastore, 1) := by decide +kernel
theorem dX10_laid_17 : decode cX10_laid 17 = .ok (.iinc 1 1, 3) := by decide +kernel
theorem dX10_laid_20 : decode cX10_laid 20 = .ok (.goto (-18), 3) := by decide +kernel
theorem dX10_laid_23 : decode cX10_laid 23 = .ok (.iconst 0, 1) := by decide +kernel
theorem dX10_laid_24 : decode cX10_laid 24 = .ok (.istore_n 1, 1) := by decide +kernel
theorem dX10_laid_25 : decode cX10_laid 25 = .ok (.iload_n 1, 1) := by decide +kernel
theorem dX10_laid_26 : decode cX10_laid 26 = .ok (.aload_n 0, 1) := by decide +kernel
theorem dX10_laid_27 : decode cX10_laid 27 = .ok (.getfield 9, 3) := by decide +kernel
theorem dX10_laid_30 : decode cX10_laid 30 = .ok (.sipush 570, 3) := by decide +kernel
theorem dX10_laid_33 : decode cX10_laid 33 = .ok (.iaload, 1) := by decide +kernel
theorem dX10_laid_34 : decode cX10_laid 34 = .ok (.if_icmp .ge 50, 3) := by decide +kernel
theorem dX10_laid_37 : decode cX10_laid 37 = .ok (.iconst 0, 1) := by decide +kernel
theorem dX10_laid_38 : decode cX10_laid 38 = .ok (.istore_n 2, 1) := by decide +kernel
theorem dX10_laid_39 : decode cX10_laid 39 = .ok (.iload_n 2, 1) := by decide +kernel
theorem dX10_laid_40 : decode cX10_laid 40 = .ok (.aload_n 0, 1) := by decide +kernel
theorem dX10_laid_41 : decode cX10_laid 41 = .ok (.getfield 9, 3) := by decide +kernel
theorem dX10_laid_44 : decode cX10_laid 44 = .ok (.sipush 577, 3) := by decide +kernel
theorem dX10_laid_47 : decode cX10_laid 47 = .ok (.iload_n 1, 1) := by decide +kernel
theorem dX10_laid_48 : decode cX10_laid 48 = .ok (.iadd, 1) := by decide +kernel
theorem dX10_laid_49 : decode cX10_laid 49 = .ok (.iaload, 1) := by decide +kernel
theorem dX10_laid_50 : decode cX10_laid 50 = .ok (.if_icmp .ge 28, 3) := by decide +kernel
theorem dX10_laid_53 : decode cX10_laid 53 = .ok (.aload_n 0, 1) := by decide +kernel
theorem dX10_laid_54 : decode cX10_laid 54 = .ok (.getfield 22, 3) := by decide +kernel
theorem dX10_laid_57 : decode cX10_laid 57 = .ok (.aload_n 0, 1) := by decide +kernel
theorem dX10_laid_58 : decode cX10_laid 58 = .ok (.getfield 9, 3) := by decide +kernel
theorem dX10_laid_61 : decode cX10_laid 61 = .ok (.sipush 571, 3) := by decide +kernel
theorem dX10_laid_64 : decode cX10_laid 64 = .ok (.iload_n 1, 1) := by decide +kernel
theorem dX10_laid_65 : decode cX10_laid 65 = .ok (.iadd, 1) := by decide +kernel
theorem dX10_laid_66 : decode cX10_laid 66 = .ok (.iaload, 1) := by decide +kernel
theorem dX10_laid_67 : decode cX10_laid 67 = .ok (.iload_n 2, 1) := by decide +kernel
theorem dX10_laid_68 : decode cX10_laid 68 = .ok (.iadd, 1) := by decide +kernel
theorem dX10_laid_69 : decode cX10_laid 69 = .ok (.bipush 100, 2) := by decide +kernel
theorem dX10_laid_71 : decode cX10_laid 71 = .ok (.iastore, 1) := by decide +kernel
theorem dX10_laid_72 : decode cX10_laid 72 = .ok (.iinc 2 1, 3) := by decide +kernel
theorem dX10_laid_75 : decode cX10_laid 75 = .ok (.goto (-36), 3) := by decide +kernel
theorem dX10_laid_78 : decode cX10_laid 78 = .ok (.iinc 1 1, 3) := by decide +kernel
theorem dX10_laid_81 : decode cX10_laid 81 = .ok (.goto (-56), 3) := by decide +kernel
theorem dX10_laid_84 : decode cX10_laid 84 = .ok (.iconst 0, 1) := by decide +kernel
theorem dX10_laid_85 : decode cX10_laid 85 = .ok (.istore_n 1, 1) := by decide +kernel
theorem dX10_laid_86 : decode cX10_laid 86 = .ok (.iload_n 1, 1) := by decide +kernel
theorem dX10_laid_87 : decode cX10_laid 87 = .ok (.bipush 30, 2) := by decide +kernel
theorem dX10_laid_89 : decode cX10_laid 89 = .ok (.if_icmp .ge 50, 3) := by decide +kernel
theorem dX10_laid_92 : decode cX10_laid 92 = .ok (.iconst 0, 1) := by decide +kernel
theorem dX10_laid_93 : decode cX10_laid 93 = .ok (.istore_n 2, 1) := by decide +kernel
theorem dX10_laid_94 : decode cX10_laid 94 = .ok (.iload_n 2, 1) := by decide +kernel
theorem dX10_laid_95 : decode cX10_laid 95 = .ok (.aload_n 0, 1) := by decide +kernel
theorem dX10_laid_96 : decode cX10_laid 96 = .ok (.iload_n 1, 1) := by decide +kernel
theorem dX10_laid_97 : decode cX10_laid 97 = .ok (.iconst 3, 1) := by decide +kernel
theorem dX10_laid_98 : decode cX10_laid 98 = .ok (.invokevirtual 57, 3) := by decide +kernel
theorem dX10_laid_101 : decode cX10_laid 101 = .ok (.if_icmp .ge 32, 3) := by decide +kernel
theorem dX10_laid_104 : decode cX10_laid 104 = .ok (.aload_n 0, 1) := by decide +kernel
theorem dX10_laid_105 : decode cX10_laid 105 = .ok (.iload_n 1, 1) := by decide +kernel
theorem dX10_laid_106 : decode cX10_laid 106 = .ok (.iconst 0, 1) := by decide +kernel
theorem dX10_laid_107 : decode cX10_laid 107 = .ok (.invokevirtual 57, 3) := by decide +kernel
theorem dX10_laid_110 : decode cX10_laid 110 = .ok (.ifCond .eq 23, 3) := by decide +kernel
theorem dX10_laid_113 : decode cX10_laid 113 = .ok (.aload_n 0, 1) := by decide +kernel
theorem dX10_laid_114 : decode cX10_laid 114 = .ok (.getfield 22, 3) := by decide +kernel
theorem dX10_laid_117 : decode cX10_laid 117 = .ok (.aload_n 0, 1) := by decide +kernel
theorem dX10_laid_118 : decode cX10_laid 118 = .ok (.iload_n 1, 1) := by decide +kernel
theorem dX10_laid_119 : decode cX10_laid 119 = .ok (.iconst 2, 1) := by decide +kernel
theorem dX10_laid_120 : decode cX10_laid 120 = .ok (.invokevirtual 57, 3) := by decide +kernel
theorem dX10_laid_123 : decode cX10_laid 123 = .ok (.iload_n 2, 1) := by decide +kernel
theorem dX10_laid_124 : decode cX10_laid 124 = .ok (.iadd, 1) := by decide +kernel
theorem dX10_laid_125 : decode cX10_laid 125 = .ok (.iload_n 1, 1) := by decide +kernel
theorem dX10_laid_126 : decode cX10_laid 126 = .ok (.iastore, 1) := by decide +kernel
theorem dX10_laid_127 : decode cX10_laid 127 = .ok (.iinc 2 1, 3) := by decide +kernel
theorem dX10_laid_130 : decode cX10_laid 130 = .ok (.goto (-36), 3) := by decide +kernel
theorem dX10_laid_133 : decode cX10_laid 133 = .ok (.iinc 1 1, 3) := by decide +kernel
theorem dX10_laid_136 : decode cX10_laid 136 = .ok (.goto (-50), 3) := by decide +kernel
theorem dX10_laid_139 : decode cX10_laid 139 = .ok (.return_, 1) := by decide +kernel
theorem dX10_end_0 : decode cX10_end 0 = .ok (.aload_n 0, 1) := by decide +kernel
theorem dX10_end_1 : decode cX10_end 1 = .ok (.getfield 9, 3) := by decide +kernel
theorem dX10_end_4 : decode cX10_end 4 = .ok (.sipush 571, 3) := by decide +kernel
theorem dX10_end_7 : decode cX10_end 7 = .ok (.iload_n 1, 1) := by decide +kernel
theorem dX10_end_8 : decode cX10_end 8 = .ok (.iadd, 1) := by decide +kernel
theorem dX10_end_9 : decode cX10_end 9 = .ok (.iaload, 1) := by decide +kernel
theorem dX10_end_10 : decode cX10_end 10 = .ok (.aload_n 0, 1) := by decide +kernel
theorem dX10_end_11 : decode cX10_end 11 = .ok (.getfield 9, 3) := by decide +kernel
theorem dX10_end_14 : decode cX10_end 14 = .ok (.sipush 577, 3) := by decide +kernel
theorem dX10_end_17 : decode cX10_end 17 = .ok (.iload_n 1, 1) := by decide +kernel
theorem dX10_end_18 : decode cX10_end 18 = .ok (.iadd, 1) := by decide +kernel
theorem dX10_end_19 : decode cX10_end 19 = .ok (.iaload, 1) := by decide +kernel
theorem dX10_end_20 : decode cX10_end 20 = .ok (.iadd, 1) := by decide +kernel
theorem dX10_end_21 : decode cX10_end 21 = .ok (.ireturn, 1) := by decide +kernel
theorem dX10_placed_0 : decode cX10_placed 0 = .ok (.aload_n 0, 1) := by decide +kernel
theorem dX10_placed_1 : decode cX10_placed 1 = .ok (.getfield 9, 3) := by decide +kernel
theorem dX10_placed_4 : decode cX10_placed 4 = .ok (.sipush 583, 3) := by decide +kernel
theorem dX10_placed_7 : decode cX10_placed 7 = .ok (.iload_n 1, 1) := by decide +kernel
theorem dX10_placed_8 : decode cX10_placed 8 = .ok (.iadd, 1) := by decide +kernel
theorem dX10_placed_9 : decode cX10_placed 9 = .ok (.iaload, 1) := by decide +kernel
theorem dX10_placed_10 : decode cX10_placed 10 = .ok (.ifCond .ne 7, 3) := by decide +kernel
theorem dX10_placed_13 : decode cX10_placed 13 = .ok (.iconst 1, 1) := by decide +kernel
theorem dX10_placed_14 : decode cX10_placed 14 = .ok (.goto 4, 3) := by decide +kernel
theorem dX10_placed_17 : decode cX10_placed 17 = .ok (.iconst 0, 1) := by decide +kernel
theorem dX10_placed_18 : decode cX10_placed 18 = .ok (.istore_n 3, 1) := by decide +kernel
theorem dX10_placed_19 : decode cX10_placed 19 = .ok (.iconst 0, 1) := by decide +kernel
theorem dX10_placed_20 : decode cX10_placed 20 = .ok (.istore 4, 2) := by decide +kernel
theorem dX10_placed_22 : decode cX10_placed 22 = .ok (.iconst 0, 1) := by decide +kernel
theorem dX10_placed_23 : decode cX10_placed 23 = .ok (.istore 5, 2) := by decide +kernel
theorem dX10_placed_25 : decode cX10_placed 25 = .ok (.iload 5, 2) := by decide +kernel
theorem dX10_placed_27 : decode cX10_placed 27 = .ok (.aload_n 0, 1) := by decide +kernel
theorem dX10_placed_28 : decode cX10_placed 28 = .ok (.getfield 9, 3) := by decide +kernel
theorem dX10_placed_31 : decode cX10_placed 31 = .ok (.sipush 577, 3) := by decide +kernel
theorem dX10_placed_34 : decode cX10_placed 34 = .ok (.iload_n 1, 1) := by decide +kernel
theorem dX10_placed_35 : decode cX10_placed 35 = .ok (.iadd, 1) := by decide +kernel
theorem dX10_placed_36 : decode cX10_placed 36 = .ok (.iaload, 1) := by decide +kernel
theorem dX10_placed_37 : decode cX10_placed 37 = .ok (.if_icmp .ge 85, 3) := by decide +kernel
theorem dX10_placed_40 : decode cX10_placed 40 = .ok (.iload_n 3, 1) := by decide +kernel
theorem dX10_placed_41 : decode cX10_placed 41 = .ok (.ifCond .eq 19, 3) := by decide +kernel
theorem dX10_placed_44 : decode cX10_placed 44 = .ok (.aload_n 0, 1) := by decide +kernel
theorem dX10_placed_45 : decode cX10_placed 45 = .ok (.getfield 9, 3) := by decide +kernel
theorem dX10_placed_48 : decode cX10_placed 48 = .ok (.sipush 571, 3) := by decide +kernel
theorem dX10_placed_51 : decode cX10_placed 51 = .ok (.iload_n 1, 1) := by decide +kernel
theorem dX10_placed_52 : decode cX10_placed 52 = .ok (.iadd, 1) := by decide +kernel
theorem dX10_placed_53 : decode cX10_placed 53 = .ok (.iaload, 1) := by decide +kernel
theorem dX10_placed_54 : decode cX10_placed 54 = .ok (.iload 5, 2) := by decide +kernel
theorem dX10_placed_56 : decode cX10_placed 56 = .ok (.iadd, 1) := by decide +kernel
theorem dX10_placed_57 : decode cX10_placed 57 = .ok (.goto 13, 3) := by decide +kernel
theorem dX10_placed_60 : decode cX10_placed 60 = .ok (.aload_n 0, 1) := by decide +kernel
theorem dX10_placed_61 : decode cX10_placed 61 = .ok (.iload_n 1, 1) := by decide +kernel
theorem dX10_placed_62 : decode cX10_placed 62 = .ok (.invokevirtual 69, 3) := by decide +kernel
theorem dX10_placed_65 : decode cX10_placed 65 = .ok (.iconst 1, 1) := by decide +kernel
theorem dX10_placed_66 : decode cX10_placed 66 = .ok (.isub, 1) := by decide +kernel
theorem dX10_placed_67 : decode cX10_placed 67 = .ok (.iload 5, 2) := by decide +kernel
theorem dX10_placed_69 : decode cX10_placed 69 = .ok (.isub, 1) := by decide +kernel
theorem dX10_placed_70 : decode cX10_placed 70 = .ok (.istore 6, 2) := by decide +kernel
theorem dX10_placed_72 : decode cX10_placed 72 = .ok (.aload_n 0, 1) := by decide +kernel
theorem dX10_placed_73 : decode cX10_placed 73 = .ok (.getfield 22, 3) := by decide +kernel
theorem dX10_placed_76 : decode cX10_placed 76 = .ok (.iload 6, 2) := by decide +kernel
theorem dX10_placed_78 : decode cX10_placed 78 = .ok (.iaload, 1) := by decide +kernel
theorem dX10_placed_79 : decode cX10_placed 79 = .ok (.bipush 100, 2) := by decide +kernel
theorem dX10_placed_81 : decode cX10_placed 81 = .ok (.if_icmp .ne 10, 3) := by decide +kernel
theorem dX10_placed_84 : decode cX10_placed 84 = .ok (.iload 4, 2) := by decide +kernel
theorem dX10_placed_86 : decode cX10_placed 86 = .ok (.iconst 1, 1) := by decide +kernel
theorem dX10_placed_87 : decode cX10_placed 87 = .ok (.iadd, 1) := by decide +kernel
theorem dX10_placed_88 : decode cX10_placed 88 = .ok (.goto 4, 3) := by decide +kernel
theorem dX10_placed_91 : decode cX10_placed 91 = .ok (.iconst 0, 1) := by decide +kernel
theorem dX10_placed_92 : decode cX10_placed 92 = .ok (.istore 4, 2) := by decide +kernel
theorem dX10_placed_94 : decode cX10_placed 94 = .ok (.iload 4, 2) := by decide +kernel
theorem dX10_placed_96 : decode cX10_placed 96 = .ok (.iload_n 2, 1) := by decide +kernel
theorem dX10_placed_97 : decode cX10_placed 97 = .ok (.if_icmp .ne 19, 3) := by decide +kernel
theorem dX10_placed_100 : decode cX10_placed 100 = .ok (.iload_n 3, 1) := by decide +kernel
theorem dX10_placed_101 : decode cX10_placed 101 = .ok (.ifCond .eq 12, 3) := by decide +kernel
theorem dX10_placed_104 : decode cX10_placed 104 = .ok (.iload 6, 2) := by decide +kernel
theorem dX10_placed_106 : decode cX10_placed 106 = .ok (.iload_n 2, 1) := by decide +kernel
theorem dX10_placed_107 : decode cX10_placed 107 = .ok (.isub, 1) := by decide +kernel
theorem dX10_placed_108 : decode cX10_placed 108 = .ok (.iconst 1, 1) := by decide +kernel
theorem dX10_placed_109 : decode cX10_placed 109 = .ok (.iadd, 1) := by decide +kernel
theorem dX10_placed_110 : decode cX10_placed 110 = .ok (.goto 5, 3) := by decide +kernel
theorem dX10_placed_113 : decode cX10_placed 113 = .ok (.iload 6, 2) := by decide +kernel
theorem dX10_placed_115 : decode cX10_placed 115 = .ok (.ireturn, 1) := by decide +kernel
theorem dX10_placed_116 : decode cX10_placed 116 = .ok (.iinc 5 1, 3) := by decide +kernel
theorem dX10_placed_119 : decode cX10_placed 119 = .ok (.goto (-94), 3) := by decide +kernel
theorem dX10_placed_122 : decode cX10_placed 122 = .ok (.bipush (-2), 2) := by decide +kernel
theorem dX10_placed_124 : decode cX10_placed 124 = .ok (.ireturn, 1) := by decide +kernel
theorem dX10_used_0 : decode cX10_used 0 = .ok (.iconst 0, 1) := by decide +kernel
theorem dX10_used_1 : decode cX10_used 1 = .ok (.istore_n 2, 1) := by decide +kernel
theorem dX10_used_2 : decode cX10_used 2 = .ok (.iconst 0, 1) := by decide +kernel
theorem dX10_used_3 : decode cX10_used 3 = .ok (.istore_n 3, 1) := by decide +kernel
theorem dX10_used_4 : decode cX10_used 4 = .ok (.iload_n 3, 1) := by decide +kernel
theorem dX10_used_5 : decode cX10_used 5 = .ok (.bipush 30, 2) := by decide +kernel
theorem dX10_used_7 : decode cX10_used 7 = .ok (.if_icmp .ge 41, 3) := by decide +kernel
theorem dX10_used_10 : decode cX10_used 10 = .ok (.iload_n 2, 1) := by decide +kernel
theorem dX10_used_11 : decode cX10_used 11 = .ok (.aload_n 0, 1) := by decide +kernel
theorem dX10_used_12 : decode cX10_used 12 = .ok (.iload_n 3, 1) := by decide +kernel
theorem dX10_used_13 : decode cX10_used 13 = .ok (.iconst 0, 1) := by decide +kernel
theorem dX10_used_14 : decode cX10_used 14 = .ok (.invokevirtual 57, 3) := by decide +kernel
theorem dX10_used_17 : decode cX10_used 17 = .ok (.ifCond .eq 22, 3) := by decide +kernel
theorem dX10_used_20 : decode cX10_used 20 = .ok (.aload_n 0, 1) := by decide +kernel
theorem dX10_used_21 : decode cX10_used 21 = .ok (.iload_n 3, 1) := by decide +kernel
theorem dX10_used_22 : decode cX10_used 22 = .ok (.iconst 5, 1) := by decide +kernel
theorem dX10_used_23 : decode cX10_used 23 = .ok (.invokevirtual 57, 3) := by decide +kernel
theorem dX10_used_26 : decode cX10_used 26 = .ok (.iload_n 1, 1) := by decide +kernel
theorem dX10_used_27 : decode cX10_used 27 = .ok (.if_icmp .ne 12, 3) := by decide +kernel
theorem dX10_used_30 : decode cX10_used 30 = .ok (.aload_n 0, 1) := by decide +kernel
theorem dX10_used_31 : decode cX10_used 31 = .ok (.iload_n 3, 1) := by decide +kernel
theorem dX10_used_32 : decode cX10_used 32 = .ok (.iconst 3, 1) := by decide +kernel
theorem dX10_used_33 : decode cX10_used 33 = .ok (.invokevirtual 57, 3) := by decide +kernel
theorem dX10_used_36 : decode cX10_used 36 = .ok (.goto 4, 3) := by decide +kernel
theorem dX10_used_39 : decode cX10_used 39 = .ok (.iconst 0, 1) := by decide +kernel
theorem dX10_used_40 : decode cX10_used 40 = .ok (.iadd, 1) := by decide +kernel
theorem dX10_used_41 : decode cX10_used 41 = .ok (.istore_n 2, 1) := by decide +kernel
theorem dX10_used_42 : decode cX10_used 42 = .ok (.iinc 3 1, 3) := by decide +kernel
theorem dX10_used_45 : decode cX10_used 45 = .ok (.goto (-41), 3) := by decide +kernel
theorem dX10_used_48 : decode cX10_used 48 = .ok (.iload_n 2, 1) := by decide +kernel
theorem dX10_used_49 : decode cX10_used 49 = .ok (.ireturn, 1) := by decide +kernel
theorem dX10_freeSlot_0 : decode cX10_freeSlot 0 = .ok (.iconst 0, 1) := by decide +kernel
theorem dX10_freeSlot_1 : decode cX10_freeSlot 1 = .ok (.istore_n 1, 1) := by decide +kernel
theorem dX10_freeSlot_2 : decode cX10_freeSlot 2 = .ok (.iload_n 1, 1) := by decide +kernel
theorem dX10_freeSlot_3 : decode cX10_freeSlot 3 = .ok (.bipush 30, 2) := by decide +kernel
theorem dX10_freeSlot_5 : decode cX10_freeSlot 5 = .ok (.if_icmp .ge 20, 3) := by decide +kernel
theorem dX10_freeSlot_8 : decode cX10_freeSlot 8 = .ok (.aload_n 0, 1) := by decide +kernel
theorem dX10_freeSlot_9 : decode cX10_freeSlot 9 = .ok (.iload_n 1, 1) := by decide +kernel
theorem dX10_freeSlot_10 : decode cX10_freeSlot 10 = .ok (.iconst 0, 1) := by decide +kernel
theorem dX10_freeSlot_11 : decode cX10_freeSlot 11 = .ok (.invokevirtual 57, 3) := by decide +kernel
theorem dX10_freeSlot_14 : decode cX10_freeSlot 14 = .ok (.ifCond .ne 5, 3) := by decide +kernel
theorem dX10_freeSlot_17 : decode cX10_freeSlot 17 = .ok (.iload_n 1, 1) := by decide +kernel
theorem dX10_freeSlot_18 : decode cX10_freeSlot 18 = .ok (.ireturn, 1) := by decide +kernel
theorem dX10_freeSlot_19 : decode cX10_freeSlot 19 = .ok (.iinc 1 1, 3) := by decide +kernel
theorem dX10_freeSlot_22 : decode cX10_freeSlot 22 = .ok (.goto (-20), 3) := by decide +kernel
theorem dX10_freeSlot_25 : decode cX10_freeSlot 25 = .ok (.bipush (-2), 2) := by decide +kernel
theorem dX10_freeSlot_27 : decode cX10_freeSlot 27 = .ok (.ireturn, 1) := by decide +kernel
theorem dX10_region_0 : decode cX10_region 0 = .ok (.iload_n 1, 1) := by decide +kernel
theorem dX10_region_1 : decode cX10_region 1 = .ok (.bipush 8, 2) := by decide +kernel
theorem dX10_region_3 : decode cX10_region 3 = .ok (.bipush 120, 2) := by decide +kernel
theorem dX10_region_5 : decode cX10_region 5 = .ok (.invokestatic 65, 3) := by decide +kernel
theorem dX10_region_8 : decode cX10_region 8 = .ok (.ifCond .eq 12, 3) := by decide +kernel
theorem dX10_region_11 : decode cX10_region 11 = .ok (.iload_n 2, 1) := by decide +kernel
theorem dX10_region_12 : decode cX10_region 12 = .ok (.iconst 0, 1) := by decide +kernel
theorem dX10_region_13 : decode cX10_region 13 = .ok (.iconst 1, 1) := by decide +kernel
theorem dX10_region_14 : decode cX10_region 14 = .ok (.invokestatic 65, 3) := by decide +kernel
theorem dX10_region_17 : decode cX10_region 17 = .ok (.ifCond .ne 5, 3) := by decide +kernel
theorem dX10_region_20 : decode cX10_region 20 = .ok (.iconst (-1), 1) := by decide +kernel
theorem dX10_region_21 : decode cX10_region 21 = .ok (.ireturn, 1) := by decide +kernel
theorem dX10_region_22 : decode cX10_region 22 = .ok (.iconst 0, 1) := by decide +kernel
theorem dX10_region_23 : decode cX10_region 23 = .ok (.istore_n 3, 1) := by decide +kernel
theorem dX10_region_24 : decode cX10_region 24 = .ok (.iconst 0, 1) := by decide +kernel
theorem dX10_region_25 : decode cX10_region 25 = .ok (.istore 4, 2) := by decide +kernel
theorem dX10_region_27 : decode cX10_region 27 = .ok (.iload 4, 2) := by decide +kernel
theorem dX10_region_29 : decode cX10_region 29 = .ok (.aload_n 0, 1) := by decide +kernel
theorem dX10_region_30 : decode cX10_region 30 = .ok (.getfield 9, 3) := by decide +kernel
theorem dX10_region_33 : decode cX10_region 33 = .ok (.sipush 570, 3) := by decide +kernel
theorem dX10_region_36 : decode cX10_region 36 = .ok (.iaload, 1) := by decide +kernel
theorem dX10_region_37 : decode cX10_region 37 = .ok (.if_icmp .ge 30, 3) := by decide +kernel
theorem dX10_region_40 : decode cX10_region 40 = .ok (.aload_n 0, 1) := by decide +kernel
theorem dX10_region_41 : decode cX10_region 41 = .ok (.iload 4, 2) := by decide +kernel
theorem dX10_region_43 : decode cX10_region 43 = .ok (.invokevirtual 69, 3) := by decide +kernel
theorem dX10_region_46 : decode cX10_region 46 = .ok (.iload_n 3, 1) := by decide +kernel
theorem dX10_region_47 : decode cX10_region 47 = .ok (.if_icmp .le 12, 3) := by decide +kernel
theorem dX10_region_50 : decode cX10_region 50 = .ok (.aload_n 0, 1) := by decide +kernel
theorem dX10_region_51 : decode cX10_region 51 = .ok (.iload 4, 2) := by decide +kernel
theorem dX10_region_53 : decode cX10_region 53 = .ok (.invokevirtual 69, 3) := by decide +kernel
theorem dX10_region_56 : decode cX10_region 56 = .ok (.goto 4, 3) := by decide +kernel
theorem dX10_region_59 : decode cX10_region 59 = .ok (.iload_n 3, 1) := by decide +kernel
theorem dX10_region_60 : decode cX10_region 60 = .ok (.istore_n 3, 1) := by decide +kernel
theorem dX10_region_61 : decode cX10_region 61 = .ok (.iinc 4 1, 3) := by decide +kernel
theorem dX10_region_64 : decode cX10_region 64 = .ok (.goto (-37), 3) := by decide +kernel
theorem dX10_region_67 : decode cX10_region 67 = .ok (.aload_n 0, 1) := by decide +kernel
theorem dX10_region_68 : decode cX10_region 68 = .ok (.getfield 9, 3) := by decide +kernel
theorem dX10_region_71 : decode cX10_region 71 = .ok (.sipush 570, 3) := by decide +kernel
theorem dX10_region_74 : decode cX10_region 74 = .ok (.iaload, 1) := by decide +kernel
theorem dX10_region_75 : decode cX10_region 75 = .ok (.bipush 6, 2) := by decide +kernel
theorem dX10_region_77 : decode cX10_region 77 = .ok (.if_icmp .eq 12, 3) := by decide +kernel
theorem dX10_region_80 : decode cX10_region 80 = .ok (.iload_n 3, 1) := by decide +kernel
theorem dX10_region_81 : decode cX10_region 81 = .ok (.iload_n 1, 1) := by decide +kernel
theorem dX10_region_82 : decode cX10_region 82 = .ok (.iadd, 1) := by decide +kernel
theorem dX10_region_83 : decode cX10_region 83 = .ok (.sipush 240, 3) := by decide +kernel
theorem dX10_region_86 : decode cX10_region 86 = .ok (.if_icmp .le 6, 3) := by decide +kernel
theorem dX10_region_89 : decode cX10_region 89 = .ok (.bipush (-3), 2) := by decide +kernel
theorem dX10_region_91 : decode cX10_region 91 = .ok (.ireturn, 1) := by decide +kernel
theorem dX10_region_92 : decode cX10_region 92 = .ok (.aload_n 0, 1) := by decide +kernel
theorem dX10_region_93 : decode cX10_region 93 = .ok (.getfield 9, 3) := by decide +kernel
theorem dX10_region_96 : decode cX10_region 96 = .ok (.sipush 570, 3) := by decide +kernel
theorem dX10_region_99 : decode cX10_region 99 = .ok (.dup2, 1) := by decide +kernel
theorem dX10_region_100 : decode cX10_region 100 = .ok (.iaload, 1) := by decide +kernel
theorem dX10_region_101 : decode cX10_region 101 = .ok (.dup_x2, 1) := by decide +kernel
theorem dX10_region_102 : decode cX10_region 102 = .ok (.iconst 1, 1) := by decide +kernel
theorem dX10_region_103 : decode cX10_region 103 = .ok (.iadd, 1) := by decide +kernel
theorem dX10_region_104 : decode cX10_region 104 = .ok (.iastore, 1) := by decide +kernel
theorem dX10_region_105 : decode cX10_region 105 = .ok (.istore 4, 2) := by decide +kernel
theorem dX10_region_107 : decode cX10_region 107 = .ok (.aload_n 0, 1) := by decide +kernel
theorem dX10_region_108 : decode cX10_region 108 = .ok (.getfield 9, 3) := by decide +kernel
theorem dX10_region_111 : decode cX10_region 111 = .ok (.sipush 571, 3) := by decide +kernel
theorem dX10_region_114 : decode cX10_region 114 = .ok (.iload 4, 2) := by decide +kernel
theorem dX10_region_116 : decode cX10_region 116 = .ok (.iadd, 1) := by decide +kernel
theorem dX10_region_117 : decode cX10_region 117 = .ok (.iload_n 3, 1) := by decide +kernel
theorem dX10_region_118 : decode cX10_region 118 = .ok (.iastore, 1) := by decide +kernel
theorem dX10_region_119 : decode cX10_region 119 = .ok (.aload_n 0, 1) := by decide +kernel
theorem dX10_region_120 : decode cX10_region 120 = .ok (.getfield 9, 3) := by decide +kernel
theorem dX10_region_123 : decode cX10_region 123 = .ok (.sipush 577, 3) := by decide +kernel
theorem dX10_region_126 : decode cX10_region 126 = .ok (.iload 4, 2) := by decide +kernel
theorem dX10_region_128 : decode cX10_region 128 = .ok (.iadd, 1) := by decide +kernel
theorem dX10_region_129 : decode cX10_region 129 = .ok (.iload_n 1, 1) := by decide +kernel
theorem dX10_region_130 : decode cX10_region 130 = .ok (.iastore, 1) := by decide +kernel
theorem dX10_region_131 : decode cX10_region 131 = .ok (.aload_n 0, 1) := by decide +kernel
theorem dX10_region_132 : decode cX10_region 132 = .ok (.getfield 9, 3) := by decide +kernel
theorem dX10_region_135 : decode cX10_region 135 = .ok (.sipush 583, 3) := by decide +kernel
theorem dX10_region_138 : decode cX10_region 138 = .ok (.iload 4, 2) := by decide +kernel
theorem dX10_region_140 : decode cX10_region 140 = .ok (.iadd, 1) := by decide +kernel
theorem dX10_region_141 : decode cX10_region 141 = .ok (.iload_n 2, 1) := by decide +kernel
theorem dX10_region_142 : decode cX10_region 142 = .ok (.iastore, 1) := by decide +kernel
theorem dX10_region_143 : decode cX10_region 143 = .ok (.iload 4, 2) := by decide +kernel
theorem dX10_region_145 : decode cX10_region 145 = .ok (.ireturn, 1) := by decide +kernel
theorem dX10_block_0 : decode cX10_block 0 = .ok (.aload_n 0, 1) := by decide +kernel
theorem dX10_block_1 : decode cX10_block 1 = .ok (.iload_n 1, 1) := by decide +kernel
theorem dX10_block_2 : decode cX10_block 2 = .ok (.invokevirtual 73, 3) := by decide +kernel
theorem dX10_block_5 : decode cX10_block 5 = .ok (.ifCond .eq 23, 3) := by decide +kernel
theorem dX10_block_8 : decode cX10_block 8 = .ok (.iload_n 2, 1) := by decide +kernel
theorem dX10_block_9 : decode cX10_block 9 = .ok (.iconst 1, 1) := by decide +kernel
theorem dX10_block_10 : decode cX10_block 10 = .ok (.bipush 40, 2) := by decide +kernel
theorem dX10_block_12 : decode cX10_block 12 = .ok (.invokestatic 65, 3) := by decide +kernel
theorem dX10_block_15 : decode cX10_block 15 = .ok (.ifCond .eq 13, 3) := by decide +kernel
theorem dX10_block_18 : decode cX10_block 18 = .ok (.iload_n 3, 1) := by decide +kernel
theorem dX10_block_19 : decode cX10_block 19 = .ok (.iconst 0, 1) := by decide +kernel
theorem dX10_block_20 : decode cX10_block 20 = .ok (.bipush 9, 2) := by decide +kernel
theorem dX10_block_22 : decode cX10_block 22 = .ok (.invokestatic 65, 3) := by decide +kernel
theorem dX10_block_25 : decode cX10_block 25 = .ok (.ifCond .ne 5, 3) := by decide +kernel
theorem dX10_block_28 : decode cX10_block 28 = .ok (.iconst (-1), 1) := by decide +kernel
theorem dX10_block_29 : decode cX10_block 29 = .ok (.ireturn, 1) := by decide +kernel
theorem dX10_block_30 : decode cX10_block 30 = .ok (.aload_n 0, 1) := by decide +kernel
theorem dX10_block_31 : decode cX10_block 31 = .ok (.iload_n 3, 1) := by decide +kernel
theorem dX10_block_32 : decode cX10_block 32 = .ok (.invokevirtual 76, 3) := by decide +kernel
theorem dX10_block_35 : decode cX10_block 35 = .ok (.iload_n 2, 1) := by decide +kernel
theorem dX10_block_36 : decode cX10_block 36 = .ok (.iadd, 1) := by decide +kernel
theorem dX10_block_37 : decode cX10_block 37 = .ok (.aload_n 0, 1) := by decide +kernel
theorem dX10_block_38 : decode cX10_block 38 = .ok (.getfield 9, 3) := by decide +kernel
theorem dX10_block_41 : decode cX10_block 41 = .ok (.sipush 589, 3) := by decide +kernel
theorem dX10_block_44 : decode cX10_block 44 = .ok (.iload_n 3, 1) := by decide +kernel
theorem dX10_block_45 : decode cX10_block 45 = .ok (.iadd, 1) := by decide +kernel
theorem dX10_block_46 : decode cX10_block 46 = .ok (.iaload, 1) := by decide +kernel
theorem dX10_block_47 : decode cX10_block 47 = .ok (.if_icmp .le 6, 3) := by decide +kernel
theorem dX10_block_50 : decode cX10_block 50 = .ok (.bipush (-6), 2) := by decide +kernel
theorem dX10_block_52 : decode cX10_block 52 = .ok (.ireturn, 1) := by decide +kernel
theorem dX10_block_53 : decode cX10_block 53 = .ok (.aload_n 0, 1) := by decide +kernel
theorem dX10_block_54 : decode cX10_block 54 = .ok (.invokevirtual 79, 3) := by decide +kernel
theorem dX10_block_57 : decode cX10_block 57 = .ok (.aload_n 0, 1) := by decide +kernel
theorem dX10_block_58 : decode cX10_block 58 = .ok (.iload_n 1, 1) := by decide +kernel
theorem dX10_block_59 : decode cX10_block 59 = .ok (.iload_n 2, 1) := by decide +kernel
theorem dX10_block_60 : decode cX10_block 60 = .ok (.invokevirtual 82, 3) := by decide +kernel
theorem dX10_block_63 : decode cX10_block 63 = .ok (.istore 4, 2) := by decide +kernel
theorem dX10_block_65 : decode cX10_block 65 = .ok (.aload_n 0, 1) := by decide +kernel
theorem dX10_block_66 : decode cX10_block 66 = .ok (.invokevirtual 85, 3) := by decide +kernel
theorem dX10_block_69 : decode cX10_block 69 = .ok (.istore 5, 2) := by decide +kernel
theorem dX10_block_71 : decode cX10_block 71 = .ok (.iload 4, 2) := by decide +kernel
theorem dX10_block_73 : decode cX10_block 73 = .ok (.ifCond .lt 8, 3) := by decide +kernel
theorem dX10_block_76 : decode cX10_block 76 = .ok (.iload 5, 2) := by decide +kernel
theorem dX10_block_78 : decode cX10_block 78 = .ok (.ifCond .ge 6, 3) := by decide +kernel
theorem dX10_block_81 : decode cX10_block 81 = .ok (.bipush (-3), 2) := by decide +kernel
theorem dX10_block_83 : decode cX10_block 83 = .ok (.ireturn, 1) := by decide +kernel
theorem dX10_block_84 : decode cX10_block 84 = .ok (.aload_n 0, 1) := by decide +kernel
theorem dX10_block_85 : decode cX10_block 85 = .ok (.iload 5, 2) := by decide +kernel
theorem dX10_block_87 : decode cX10_block 87 = .ok (.iconst 0, 1) := by decide +kernel
theorem dX10_block_88 : decode cX10_block 88 = .ok (.iconst 1, 1) := by decide +kernel
theorem dX10_block_89 : decode cX10_block 89 = .ok (.invokevirtual 89, 3) := by decide +kernel
theorem dX10_block_92 : decode cX10_block 92 = .ok (.aload_n 0, 1) := by decide +kernel
theorem dX10_block_93 : decode cX10_block 93 = .ok (.iload 5, 2) := by decide +kernel
theorem dX10_block_95 : decode cX10_block 95 = .ok (.iconst 1, 1) := by decide +kernel
theorem dX10_block_96 : decode cX10_block 96 = .ok (.aload_n 0, 1) := by decide +kernel
theorem dX10_block_97 : decode cX10_block 97 = .ok (.iload 5, 2) := by decide +kernel
theorem dX10_block_99 : decode cX10_block 99 = .ok (.iconst 1, 1) := by decide +kernel
theorem dX10_block_100 : decode cX10_block 100 = .ok (.invokevirtual 57, 3) := by decide +kernel
theorem dX10_block_103 : decode cX10_block 103 = .ok (.iconst 1, 1) := by decide +kernel
theorem dX10_block_104 : decode cX10_block 104 = .ok (.iadd, 1) := by decide +kernel
theorem dX10_block_105 : decode cX10_block 105 = .ok (.invokevirtual 89, 3) := by decide +kernel
theorem dX10_block_108 : decode cX10_block 108 = .ok (.aload_n 0, 1) := by decide +kernel
theorem dX10_block_109 : decode cX10_block 109 = .ok (.iload 5, 2) := by decide +kernel
theorem dX10_block_111 : decode cX10_block 111 = .ok (.iconst 2, 1) := by decide +kernel
theorem dX10_block_112 : decode cX10_block 112 = .ok (.iload 4, 2) := by decide +kernel
theorem dX10_block_114 : decode cX10_block 114 = .ok (.invokevirtual 89, 3) := by decide +kernel
theorem dX10_block_117 : decode cX10_block 117 = .ok (.aload_n 0, 1) := by decide +kernel
theorem dX10_block_118 : decode cX10_block 118 = .ok (.iload 5, 2) := by decide +kernel
theorem dX10_block_120 : decode cX10_block 120 = .ok (.iconst 3, 1) := by decide +kernel
theorem dX10_block_121 : decode cX10_block 121 = .ok (.iload_n 2, 1) := by decide +kernel
theorem dX10_block_122 : decode cX10_block 122 = .ok (.invokevirtual 89, 3) := by decide +kernel
theorem dX10_block_125 : decode cX10_block 125 = .ok (.aload_n 0, 1) := by decide +kernel
theorem dX10_block_126 : decode cX10_block 126 = .ok (.iload 5, 2) := by decide +kernel
theorem dX10_block_128 : decode cX10_block 128 = .ok (.iconst 4, 1) := by decide +kernel
theorem dX10_block_129 : decode cX10_block 129 = .ok (.iload_n 1, 1) := by decide +kernel
theorem dX10_block_130 : decode cX10_block 130 = .ok (.invokevirtual 89, 3) := by decide +kernel
theorem dX10_block_133 : decode cX10_block 133 = .ok (.aload_n 0, 1) := by decide +kernel
theorem dX10_block_134 : decode cX10_block 134 = .ok (.iload 5, 2) := by decide +kernel
theorem dX10_block_136 : decode cX10_block 136 = .ok (.iconst 5, 1) := by decide +kernel
theorem dX10_block_137 : decode cX10_block 137 = .ok (.iload_n 3, 1) := by decide +kernel
theorem dX10_block_138 : decode cX10_block 138 = .ok (.invokevirtual 89, 3) := by decide +kernel
theorem dX10_block_141 : decode cX10_block 141 = .ok (.aload_n 0, 1) := by decide +kernel
theorem dX10_block_142 : decode cX10_block 142 = .ok (.iload 5, 2) := by decide +kernel
theorem dX10_block_144 : decode cX10_block 144 = .ok (.bipush 6, 2) := by decide +kernel
theorem dX10_block_146 : decode cX10_block 146 = .ok (.iconst 0, 1) := by decide +kernel
theorem dX10_block_147 : decode cX10_block 147 = .ok (.invokevirtual 89, 3) := by decide +kernel
theorem dX10_block_150 : decode cX10_block 150 = .ok (.aload_n 0, 1) := by decide +kernel
theorem dX10_block_151 : decode cX10_block 151 = .ok (.iload 5, 2) := by decide +kernel
theorem dX10_block_153 : decode cX10_block 153 = .ok (.bipush 7, 2) := by decide +kernel
theorem dX10_block_155 : decode cX10_block 155 = .ok (.iconst (-1), 1) := by decide +kernel
theorem dX10_block_156 : decode cX10_block 156 = .ok (.invokevirtual 89, 3) := by decide +kernel
theorem dX10_block_159 : decode cX10_block 159 = .ok (.iconst 0, 1) := by decide +kernel
theorem dX10_block_160 : decode cX10_block 160 = .ok (.istore 6, 2) := by decide +kernel
theorem dX10_block_162 : decode cX10_block 162 = .ok (.iload 6, 2) := by decide +kernel
theorem dX10_block_164 : decode cX10_block 164 = .ok (.iload_n 2, 1) := by decide +kernel
theorem dX10_block_165 : decode cX10_block 165 = .ok (.if_icmp .ge 24, 3) := by decide +kernel
theorem dX10_block_168 : decode cX10_block 168 = .ok (.aload_n 0, 1) := by decide +kernel
theorem dX10_block_169 : decode cX10_block 169 = .ok (.getfield 9, 3) := by decide +kernel
theorem dX10_block_172 : decode cX10_block 172 = .ok (.sipush 330, 3) := by decide +kernel
theorem dX10_block_175 : decode cX10_block 175 = .ok (.iload 4, 2) := by decide +kernel
theorem dX10_block_177 : decode cX10_block 177 = .ok (.iadd, 1) := by decide +kernel
theorem dX10_block_178 : decode cX10_block 178 = .ok (.iload 6, 2) := by decide +kernel
theorem dX10_block_180 : decode cX10_block 180 = .ok (.iadd, 1) := by decide +kernel
theorem dX10_block_181 : decode cX10_block 181 = .ok (.iconst 0, 1) := by decide +kernel
theorem dX10_block_182 : decode cX10_block 182 = .ok (.iastore, 1) := by decide +kernel
theorem dX10_block_183 : decode cX10_block 183 = .ok (.iinc 6 1, 3) := by decide +kernel
theorem dX10_block_186 : decode cX10_block 186 = .ok (.goto (-24), 3) := by decide +kernel
theorem dX10_block_189 : decode cX10_block 189 = .ok (.aload_n 0, 1) := by decide +kernel
theorem dX10_block_190 : decode cX10_block 190 = .ok (.iload 5, 2) := by decide +kernel
theorem dX10_block_192 : decode cX10_block 192 = .ok (.invokevirtual 93, 3) := by decide +kernel
theorem dX10_block_195 : decode cX10_block 195 = .ok (.ireturn, 1) := by decide +kernel
theorem dX10_free_0 : decode cX10_free 0 = .ok (.aload_n 0, 1) := by decide +kernel
theorem dX10_free_1 : decode cX10_free 1 = .ok (.iload_n 1, 1) := by decide +kernel
theorem dX10_free_2 : decode cX10_free 2 = .ok (.invokevirtual 96, 3) := by decide +kernel
theorem dX10_free_5 : decode cX10_free 5 = .ok (.istore_n 2, 1) := by decide +kernel
theorem dX10_free_6 : decode cX10_free 6 = .ok (.iload_n 2, 1) := by decide +kernel
theorem dX10_free_7 : decode cX10_free 7 = .ok (.ifCond .ge 6, 3) := by decide +kernel
theorem dX10_free_10 : decode cX10_free 10 = .ok (.bipush (-4), 2) := by decide +kernel
theorem dX10_free_12 : decode cX10_free 12 = .ok (.ireturn, 1) := by decide +kernel
theorem dX10_free_13 : decode cX10_free 13 = .ok (.aload_n 0, 1) := by decide +kernel
theorem dX10_free_14 : decode cX10_free 14 = .ok (.iload_n 2, 1) := by decide +kernel
theorem dX10_free_15 : decode cX10_free 15 = .ok (.bipush 6, 2) := by decide +kernel
theorem dX10_free_17 : decode cX10_free 17 = .ok (.invokevirtual 57, 3) := by decide +kernel
theorem dX10_free_20 : decode cX10_free 20 = .ok (.ifCond .le 6, 3) := by decide +kernel
theorem dX10_free_23 : decode cX10_free 23 = .ok (.bipush (-5), 2) := by decide +kernel
theorem dX10_free_25 : decode cX10_free 25 = .ok (.ireturn, 1) := by decide +kernel
theorem dX10_free_26 : decode cX10_free 26 = .ok (.aload_n 0, 1) := by decide +kernel
theorem dX10_free_27 : decode cX10_free 27 = .ok (.iload_n 2, 1) := by decide +kernel
theorem dX10_free_28 : decode cX10_free 28 = .ok (.iconst 0, 1) := by decide +kernel
theorem dX10_free_29 : decode cX10_free 29 = .ok (.iconst 2, 1) := by decide +kernel
theorem dX10_free_30 : decode cX10_free 30 = .ok (.invokevirtual 89, 3) := by decide +kernel
theorem dX10_free_33 : decode cX10_free 33 = .ok (.aload_n 0, 1) := by decide +kernel
theorem dX10_free_34 : decode cX10_free 34 = .ok (.iload_n 2, 1) := by decide +kernel
theorem dX10_free_35 : decode cX10_free 35 = .ok (.bipush 7, 2) := by decide +kernel
theorem dX10_free_37 : decode cX10_free 37 = .ok (.iconst (-1), 1) := by decide +kernel
theorem dX10_free_38 : decode cX10_free 38 = .ok (.invokevirtual 89, 3) := by decide +kernel
theorem dX10_free_41 : decode cX10_free 41 = .ok (.aload_n 0, 1) := by decide +kernel
theorem dX10_free_42 : decode cX10_free 42 = .ok (.iload_n 2, 1) := by decide +kernel
theorem dX10_free_43 : decode cX10_free 43 = .ok (.bipush 9, 2) := by decide +kernel
theorem dX10_free_45 : decode cX10_free 45 = .ok (.aload_n 0, 1) := by decide +kernel
theorem dX10_free_46 : decode cX10_free 46 = .ok (.getfield 9, 3) := by decide +kernel
theorem dX10_free_49 : decode cX10_free 49 = .ok (.sipush 605, 3) := by decide +kernel
theorem dX10_free_52 : decode cX10_free 52 = .ok (.iaload, 1) := by decide +kernel
theorem dX10_free_53 : decode cX10_free 53 = .ok (.invokevirtual 89, 3) := by decide +kernel
theorem dX10_free_56 : decode cX10_free 56 = .ok (.aload_n 0, 1) := by decide +kernel
theorem dX10_free_57 : decode cX10_free 57 = .ok (.iload_n 2, 1) := by decide +kernel
theorem dX10_free_58 : decode cX10_free 58 = .ok (.bipush 10, 2) := by decide +kernel
theorem dX10_free_60 : decode cX10_free 60 = .ok (.aload_n 0, 1) := by decide +kernel
theorem dX10_free_61 : decode cX10_free 61 = .ok (.getfield 9, 3) := by decide +kernel
theorem dX10_free_64 : decode cX10_free 64 = .ok (.sipush 606, 3) := by decide +kernel
theorem dX10_free_67 : decode cX10_free 67 = .ok (.dup2, 1) := by decide +kernel
theorem dX10_free_68 : decode cX10_free 68 = .ok (.iaload, 1) := by decide +kernel
theorem dX10_free_69 : decode cX10_free 69 = .ok (.dup_x2, 1) := by decide +kernel
theorem dX10_free_70 : decode cX10_free 70 = .ok (.iconst 1, 1) := by decide +kernel
theorem dX10_free_71 : decode cX10_free 71 = .ok (.iadd, 1) := by decide +kernel
theorem dX10_free_72 : decode cX10_free 72 = .ok (.iastore, 1) := by decide +kernel
theorem dX10_free_73 : decode cX10_free 73 = .ok (.invokevirtual 89, 3) := by decide +kernel
theorem dX10_free_76 : decode cX10_free 76 = .ok (.aload_n 0, 1) := by decide +kernel
theorem dX10_free_77 : decode cX10_free 77 = .ok (.getfield 9, 3) := by decide +kernel
theorem dX10_free_80 : decode cX10_free 80 = .ok (.sipush 605, 3) := by decide +kernel
theorem dX10_free_83 : decode cX10_free 83 = .ok (.iaload, 1) := by decide +kernel
theorem dX10_free_84 : decode cX10_free 84 = .ok (.ireturn, 1) := by decide +kernel
theorem dX10_pin_0 : decode cX10_pin 0 = .ok (.iload_n 2, 1) := by decide +kernel
theorem dX10_pin_1 : decode cX10_pin 1 = .ok (.iconst 1, 1) := by decide +kernel
theorem dX10_pin_2 : decode cX10_pin 2 = .ok (.if_icmp .eq 10, 3) := by decide +kernel
theorem dX10_pin_5 : decode cX10_pin 5 = .ok (.iload_n 2, 1) := by decide +kernel
theorem dX10_pin_6 : decode cX10_pin 6 = .ok (.iconst (-1), 1) := by decide +kernel
theorem dX10_pin_7 : decode cX10_pin 7 = .ok (.if_icmp .eq 5, 3) := by decide +kernel
theorem dX10_pin_10 : decode cX10_pin 10 = .ok (.iconst (-1), 1) := by decide +kernel
theorem dX10_pin_11 : decode cX10_pin 11 = .ok (.ireturn, 1) := by decide +kernel
theorem dX10_pin_12 : decode cX10_pin 12 = .ok (.aload_n 0, 1) := by decide +kernel
theorem dX10_pin_13 : decode cX10_pin 13 = .ok (.iload_n 1, 1) := by decide +kernel
theorem dX10_pin_14 : decode cX10_pin 14 = .ok (.invokevirtual 96, 3) := by decide +kernel
theorem dX10_pin_17 : decode cX10_pin 17 = .ok (.istore_n 3, 1) := by decide +kernel
theorem dX10_pin_18 : decode cX10_pin 18 = .ok (.iload_n 3, 1) := by decide +kernel
theorem dX10_pin_19 : decode cX10_pin 19 = .ok (.ifCond .ge 6, 3) := by decide +kernel
theorem dX10_pin_22 : decode cX10_pin 22 = .ok (.bipush (-4), 2) := by decide +kernel
theorem dX10_pin_24 : decode cX10_pin 24 = .ok (.ireturn, 1) := by decide +kernel
theorem dX10_pin_25 : decode cX10_pin 25 = .ok (.aload_n 0, 1) := by decide +kernel
theorem dX10_pin_26 : decode cX10_pin 26 = .ok (.iload_n 3, 1) := by decide +kernel
theorem dX10_pin_27 : decode cX10_pin 27 = .ok (.bipush 6, 2) := by decide +kernel
theorem dX10_pin_29 : decode cX10_pin 29 = .ok (.invokevirtual 57, 3) := by decide +kernel
theorem dX10_pin_32 : decode cX10_pin 32 = .ok (.iload_n 2, 1) := by decide +kernel
theorem dX10_pin_33 : decode cX10_pin 33 = .ok (.iadd, 1) := by decide +kernel
theorem dX10_pin_34 : decode cX10_pin 34 = .ok (.iconst 0, 1) := by decide +kernel
theorem dX10_pin_35 : decode cX10_pin 35 = .ok (.bipush 9, 2) := by decide +kernel
theorem dX10_pin_37 : decode cX10_pin 37 = .ok (.invokestatic 65, 3) := by decide +kernel
theorem dX10_pin_40 : decode cX10_pin 40 = .ok (.ifCond .ne 6, 3) := by decide +kernel
theorem dX10_pin_43 : decode cX10_pin 43 = .ok (.bipush (-5), 2) := by decide +kernel
theorem dX10_pin_45 : decode cX10_pin 45 = .ok (.ireturn, 1) := by decide +kernel
theorem dX10_pin_46 : decode cX10_pin 46 = .ok (.aload_n 0, 1) := by decide +kernel
theorem dX10_pin_47 : decode cX10_pin 47 = .ok (.iload_n 3, 1) := by decide +kernel
theorem dX10_pin_48 : decode cX10_pin 48 = .ok (.bipush 6, 2) := by decide +kernel
theorem dX10_pin_50 : decode cX10_pin 50 = .ok (.aload_n 0, 1) := by decide +kernel
theorem dX10_pin_51 : decode cX10_pin 51 = .ok (.iload_n 3, 1) := by decide +kernel
theorem dX10_pin_52 : decode cX10_pin 52 = .ok (.bipush 6, 2) := by decide +kernel
theorem dX10_pin_54 : decode cX10_pin 54 = .ok (.invokevirtual 57, 3) := by decide +kernel
theorem dX10_pin_57 : decode cX10_pin 57 = .ok (.iload_n 2, 1) := by decide +kernel
theorem dX10_pin_58 : decode cX10_pin 58 = .ok (.iadd, 1) := by decide +kernel
theorem dX10_pin_59 : decode cX10_pin 59 = .ok (.invokevirtual 89, 3) := by decide +kernel
theorem dX10_pin_62 : decode cX10_pin 62 = .ok (.aload_n 0, 1) := by decide +kernel
theorem dX10_pin_63 : decode cX10_pin 63 = .ok (.iload_n 3, 1) := by decide +kernel
theorem dX10_pin_64 : decode cX10_pin 64 = .ok (.bipush 6, 2) := by decide +kernel
theorem dX10_pin_66 : decode cX10_pin 66 = .ok (.invokevirtual 57, 3) := by decide +kernel
theorem dX10_pin_69 : decode cX10_pin 69 = .ok (.ireturn, 1) := by decide +kernel
theorem dX10_goes_0 : decode cX10_goes 0 = .ok (.sipush 330, 3) := by decide +kernel
theorem dX10_goes_3 : decode cX10_goes 3 = .ok (.aload_n 0, 1) := by decide +kernel
theorem dX10_goes_4 : decode cX10_goes 4 = .ok (.iload_n 1, 1) := by decide +kernel
theorem dX10_goes_5 : decode cX10_goes 5 = .ok (.iconst 2, 1) := by decide +kernel
theorem dX10_goes_6 : decode cX10_goes 6 = .ok (.invokevirtual 57, 3) := by decide +kernel
theorem dX10_goes_9 : decode cX10_goes 9 = .ok (.iadd, 1) := by decide +kernel
theorem dX10_goes_10 : decode cX10_goes 10 = .ok (.istore_n 3, 1) := by decide +kernel
theorem dX10_goes_11 : decode cX10_goes 11 = .ok (.iconst 0, 1) := by decide +kernel
theorem dX10_goes_12 : decode cX10_goes 12 = .ok (.istore 4, 2) := by decide +kernel
theorem dX10_goes_14 : decode cX10_goes 14 = .ok (.iload 4, 2) := by decide +kernel
theorem dX10_goes_16 : decode cX10_goes 16 = .ok (.aload_n 0, 1) := by decide +kernel
theorem dX10_goes_17 : decode cX10_goes 17 = .ok (.iload_n 1, 1) := by decide +kernel
theorem dX10_goes_18 : decode cX10_goes 18 = .ok (.iconst 3, 1) := by decide +kernel
theorem dX10_goes_19 : decode cX10_goes 19 = .ok (.invokevirtual 57, 3) := by decide +kernel
theorem dX10_goes_22 : decode cX10_goes 22 = .ok (.if_icmp .ge 25, 3) := by decide +kernel
theorem dX10_goes_25 : decode cX10_goes 25 = .ok (.aload_n 0, 1) := by decide +kernel
theorem dX10_goes_26 : decode cX10_goes 26 = .ok (.getfield 25, 3) := by decide +kernel
theorem dX10_goes_29 : decode cX10_goes 29 = .ok (.iload 4, 2) := by decide +kernel
theorem dX10_goes_31 : decode cX10_goes 31 = .ok (.aload_n 0, 1) := by decide +kernel
theorem dX10_goes_32 : decode cX10_goes 32 = .ok (.getfield 9, 3) := by decide +kernel
theorem dX10_goes_35 : decode cX10_goes 35 = .ok (.iload_n 3, 1) := by decide +kernel
theorem dX10_goes_36 : decode cX10_goes 36 = .ok (.iload 4, 2) := by decide +kernel
theorem dX10_goes_38 : decode cX10_goes 38 = .ok (.iadd, 1) := by decide +kernel
theorem dX10_goes_39 : decode cX10_goes 39 = .ok (.iaload, 1) := by decide +kernel
theorem dX10_goes_40 : decode cX10_goes 40 = .ok (.iastore, 1) := by decide +kernel
theorem dX10_goes_41 : decode cX10_goes 41 = .ok (.iinc 4 1, 3) := by decide +kernel
theorem dX10_goes_44 : decode cX10_goes 44 = .ok (.goto (-30), 3) := by decide +kernel
theorem dX10_goes_47 : decode cX10_goes 47 = .ok (.iconst 0, 1) := by decide +kernel
theorem dX10_goes_48 : decode cX10_goes 48 = .ok (.istore 4, 2) := by decide +kernel
theorem dX10_goes_50 : decode cX10_goes 50 = .ok (.iload 4, 2) := by decide +kernel
theorem dX10_goes_52 : decode cX10_goes 52 = .ok (.aload_n 0, 1) := by decide +kernel
theorem dX10_goes_53 : decode cX10_goes 53 = .ok (.iload_n 1, 1) := by decide +kernel
theorem dX10_goes_54 : decode cX10_goes 54 = .ok (.iconst 3, 1) := by decide +kernel
theorem dX10_goes_55 : decode cX10_goes 55 = .ok (.invokevirtual 57, 3) := by decide +kernel
theorem dX10_goes_58 : decode cX10_goes 58 = .ok (.if_icmp .ge 29, 3) := by decide +kernel
theorem dX10_goes_61 : decode cX10_goes 61 = .ok (.aload_n 0, 1) := by decide +kernel
theorem dX10_goes_62 : decode cX10_goes 62 = .ok (.getfield 9, 3) := by decide +kernel
theorem dX10_goes_65 : decode cX10_goes 65 = .ok (.sipush 330, 3) := by decide +kernel
theorem dX10_goes_68 : decode cX10_goes 68 = .ok (.iload_n 2, 1) := by decide +kernel
theorem dX10_goes_69 : decode cX10_goes 69 = .ok (.iadd, 1) := by decide +kernel
theorem dX10_goes_70 : decode cX10_goes 70 = .ok (.iload 4, 2) := by decide +kernel
theorem dX10_goes_72 : decode cX10_goes 72 = .ok (.iadd, 1) := by decide +kernel
theorem dX10_goes_73 : decode cX10_goes 73 = .ok (.aload_n 0, 1) := by decide +kernel
theorem dX10_goes_74 : decode cX10_goes 74 = .ok (.getfield 25, 3) := by decide +kernel
theorem dX10_goes_77 : decode cX10_goes 77 = .ok (.iload 4, 2) := by decide +kernel
theorem dX10_goes_79 : decode cX10_goes 79 = .ok (.iaload, 1) := by decide +kernel
theorem dX10_goes_80 : decode cX10_goes 80 = .ok (.iastore, 1) := by decide +kernel
theorem dX10_goes_81 : decode cX10_goes 81 = .ok (.iinc 4 1, 3) := by decide +kernel
theorem dX10_goes_84 : decode cX10_goes 84 = .ok (.goto (-34), 3) := by decide +kernel
theorem dX10_goes_87 : decode cX10_goes 87 = .ok (.aload_n 0, 1) := by decide +kernel
theorem dX10_goes_88 : decode cX10_goes 88 = .ok (.iload_n 1, 1) := by decide +kernel
theorem dX10_goes_89 : decode cX10_goes 89 = .ok (.iconst 2, 1) := by decide +kernel
theorem dX10_goes_90 : decode cX10_goes 90 = .ok (.iload_n 2, 1) := by decide +kernel
theorem dX10_goes_91 : decode cX10_goes 91 = .ok (.invokevirtual 89, 3) := by decide +kernel
theorem dX10_goes_94 : decode cX10_goes 94 = .ok (.return_, 1) := by decide +kernel
theorem dX10_isFreeBehind_0 : decode cX10_isFreeBehind 0 = .ok (.aload_n 0, 1) := by decide +kernel
theorem dX10_isFreeBehind_1 : decode cX10_isFreeBehind 1 = .ok (.iload_n 1, 1) := by decide +kernel
theorem dX10_isFreeBehind_2 : decode cX10_isFreeBehind 2 = .ok (.iconst 2, 1) := by decide +kernel
theorem dX10_isFreeBehind_3 : decode cX10_isFreeBehind 3 = .ok (.invokevirtual 57, 3) := by decide +kernel
theorem dX10_isFreeBehind_6 : decode cX10_isFreeBehind 6 = .ok (.aload_n 0, 1) := by decide +kernel
theorem dX10_isFreeBehind_7 : decode cX10_isFreeBehind 7 = .ok (.iload_n 1, 1) := by decide +kernel
theorem dX10_isFreeBehind_8 : decode cX10_isFreeBehind 8 = .ok (.iconst 3, 1) := by decide +kernel
theorem dX10_isFreeBehind_9 : decode cX10_isFreeBehind 9 = .ok (.invokevirtual 57, 3) := by decide +kernel
theorem dX10_isFreeBehind_12 : decode cX10_isFreeBehind 12 = .ok (.iadd, 1) := by decide +kernel
theorem dX10_isFreeBehind_13 : decode cX10_isFreeBehind 13 = .ok (.istore_n 3, 1) := by decide +kernel
theorem dX10_isFreeBehind_14 : decode cX10_isFreeBehind 14 = .ok (.iconst 0, 1) := by decide +kernel
theorem dX10_isFreeBehind_15 : decode cX10_isFreeBehind 15 = .ok (.istore 4, 2) := by decide +kernel
theorem dX10_isFreeBehind_17 : decode cX10_isFreeBehind 17 = .ok (.iload 4, 2) := by decide +kernel
theorem dX10_isFreeBehind_19 : decode cX10_isFreeBehind 19 = .ok (.iload_n 2, 1) := by decide +kernel
theorem dX10_isFreeBehind_20 : decode cX10_isFreeBehind 20 = .ok (.if_icmp .ge 42, 3) := by decide +kernel
theorem dX10_isFreeBehind_23 : decode cX10_isFreeBehind 23 = .ok (.iload_n 3, 1) := by decide +kernel
theorem dX10_isFreeBehind_24 : decode cX10_isFreeBehind 24 = .ok (.iload 4, 2) := by decide +kernel
theorem dX10_isFreeBehind_26 : decode cX10_isFreeBehind 26 = .ok (.iadd, 1) := by decide +kernel
theorem dX10_isFreeBehind_27 : decode cX10_isFreeBehind 27 = .ok (.aload_n 0, 1) := by decide +kernel
theorem dX10_isFreeBehind_28 : decode cX10_isFreeBehind 28 = .ok (.aload_n 0, 1) := by decide +kernel
theorem dX10_isFreeBehind_29 : decode cX10_isFreeBehind 29 = .ok (.iload_n 1, 1) := by decide +kernel
theorem dX10_isFreeBehind_30 : decode cX10_isFreeBehind 30 = .ok (.iconst 4, 1) := by decide +kernel
theorem dX10_isFreeBehind_31 : decode cX10_isFreeBehind 31 = .ok (.invokevirtual 57, 3) := by decide +kernel
theorem dX10_isFreeBehind_34 : decode cX10_isFreeBehind 34 = .ok (.invokevirtual 69, 3) := by decide +kernel
theorem dX10_isFreeBehind_37 : decode cX10_isFreeBehind 37 = .ok (.if_icmp .ge 17, 3) := by decide +kernel
theorem dX10_isFreeBehind_40 : decode cX10_isFreeBehind 40 = .ok (.aload_n 0, 1) := by decide +kernel
theorem dX10_isFreeBehind_41 : decode cX10_isFreeBehind 41 = .ok (.getfield 22, 3) := by decide +kernel
theorem dX10_isFreeBehind_44 : decode cX10_isFreeBehind 44 = .ok (.iload_n 3, 1) := by decide +kernel
theorem dX10_isFreeBehind_45 : decode cX10_isFreeBehind 45 = .ok (.iload 4, 2) := by decide +kernel
theorem dX10_isFreeBehind_47 : decode cX10_isFreeBehind 47 = .ok (.iadd, 1) := by decide +kernel
theorem dX10_isFreeBehind_48 : decode cX10_isFreeBehind 48 = .ok (.iaload, 1) := by decide +kernel
theorem dX10_isFreeBehind_49 : decode cX10_isFreeBehind 49 = .ok (.bipush 100, 2) := by decide +kernel
theorem dX10_isFreeBehind_51 : decode cX10_isFreeBehind 51 = .ok (.if_icmp .eq 5, 3) := by decide +kernel
theorem dX10_isFreeBehind_54 : decode cX10_isFreeBehind 54 = .ok (.iconst 0, 1) := by decide +kernel
theorem dX10_isFreeBehind_55 : decode cX10_isFreeBehind 55 = .ok (.ireturn, 1) := by decide +kernel
theorem dX10_isFreeBehind_56 : decode cX10_isFreeBehind 56 = .ok (.iinc 4 1, 3) := by decide +kernel
theorem dX10_isFreeBehind_59 : decode cX10_isFreeBehind 59 = .ok (.goto (-42), 3) := by decide +kernel
theorem dX10_isFreeBehind_62 : decode cX10_isFreeBehind 62 = .ok (.iconst 1, 1) := by decide +kernel
theorem dX10_isFreeBehind_63 : decode cX10_isFreeBehind 63 = .ok (.ireturn, 1) := by decide +kernel
theorem dX10_grow_0 : decode cX10_grow 0 = .ok (.iload_n 2, 1) := by decide +kernel
theorem dX10_grow_1 : decode cX10_grow 1 = .ok (.iconst 1, 1) := by decide +kernel
theorem dX10_grow_2 : decode cX10_grow 2 = .ok (.bipush 39, 2) := by decide +kernel
theorem dX10_grow_4 : decode cX10_grow 4 = .ok (.invokestatic 65, 3) := by decide +kernel
theorem dX10_grow_7 : decode cX10_grow 7 = .ok (.ifCond .ne 5, 3) := by decide +kernel
theorem dX10_grow_10 : decode cX10_grow 10 = .ok (.iconst (-1), 1) := by decide +kernel
theorem dX10_grow_11 : decode cX10_grow 11 = .ok (.ireturn, 1) := by decide +kernel
theorem dX10_grow_12 : decode cX10_grow 12 = .ok (.aload_n 0, 1) := by decide +kernel
theorem dX10_grow_13 : decode cX10_grow 13 = .ok (.iload_n 1, 1) := by decide +kernel
theorem dX10_grow_14 : decode cX10_grow 14 = .ok (.invokevirtual 96, 3) := by decide +kernel
theorem dX10_grow_17 : decode cX10_grow 17 = .ok (.istore_n 3, 1) := by decide +kernel
theorem dX10_grow_18 : decode cX10_grow 18 = .ok (.iload_n 3, 1) := by decide +kernel
theorem dX10_grow_19 : decode cX10_grow 19 = .ok (.ifCond .ge 6, 3) := by decide +kernel
theorem dX10_grow_22 : decode cX10_grow 22 = .ok (.bipush (-4), 2) := by decide +kernel
theorem dX10_grow_24 : decode cX10_grow 24 = .ok (.ireturn, 1) := by decide +kernel
theorem dX10_grow_25 : decode cX10_grow 25 = .ok (.aload_n 0, 1) := by decide +kernel
theorem dX10_grow_26 : decode cX10_grow 26 = .ok (.iload_n 3, 1) := by decide +kernel
theorem dX10_grow_27 : decode cX10_grow 27 = .ok (.bipush 6, 2) := by decide +kernel
theorem dX10_grow_29 : decode cX10_grow 29 = .ok (.invokevirtual 57, 3) := by decide +kernel
theorem dX10_grow_32 : decode cX10_grow 32 = .ok (.ifCond .le 6, 3) := by decide +kernel
theorem dX10_grow_35 : decode cX10_grow 35 = .ok (.bipush (-5), 2) := by decide +kernel
theorem dX10_grow_37 : decode cX10_grow 37 = .ok (.ireturn, 1) := by decide +kernel
theorem dX10_grow_38 : decode cX10_grow 38 = .ok (.aload_n 0, 1) := by decide +kernel
theorem dX10_grow_39 : decode cX10_grow 39 = .ok (.aload_n 0, 1) := by decide +kernel
theorem dX10_grow_40 : decode cX10_grow 40 = .ok (.iload_n 3, 1) := by decide +kernel
theorem dX10_grow_41 : decode cX10_grow 41 = .ok (.iconst 5, 1) := by decide +kernel
theorem dX10_grow_42 : decode cX10_grow 42 = .ok (.invokevirtual 57, 3) := by decide +kernel
theorem dX10_grow_45 : decode cX10_grow 45 = .ok (.invokevirtual 76, 3) := by decide +kernel
theorem dX10_grow_48 : decode cX10_grow 48 = .ok (.iload_n 2, 1) := by decide +kernel
theorem dX10_grow_49 : decode cX10_grow 49 = .ok (.iadd, 1) := by decide +kernel
theorem dX10_grow_50 : decode cX10_grow 50 = .ok (.aload_n 0, 1) := by decide +kernel
theorem dX10_grow_51 : decode cX10_grow 51 = .ok (.getfield 9, 3) := by decide +kernel
theorem dX10_grow_54 : decode cX10_grow 54 = .ok (.sipush 589, 3) := by decide +kernel
theorem dX10_grow_57 : decode cX10_grow 57 = .ok (.aload_n 0, 1) := by decide +kernel
theorem dX10_grow_58 : decode cX10_grow 58 = .ok (.iload_n 3, 1) := by decide +kernel
theorem dX10_grow_59 : decode cX10_grow 59 = .ok (.iconst 5, 1) := by decide +kernel
theorem dX10_grow_60 : decode cX10_grow 60 = .ok (.invokevirtual 57, 3) := by decide +kernel
theorem dX10_grow_63 : decode cX10_grow 63 = .ok (.iadd, 1) := by decide +kernel
theorem dX10_grow_64 : decode cX10_grow 64 = .ok (.iaload, 1) := by decide +kernel
theorem dX10_grow_65 : decode cX10_grow 65 = .ok (.if_icmp .le 6, 3) := by decide +kernel
theorem dX10_grow_68 : decode cX10_grow 68 = .ok (.bipush (-6), 2) := by decide +kernel
theorem dX10_grow_70 : decode cX10_grow 70 = .ok (.ireturn, 1) := by decide +kernel
theorem dX10_grow_71 : decode cX10_grow 71 = .ok (.aload_n 0, 1) := by decide +kernel
theorem dX10_grow_72 : decode cX10_grow 72 = .ok (.iload_n 3, 1) := by decide +kernel
theorem dX10_grow_73 : decode cX10_grow 73 = .ok (.iconst 3, 1) := by decide +kernel
theorem dX10_grow_74 : decode cX10_grow 74 = .ok (.invokevirtual 57, 3) := by decide +kernel
theorem dX10_grow_77 : decode cX10_grow 77 = .ok (.iload_n 2, 1) := by decide +kernel
theorem dX10_grow_78 : decode cX10_grow 78 = .ok (.iadd, 1) := by decide +kernel
theorem dX10_grow_79 : decode cX10_grow 79 = .ok (.istore 4, 2) := by decide +kernel
theorem dX10_grow_81 : decode cX10_grow 81 = .ok (.aload_n 0, 1) := by decide +kernel
theorem dX10_grow_82 : decode cX10_grow 82 = .ok (.invokevirtual 79, 3) := by decide +kernel
theorem dX10_grow_85 : decode cX10_grow 85 = .ok (.aload_n 0, 1) := by decide +kernel
theorem dX10_grow_86 : decode cX10_grow 86 = .ok (.iload_n 3, 1) := by decide +kernel
theorem dX10_grow_87 : decode cX10_grow 87 = .ok (.iload_n 2, 1) := by decide +kernel
theorem dX10_grow_88 : decode cX10_grow 88 = .ok (.invokevirtual 99, 3) := by decide +kernel
theorem dX10_grow_91 : decode cX10_grow 91 = .ok (.istore 5, 2) := by decide +kernel
theorem dX10_grow_93 : decode cX10_grow 93 = .ok (.iload 5, 2) := by decide +kernel
theorem dX10_grow_95 : decode cX10_grow 95 = .ok (.ifCond .eq 12, 3) := by decide +kernel
theorem dX10_grow_98 : decode cX10_grow 98 = .ok (.aload_n 0, 1) := by decide +kernel
theorem dX10_grow_99 : decode cX10_grow 99 = .ok (.iload_n 3, 1) := by decide +kernel
theorem dX10_grow_100 : decode cX10_grow 100 = .ok (.iconst 2, 1) := by decide +kernel
theorem dX10_grow_101 : decode cX10_grow 101 = .ok (.invokevirtual 57, 3) := by decide +kernel
theorem dX10_grow_104 : decode cX10_grow 104 = .ok (.goto 15, 3) := by decide +kernel
theorem dX10_grow_107 : decode cX10_grow 107 = .ok (.aload_n 0, 1) := by decide +kernel
theorem dX10_grow_108 : decode cX10_grow 108 = .ok (.aload_n 0, 1) := by decide +kernel
theorem dX10_grow_109 : decode cX10_grow 109 = .ok (.iload_n 3, 1) := by decide +kernel
theorem dX10_grow_110 : decode cX10_grow 110 = .ok (.iconst 4, 1) := by decide +kernel
theorem dX10_grow_111 : decode cX10_grow 111 = .ok (.invokevirtual 57, 3) := by decide +kernel
theorem dX10_grow_114 : decode cX10_grow 114 = .ok (.iload 4, 2) := by decide +kernel
theorem dX10_grow_116 : decode cX10_grow 116 = .ok (.invokevirtual 82, 3) := by decide +kernel
theorem dX10_grow_119 : decode cX10_grow 119 = .ok (.istore 6, 2) := by decide +kernel
theorem dX10_grow_121 : decode cX10_grow 121 = .ok (.iload 4, 2) := by decide +kernel
theorem dX10_grow_123 : decode cX10_grow 123 = .ok (.bipush 40, 2) := by decide +kernel
theorem dX10_grow_125 : decode cX10_grow 125 = .ok (.if_icmp .gt 8, 3) := by decide +kernel
theorem dX10_grow_128 : decode cX10_grow 128 = .ok (.iload 6, 2) := by decide +kernel
theorem dX10_grow_130 : decode cX10_grow 130 = .ok (.ifCond .ge 6, 3) := by decide +kernel
theorem dX10_grow_133 : decode cX10_grow 133 = .ok (.bipush (-3), 2) := by decide +kernel
theorem dX10_grow_135 : decode cX10_grow 135 = .ok (.ireturn, 1) := by decide +kernel
theorem dX10_grow_136 : decode cX10_grow 136 = .ok (.aload_n 0, 1) := by decide +kernel
theorem dX10_grow_137 : decode cX10_grow 137 = .ok (.iload_n 3, 1) := by decide +kernel
theorem dX10_grow_138 : decode cX10_grow 138 = .ok (.iload 6, 2) := by decide +kernel
theorem dX10_grow_140 : decode cX10_grow 140 = .ok (.invokevirtual 103, 3) := by decide +kernel
theorem dX10_grow_143 : decode cX10_grow 143 = .ok (.aload_n 0, 1) := by decide +kernel
theorem dX10_grow_144 : decode cX10_grow 144 = .ok (.iload_n 3, 1) := by decide +kernel
theorem dX10_grow_145 : decode cX10_grow 145 = .ok (.iconst 3, 1) := by decide +kernel
theorem dX10_grow_146 : decode cX10_grow 146 = .ok (.invokevirtual 57, 3) := by decide +kernel
theorem dX10_grow_149 : decode cX10_grow 149 = .ok (.istore 7, 2) := by decide +kernel
theorem dX10_grow_151 : decode cX10_grow 151 = .ok (.iload 7, 2) := by decide +kernel
theorem dX10_grow_153 : decode cX10_grow 153 = .ok (.iload 4, 2) := by decide +kernel
theorem dX10_grow_155 : decode cX10_grow 155 = .ok (.if_icmp .ge 24, 3) := by decide +kernel
theorem dX10_grow_158 : decode cX10_grow 158 = .ok (.aload_n 0, 1) := by decide +kernel
theorem dX10_grow_159 : decode cX10_grow 159 = .ok (.getfield 9, 3) := by decide +kernel
theorem dX10_grow_162 : decode cX10_grow 162 = .ok (.sipush 330, 3) := by decide +kernel
theorem dX10_grow_165 : decode cX10_grow 165 = .ok (.iload 6, 2) := by decide +kernel
theorem dX10_grow_167 : decode cX10_grow 167 = .ok (.iadd, 1) := by decide +kernel
theorem dX10_grow_168 : decode cX10_grow 168 = .ok (.iload 7, 2) := by decide +kernel
theorem dX10_grow_170 : decode cX10_grow 170 = .ok (.iadd, 1) := by decide +kernel
theorem dX10_grow_171 : decode cX10_grow 171 = .ok (.iconst 0, 1) := by decide +kernel
theorem dX10_grow_172 : decode cX10_grow 172 = .ok (.iastore, 1) := by decide +kernel
theorem dX10_grow_173 : decode cX10_grow 173 = .ok (.iinc 7 1, 3) := by decide +kernel
theorem dX10_grow_176 : decode cX10_grow 176 = .ok (.goto (-25), 3) := by decide +kernel
theorem dX10_grow_179 : decode cX10_grow 179 = .ok (.aload_n 0, 1) := by decide +kernel
theorem dX10_grow_180 : decode cX10_grow 180 = .ok (.iload_n 3, 1) := by decide +kernel
theorem dX10_grow_181 : decode cX10_grow 181 = .ok (.iconst 3, 1) := by decide +kernel
theorem dX10_grow_182 : decode cX10_grow 182 = .ok (.iload 4, 2) := by decide +kernel
theorem dX10_grow_184 : decode cX10_grow 184 = .ok (.invokevirtual 89, 3) := by decide +kernel
theorem dX10_grow_187 : decode cX10_grow 187 = .ok (.iload 4, 2) := by decide +kernel
theorem dX10_grow_189 : decode cX10_grow 189 = .ok (.ireturn, 1) := by decide +kernel
theorem dX10_nextBlock_0 : decode cX10_nextBlock 0 = .ok (.bipush (-2), 2) := by decide +kernel
theorem dX10_nextBlock_2 : decode cX10_nextBlock 2 = .ok (.istore 4, 2) := by decide +kernel
theorem dX10_nextBlock_4 : decode cX10_nextBlock 4 = .ok (.iconst 0, 1) := by decide +kernel
theorem dX10_nextBlock_5 : decode cX10_nextBlock 5 = .ok (.istore 5, 2) := by decide +kernel
theorem dX10_nextBlock_7 : decode cX10_nextBlock 7 = .ok (.iload 5, 2) := by decide +kernel
theorem dX10_nextBlock_9 : decode cX10_nextBlock 9 = .ok (.bipush 30, 2) := by decide +kernel
theorem dX10_nextBlock_11 : decode cX10_nextBlock 11 = .ok (.if_icmp .ge 126, 3) := by decide +kernel
theorem dX10_nextBlock_14 : decode cX10_nextBlock 14 = .ok (.aload_n 0, 1) := by decide +kernel
theorem dX10_nextBlock_15 : decode cX10_nextBlock 15 = .ok (.iload 5, 2) := by decide +kernel
theorem dX10_nextBlock_17 : decode cX10_nextBlock 17 = .ok (.iconst 0, 1) := by decide +kernel
theorem dX10_nextBlock_18 : decode cX10_nextBlock 18 = .ok (.invokevirtual 57, 3) := by decide +kernel
theorem dX10_nextBlock_21 : decode cX10_nextBlock 21 = .ok (.ifCond .eq 110, 3) := by decide +kernel
theorem dX10_nextBlock_24 : decode cX10_nextBlock 24 = .ok (.aload_n 0, 1) := by decide +kernel
theorem dX10_nextBlock_25 : decode cX10_nextBlock 25 = .ok (.iload 5, 2) := by decide +kernel
theorem dX10_nextBlock_27 : decode cX10_nextBlock 27 = .ok (.iconst 4, 1) := by decide +kernel
theorem dX10_nextBlock_28 : decode cX10_nextBlock 28 = .ok (.invokevirtual 57, 3) := by decide +kernel
theorem dX10_nextBlock_31 : decode cX10_nextBlock 31 = .ok (.iload_n 1, 1) := by decide +kernel
theorem dX10_nextBlock_32 : decode cX10_nextBlock 32 = .ok (.if_icmp .ne 99, 3) := by decide +kernel
theorem dX10_nextBlock_35 : decode cX10_nextBlock 35 = .ok (.iload_n 3, 1) := by decide +kernel
theorem dX10_nextBlock_36 : decode cX10_nextBlock 36 = .ok (.ifCond .eq 17, 3) := by decide +kernel
theorem dX10_nextBlock_39 : decode cX10_nextBlock 39 = .ok (.aload_n 0, 1) := by decide +kernel
theorem dX10_nextBlock_40 : decode cX10_nextBlock 40 = .ok (.iload 5, 2) := by decide +kernel
theorem dX10_nextBlock_42 : decode cX10_nextBlock 42 = .ok (.iconst 2, 1) := by decide +kernel
theorem dX10_nextBlock_43 : decode cX10_nextBlock 43 = .ok (.invokevirtual 57, 3) := by decide +kernel
theorem dX10_nextBlock_46 : decode cX10_nextBlock 46 = .ok (.iload_n 2, 1) := by decide +kernel
theorem dX10_nextBlock_47 : decode cX10_nextBlock 47 = .ok (.if_icmp .lt 84, 3) := by decide +kernel
theorem dX10_nextBlock_50 : decode cX10_nextBlock 50 = .ok (.goto 14, 3) := by decide +kernel
theorem dX10_nextBlock_53 : decode cX10_nextBlock 53 = .ok (.aload_n 0, 1) := by decide +kernel
theorem dX10_nextBlock_54 : decode cX10_nextBlock 54 = .ok (.iload 5, 2) := by decide +kernel
theorem dX10_nextBlock_56 : decode cX10_nextBlock 56 = .ok (.iconst 2, 1) := by decide +kernel
theorem dX10_nextBlock_57 : decode cX10_nextBlock 57 = .ok (.invokevirtual 57, 3) := by decide +kernel
theorem dX10_nextBlock_60 : decode cX10_nextBlock 60 = .ok (.iload_n 2, 1) := by decide +kernel
theorem dX10_nextBlock_61 : decode cX10_nextBlock 61 = .ok (.if_icmp .ge 70, 3) := by decide +kernel
theorem dX10_nextBlock_64 : decode cX10_nextBlock 64 = .ok (.iload 4, 2) := by decide +kernel
theorem dX10_nextBlock_66 : decode cX10_nextBlock 66 = .ok (.ifCond .lt 44, 3) := by decide +kernel
theorem dX10_nextBlock_69 : decode cX10_nextBlock 69 = .ok (.iload_n 3, 1) := by decide +kernel
theorem dX10_nextBlock_70 : decode cX10_nextBlock 70 = .ok (.ifCond .eq 23, 3) := by decide +kernel
theorem dX10_nextBlock_73 : decode cX10_nextBlock 73 = .ok (.aload_n 0, 1) := by decide +kernel
theorem dX10_nextBlock_74 : decode cX10_nextBlock 74 = .ok (.iload 5, 2) := by decide +kernel
theorem dX10_nextBlock_76 : decode cX10_nextBlock 76 = .ok (.iconst 2, 1) := by decide +kernel
theorem dX10_nextBlock_77 : decode cX10_nextBlock 77 = .ok (.invokevirtual 57, 3) := by decide +kernel
theorem dX10_nextBlock_80 : decode cX10_nextBlock 80 = .ok (.aload_n 0, 1) := by decide +kernel
theorem dX10_nextBlock_81 : decode cX10_nextBlock 81 = .ok (.iload 4, 2) := by decide +kernel
theorem dX10_nextBlock_83 : decode cX10_nextBlock 83 = .ok (.iconst 2, 1) := by decide +kernel
theorem dX10_nextBlock_84 : decode cX10_nextBlock 84 = .ok (.invokevirtual 57, 3) := by decide +kernel
theorem dX10_nextBlock_87 : decode cX10_nextBlock 87 = .ok (.if_icmp .ge 27, 3) := by decide +kernel
theorem dX10_nextBlock_90 : decode cX10_nextBlock 90 = .ok (.goto 20, 3) := by decide +kernel
theorem dX10_nextBlock_93 : decode cX10_nextBlock 93 = .ok (.aload_n 0, 1) := by decide +kernel
theorem dX10_nextBlock_94 : decode cX10_nextBlock 94 = .ok (.iload 5, 2) := by decide +kernel
theorem dX10_nextBlock_96 : decode cX10_nextBlock 96 = .ok (.iconst 2, 1) := by decide +kernel
theorem dX10_nextBlock_97 : decode cX10_nextBlock 97 = .ok (.invokevirtual 57, 3) := by decide +kernel
theorem dX10_nextBlock_100 : decode cX10_nextBlock 100 = .ok (.aload_n 0, 1) := by decide +kernel
theorem dX10_nextBlock_101 : decode cX10_nextBlock 101 = .ok (.iload 4, 2) := by decide +kernel
theorem dX10_nextBlock_103 : decode cX10_nextBlock 103 = .ok (.iconst 2, 1) := by decide +kernel
theorem dX10_nextBlock_104 : decode cX10_nextBlock 104 = .ok (.invokevirtual 57, 3) := by decide +kernel
theorem dX10_nextBlock_107 : decode cX10_nextBlock 107 = .ok (.if_icmp .le 7, 3) := by decide +kernel
theorem dX10_nextBlock_110 : decode cX10_nextBlock 110 = .ok (.iconst 1, 1) := by decide +kernel
theorem dX10_nextBlock_111 : decode cX10_nextBlock 111 = .ok (.goto 4, 3) := by decide +kernel
theorem dX10_nextBlock_114 : decode cX10_nextBlock 114 = .ok (.iconst 0, 1) := by decide +kernel
theorem dX10_nextBlock_115 : decode cX10_nextBlock 115 = .ok (.istore 6, 2) := by decide +kernel
theorem dX10_nextBlock_117 : decode cX10_nextBlock 117 = .ok (.iload 6, 2) := by decide +kernel
theorem dX10_nextBlock_119 : decode cX10_nextBlock 119 = .ok (.ifCond .eq 8, 3) := by decide +kernel
theorem dX10_nextBlock_122 : decode cX10_nextBlock 122 = .ok (.iload 5, 2) := by decide +kernel
theorem dX10_nextBlock_124 : decode cX10_nextBlock 124 = .ok (.goto 5, 3) := by decide +kernel
theorem dX10_nextBlock_127 : decode cX10_nextBlock 127 = .ok (.iload 4, 2) := by decide +kernel
theorem dX10_nextBlock_129 : decode cX10_nextBlock 129 = .ok (.istore 4, 2) := by decide +kernel
theorem dX10_nextBlock_131 : decode cX10_nextBlock 131 = .ok (.iinc 5 1, 3) := by decide +kernel
theorem dX10_nextBlock_134 : decode cX10_nextBlock 134 = .ok (.goto (-127), 3) := by decide +kernel
theorem dX10_nextBlock_137 : decode cX10_nextBlock 137 = .ok (.iload 4, 2) := by decide +kernel
theorem dX10_nextBlock_139 : decode cX10_nextBlock 139 = .ok (.ireturn, 1) := by decide +kernel
theorem dX10_moved_0 : decode cX10_moved 0 = .ok (.aload_n 0, 1) := by decide +kernel
theorem dX10_moved_1 : decode cX10_moved 1 = .ok (.getfield 9, 3) := by decide +kernel
theorem dX10_moved_4 : decode cX10_moved 4 = .ok (.sipush 583, 3) := by decide +kernel
theorem dX10_moved_7 : decode cX10_moved 7 = .ok (.iload_n 1, 1) := by decide +kernel
theorem dX10_moved_8 : decode cX10_moved 8 = .ok (.iadd, 1) := by decide +kernel
theorem dX10_moved_9 : decode cX10_moved 9 = .ok (.iaload, 1) := by decide +kernel
theorem dX10_moved_10 : decode cX10_moved 10 = .ok (.ifCond .ne 7, 3) := by decide +kernel
theorem dX10_moved_13 : decode cX10_moved 13 = .ok (.iconst 1, 1) := by decide +kernel
theorem dX10_moved_14 : decode cX10_moved 14 = .ok (.goto 4, 3) := by decide +kernel
theorem dX10_moved_17 : decode cX10_moved 17 = .ok (.iconst 0, 1) := by decide +kernel
theorem dX10_moved_18 : decode cX10_moved 18 = .ok (.istore_n 3, 1) := by decide +kernel
theorem dX10_moved_19 : decode cX10_moved 19 = .ok (.iload_n 3, 1) := by decide +kernel
theorem dX10_moved_20 : decode cX10_moved 20 = .ok (.ifCond .eq 16, 3) := by decide +kernel
theorem dX10_moved_23 : decode cX10_moved 23 = .ok (.aload_n 0, 1) := by decide +kernel
theorem dX10_moved_24 : decode cX10_moved 24 = .ok (.getfield 9, 3) := by decide +kernel
theorem dX10_moved_27 : decode cX10_moved 27 = .ok (.sipush 571, 3) := by decide +kernel
theorem dX10_moved_30 : decode cX10_moved 30 = .ok (.iload_n 1, 1) := by decide +kernel
theorem dX10_moved_31 : decode cX10_moved 31 = .ok (.iadd, 1) := by decide +kernel
theorem dX10_moved_32 : decode cX10_moved 32 = .ok (.iaload, 1) := by decide +kernel
theorem dX10_moved_33 : decode cX10_moved 33 = .ok (.goto 8, 3) := by decide +kernel
theorem dX10_moved_36 : decode cX10_moved 36 = .ok (.aload_n 0, 1) := by decide +kernel
theorem dX10_moved_37 : decode cX10_moved 37 = .ok (.iload_n 1, 1) := by decide +kernel
theorem dX10_moved_38 : decode cX10_moved 38 = .ok (.invokevirtual 69, 3) := by decide +kernel
theorem dX10_moved_41 : decode cX10_moved 41 = .ok (.istore 4, 2) := by decide +kernel
theorem dX10_moved_43 : decode cX10_moved 43 = .ok (.iconst 0, 1) := by decide +kernel
theorem dX10_moved_44 : decode cX10_moved 44 = .ok (.istore 5, 2) := by decide +kernel
theorem dX10_moved_46 : decode cX10_moved 46 = .ok (.aload_n 0, 1) := by decide +kernel
theorem dX10_moved_47 : decode cX10_moved 47 = .ok (.iload_n 1, 1) := by decide +kernel
theorem dX10_moved_48 : decode cX10_moved 48 = .ok (.iload 4, 2) := by decide +kernel
theorem dX10_moved_50 : decode cX10_moved 50 = .ok (.iload_n 3, 1) := by decide +kernel
theorem dX10_moved_51 : decode cX10_moved 51 = .ok (.invokevirtual 107, 3) := by decide +kernel
theorem dX10_moved_54 : decode cX10_moved 54 = .ok (.istore 6, 2) := by decide +kernel
theorem dX10_moved_56 : decode cX10_moved 56 = .ok (.iload 6, 2) := by decide +kernel
theorem dX10_moved_58 : decode cX10_moved 58 = .ok (.ifCond .lt 137, 3) := by decide +kernel
theorem dX10_moved_61 : decode cX10_moved 61 = .ok (.iload_n 3, 1) := by decide +kernel
theorem dX10_moved_62 : decode cX10_moved 62 = .ok (.ifCond .eq 8, 3) := by decide +kernel
theorem dX10_moved_65 : decode cX10_moved 65 = .ok (.iload 4, 2) := by decide +kernel
theorem dX10_moved_67 : decode cX10_moved 67 = .ok (.goto 13, 3) := by decide +kernel
theorem dX10_moved_70 : decode cX10_moved 70 = .ok (.iload 4, 2) := by decide +kernel
theorem dX10_moved_72 : decode cX10_moved 72 = .ok (.aload_n 0, 1) := by decide +kernel
theorem dX10_moved_73 : decode cX10_moved 73 = .ok (.iload 6, 2) := by decide +kernel
theorem dX10_moved_75 : decode cX10_moved 75 = .ok (.iconst 3, 1) := by decide +kernel
theorem dX10_moved_76 : decode cX10_moved 76 = .ok (.invokevirtual 57, 3) := by decide +kernel
theorem dX10_moved_79 : decode cX10_moved 79 = .ok (.isub, 1) := by decide +kernel
theorem dX10_moved_80 : decode cX10_moved 80 = .ok (.istore 7, 2) := by decide +kernel
theorem dX10_moved_82 : decode cX10_moved 82 = .ok (.aload_n 0, 1) := by decide +kernel
theorem dX10_moved_83 : decode cX10_moved 83 = .ok (.iload 6, 2) := by decide +kernel
theorem dX10_moved_85 : decode cX10_moved 85 = .ok (.invokevirtual 61, 3) := by decide +kernel
theorem dX10_moved_88 : decode cX10_moved 88 = .ok (.ifCond .eq 63, 3) := by decide +kernel
theorem dX10_moved_91 : decode cX10_moved 91 = .ok (.aload_n 0, 1) := by decide +kernel
theorem dX10_moved_92 : decode cX10_moved 92 = .ok (.iload 6, 2) := by decide +kernel
theorem dX10_moved_94 : decode cX10_moved 94 = .ok (.bipush 6, 2) := by decide +kernel
theorem dX10_moved_96 : decode cX10_moved 96 = .ok (.invokevirtual 57, 3) := by decide +kernel
theorem dX10_moved_99 : decode cX10_moved 99 = .ok (.ifCond .ne 52, 3) := by decide +kernel
theorem dX10_moved_102 : decode cX10_moved 102 = .ok (.aload_n 0, 1) := by decide +kernel
theorem dX10_moved_103 : decode cX10_moved 103 = .ok (.iload 6, 2) := by decide +kernel
theorem dX10_moved_105 : decode cX10_moved 105 = .ok (.iconst 2, 1) := by decide +kernel
theorem dX10_moved_106 : decode cX10_moved 106 = .ok (.invokevirtual 57, 3) := by decide +kernel
theorem dX10_moved_109 : decode cX10_moved 109 = .ok (.iload 7, 2) := by decide +kernel
theorem dX10_moved_111 : decode cX10_moved 111 = .ok (.if_icmp .eq 40, 3) := by decide +kernel
theorem dX10_moved_114 : decode cX10_moved 114 = .ok (.iload 5, 2) := by decide +kernel
theorem dX10_moved_116 : decode cX10_moved 116 = .ok (.aload_n 0, 1) := by decide +kernel
theorem dX10_moved_117 : decode cX10_moved 117 = .ok (.iload 6, 2) := by decide +kernel
theorem dX10_moved_119 : decode cX10_moved 119 = .ok (.iconst 3, 1) := by decide +kernel
theorem dX10_moved_120 : decode cX10_moved 120 = .ok (.invokevirtual 57, 3) := by decide +kernel
theorem dX10_moved_123 : decode cX10_moved 123 = .ok (.iadd, 1) := by decide +kernel
theorem dX10_moved_124 : decode cX10_moved 124 = .ok (.iload_n 2, 1) := by decide +kernel
theorem dX10_moved_125 : decode cX10_moved 125 = .ok (.if_icmp .le 6, 3) := by decide +kernel
theorem dX10_moved_128 : decode cX10_moved 128 = .ok (.iload 5, 2) := by decide +kernel
theorem dX10_moved_130 : decode cX10_moved 130 = .ok (.ireturn, 1) := by decide +kernel
theorem dX10_moved_131 : decode cX10_moved 131 = .ok (.iload 5, 2) := by decide +kernel
theorem dX10_moved_133 : decode cX10_moved 133 = .ok (.aload_n 0, 1) := by decide +kernel
theorem dX10_moved_134 : decode cX10_moved 134 = .ok (.iload 6, 2) := by decide +kernel
theorem dX10_moved_136 : decode cX10_moved 136 = .ok (.iconst 3, 1) := by decide +kernel
theorem dX10_moved_137 : decode cX10_moved 137 = .ok (.invokevirtual 57, 3) := by decide +kernel
theorem dX10_moved_140 : decode cX10_moved 140 = .ok (.iadd, 1) := by decide +kernel
theorem dX10_moved_141 : decode cX10_moved 141 = .ok (.istore 5, 2) := by decide +kernel
theorem dX10_moved_143 : decode cX10_moved 143 = .ok (.aload_n 0, 1) := by decide +kernel
theorem dX10_moved_144 : decode cX10_moved 144 = .ok (.iload 6, 2) := by decide +kernel
theorem dX10_moved_146 : decode cX10_moved 146 = .ok (.iload 7, 2) := by decide +kernel
theorem dX10_moved_148 : decode cX10_moved 148 = .ok (.invokevirtual 103, 3) := by decide +kernel
theorem dX10_moved_151 : decode cX10_moved 151 = .ok (.iload_n 3, 1) := by decide +kernel
theorem dX10_moved_152 : decode cX10_moved 152 = .ok (.ifCond .eq 21, 3) := by decide +kernel
theorem dX10_moved_155 : decode cX10_moved 155 = .ok (.aload_n 0, 1) := by decide +kernel
theorem dX10_moved_156 : decode cX10_moved 156 = .ok (.iload 6, 2) := by decide +kernel
theorem dX10_moved_158 : decode cX10_moved 158 = .ok (.iconst 2, 1) := by decide +kernel
theorem dX10_moved_159 : decode cX10_moved 159 = .ok (.invokevirtual 57, 3) := by decide +kernel
theorem dX10_moved_162 : decode cX10_moved 162 = .ok (.aload_n 0, 1) := by decide +kernel
theorem dX10_moved_163 : decode cX10_moved 163 = .ok (.iload 6, 2) := by decide +kernel
theorem dX10_moved_165 : decode cX10_moved 165 = .ok (.iconst 3, 1) := by decide +kernel
theorem dX10_moved_166 : decode cX10_moved 166 = .ok (.invokevirtual 57, 3) := by decide +kernel
theorem dX10_moved_169 : decode cX10_moved 169 = .ok (.iadd, 1) := by decide +kernel
theorem dX10_moved_170 : decode cX10_moved 170 = .ok (.goto 10, 3) := by decide +kernel
theorem dX10_moved_173 : decode cX10_moved 173 = .ok (.aload_n 0, 1) := by decide +kernel
theorem dX10_moved_174 : decode cX10_moved 174 = .ok (.iload 6, 2) := by decide +kernel
theorem dX10_moved_176 : decode cX10_moved 176 = .ok (.iconst 2, 1) := by decide +kernel
theorem dX10_moved_177 : decode cX10_moved 177 = .ok (.invokevirtual 57, 3) := by decide +kernel
theorem dX10_moved_180 : decode cX10_moved 180 = .ok (.istore 4, 2) := by decide +kernel
theorem dX10_moved_182 : decode cX10_moved 182 = .ok (.aload_n 0, 1) := by decide +kernel
theorem dX10_moved_183 : decode cX10_moved 183 = .ok (.iload_n 1, 1) := by decide +kernel
theorem dX10_moved_184 : decode cX10_moved 184 = .ok (.iload 4, 2) := by decide +kernel
theorem dX10_moved_186 : decode cX10_moved 186 = .ok (.iload_n 3, 1) := by decide +kernel
theorem dX10_moved_187 : decode cX10_moved 187 = .ok (.invokevirtual 107, 3) := by decide +kernel
theorem dX10_moved_190 : decode cX10_moved 190 = .ok (.istore 6, 2) := by decide +kernel
theorem dX10_moved_192 : decode cX10_moved 192 = .ok (.goto (-136), 3) := by decide +kernel
theorem dX10_moved_195 : decode cX10_moved 195 = .ok (.iload 5, 2) := by decide +kernel
theorem dX10_moved_197 : decode cX10_moved 197 = .ok (.ireturn, 1) := by decide +kernel
theorem dX10_moves_0 : decode cX10_moves 0 = .ok (.aload_n 0, 1) := by decide +kernel
theorem dX10_moves_1 : decode cX10_moves 1 = .ok (.iload_n 1, 1) := by decide +kernel
theorem dX10_moves_2 : decode cX10_moves 2 = .ok (.invokevirtual 73, 3) := by decide +kernel
theorem dX10_moves_5 : decode cX10_moves 5 = .ok (.ifCond .eq 23, 3) := by decide +kernel
theorem dX10_moves_8 : decode cX10_moves 8 = .ok (.iload_n 2, 1) := by decide +kernel
theorem dX10_moves_9 : decode cX10_moves 9 = .ok (.iconst 0, 1) := by decide +kernel
theorem dX10_moves_10 : decode cX10_moves 10 = .ok (.sipush 240, 3) := by decide +kernel
theorem dX10_moves_13 : decode cX10_moves 13 = .ok (.invokestatic 65, 3) := by decide +kernel
theorem dX10_moves_16 : decode cX10_moves 16 = .ok (.ifCond .eq 12, 3) := by decide +kernel
theorem dX10_moves_19 : decode cX10_moves 19 = .ok (.aload_n 0, 1) := by decide +kernel
theorem dX10_moves_20 : decode cX10_moves 20 = .ok (.iload_n 1, 1) := by decide +kernel
theorem dX10_moves_21 : decode cX10_moves 21 = .ok (.iload_n 2, 1) := by decide +kernel
theorem dX10_moves_22 : decode cX10_moves 22 = .ok (.invokevirtual 111, 3) := by decide +kernel
theorem dX10_moves_25 : decode cX10_moves 25 = .ok (.goto 4, 3) := by decide +kernel
theorem dX10_moves_28 : decode cX10_moves 28 = .ok (.iconst (-1), 1) := by decide +kernel
theorem dX10_moves_29 : decode cX10_moves 29 = .ok (.ireturn, 1) := by decide +kernel
theorem dX10_write_0 : decode cX10_write 0 = .ok (.aload_n 0, 1) := by decide +kernel
theorem dX10_write_1 : decode cX10_write 1 = .ok (.iload_n 1, 1) := by decide +kernel
theorem dX10_write_2 : decode cX10_write 2 = .ok (.invokevirtual 96, 3) := by decide +kernel
theorem dX10_write_5 : decode cX10_write 5 = .ok (.istore 4, 2) := by decide +kernel
theorem dX10_write_7 : decode cX10_write 7 = .ok (.iload 4, 2) := by decide +kernel
theorem dX10_write_9 : decode cX10_write 9 = .ok (.ifCond .lt 20, 3) := by decide +kernel
theorem dX10_write_12 : decode cX10_write 12 = .ok (.iload_n 2, 1) := by decide +kernel
theorem dX10_write_13 : decode cX10_write 13 = .ok (.iconst 0, 1) := by decide +kernel
theorem dX10_write_14 : decode cX10_write 14 = .ok (.aload_n 0, 1) := by decide +kernel
theorem dX10_write_15 : decode cX10_write 15 = .ok (.iload 4, 2) := by decide +kernel
theorem dX10_write_17 : decode cX10_write 17 = .ok (.iconst 3, 1) := by decide +kernel
theorem dX10_write_18 : decode cX10_write 18 = .ok (.invokevirtual 57, 3) := by decide +kernel
theorem dX10_write_21 : decode cX10_write 21 = .ok (.iconst 1, 1) := by decide +kernel
theorem dX10_write_22 : decode cX10_write 22 = .ok (.isub, 1) := by decide +kernel
theorem dX10_write_23 : decode cX10_write 23 = .ok (.invokestatic 65, 3) := by decide +kernel
theorem dX10_write_26 : decode cX10_write 26 = .ok (.ifCond .ne 6, 3) := by decide +kernel
theorem dX10_write_29 : decode cX10_write 29 = .ok (.ldc 114, 2) := by decide +kernel
theorem dX10_write_31 : decode cX10_write 31 = .ok (.ireturn, 1) := by decide +kernel
theorem dX10_write_32 : decode cX10_write 32 = .ok (.aload_n 0, 1) := by decide +kernel
theorem dX10_write_33 : decode cX10_write 33 = .ok (.getfield 9, 3) := by decide +kernel
theorem dX10_write_36 : decode cX10_write 36 = .ok (.sipush 330, 3) := by decide +kernel
theorem dX10_write_39 : decode cX10_write 39 = .ok (.aload_n 0, 1) := by decide +kernel
theorem dX10_write_40 : decode cX10_write 40 = .ok (.iload 4, 2) := by decide +kernel
theorem dX10_write_42 : decode cX10_write 42 = .ok (.iconst 2, 1) := by decide +kernel
theorem dX10_write_43 : decode cX10_write 43 = .ok (.invokevirtual 57, 3) := by decide +kernel
theorem dX10_write_46 : decode cX10_write 46 = .ok (.iadd, 1) := by decide +kernel
theorem dX10_write_47 : decode cX10_write 47 = .ok (.iload_n 2, 1) := by decide +kernel
theorem dX10_write_48 : decode cX10_write 48 = .ok (.iadd, 1) := by decide +kernel
theorem dX10_write_49 : decode cX10_write 49 = .ok (.iaload, 1) := by decide +kernel
theorem dX10_write_50 : decode cX10_write 50 = .ok (.istore 5, 2) := by decide +kernel
theorem dX10_write_52 : decode cX10_write 52 = .ok (.aload_n 0, 1) := by decide +kernel
theorem dX10_write_53 : decode cX10_write 53 = .ok (.getfield 9, 3) := by decide +kernel
theorem dX10_write_56 : decode cX10_write 56 = .ok (.sipush 330, 3) := by decide +kernel
theorem dX10_write_59 : decode cX10_write 59 = .ok (.aload_n 0, 1) := by decide +kernel
theorem dX10_write_60 : decode cX10_write 60 = .ok (.iload 4, 2) := by decide +kernel
theorem dX10_write_62 : decode cX10_write 62 = .ok (.iconst 2, 1) := by decide +kernel
theorem dX10_write_63 : decode cX10_write 63 = .ok (.invokevirtual 57, 3) := by decide +kernel
theorem dX10_write_66 : decode cX10_write 66 = .ok (.iadd, 1) := by decide +kernel
theorem dX10_write_67 : decode cX10_write 67 = .ok (.iload_n 2, 1) := by decide +kernel
theorem dX10_write_68 : decode cX10_write 68 = .ok (.iadd, 1) := by decide +kernel
theorem dX10_write_69 : decode cX10_write 69 = .ok (.iload_n 3, 1) := by decide +kernel
theorem dX10_write_70 : decode cX10_write 70 = .ok (.iastore, 1) := by decide +kernel
theorem dX10_write_71 : decode cX10_write 71 = .ok (.iload 5, 2) := by decide +kernel
theorem dX10_write_73 : decode cX10_write 73 = .ok (.ireturn, 1) := by decide +kernel
theorem dX10_cellOf_0 : decode cX10_cellOf 0 = .ok (.iload_n 2, 1) := by decide +kernel
theorem dX10_cellOf_1 : decode cX10_cellOf 1 = .ok (.iconst 0, 1) := by decide +kernel
theorem dX10_cellOf_2 : decode cX10_cellOf 2 = .ok (.aload_n 0, 1) := by decide +kernel
theorem dX10_cellOf_3 : decode cX10_cellOf 3 = .ok (.iload_n 1, 1) := by decide +kernel
theorem dX10_cellOf_4 : decode cX10_cellOf 4 = .ok (.iconst 3, 1) := by decide +kernel
theorem dX10_cellOf_5 : decode cX10_cellOf 5 = .ok (.invokevirtual 57, 3) := by decide +kernel
theorem dX10_cellOf_8 : decode cX10_cellOf 8 = .ok (.iconst 1, 1) := by decide +kernel
theorem dX10_cellOf_9 : decode cX10_cellOf 9 = .ok (.isub, 1) := by decide +kernel
theorem dX10_cellOf_10 : decode cX10_cellOf 10 = .ok (.invokestatic 65, 3) := by decide +kernel
theorem dX10_cellOf_13 : decode cX10_cellOf 13 = .ok (.ifCond .eq 23, 3) := by decide +kernel
theorem dX10_cellOf_16 : decode cX10_cellOf 16 = .ok (.aload_n 0, 1) := by decide +kernel
theorem dX10_cellOf_17 : decode cX10_cellOf 17 = .ok (.getfield 9, 3) := by decide +kernel
theorem dX10_cellOf_20 : decode cX10_cellOf 20 = .ok (.sipush 330, 3) := by decide +kernel
theorem dX10_cellOf_23 : decode cX10_cellOf 23 = .ok (.aload_n 0, 1) := by decide +kernel
theorem dX10_cellOf_24 : decode cX10_cellOf 24 = .ok (.iload_n 1, 1) := by decide +kernel
theorem dX10_cellOf_25 : decode cX10_cellOf 25 = .ok (.iconst 2, 1) := by decide +kernel
theorem dX10_cellOf_26 : decode cX10_cellOf 26 = .ok (.invokevirtual 57, 3) := by decide +kernel
theorem dX10_cellOf_29 : decode cX10_cellOf 29 = .ok (.iadd, 1) := by decide +kernel
theorem dX10_cellOf_30 : decode cX10_cellOf 30 = .ok (.iload_n 2, 1) := by decide +kernel
theorem dX10_cellOf_31 : decode cX10_cellOf 31 = .ok (.iadd, 1) := by decide +kernel
theorem dX10_cellOf_32 : decode cX10_cellOf 32 = .ok (.iaload, 1) := by decide +kernel
theorem dX10_cellOf_33 : decode cX10_cellOf 33 = .ok (.goto 5, 3) := by decide +kernel
theorem dX10_cellOf_36 : decode cX10_cellOf 36 = .ok (.ldc 114, 2) := by decide +kernel
theorem dX10_cellOf_38 : decode cX10_cellOf 38 = .ok (.ireturn, 1) := by decide +kernel
theorem dX10_read_0 : decode cX10_read 0 = .ok (.aload_n 0, 1) := by decide +kernel
theorem dX10_read_1 : decode cX10_read 1 = .ok (.iload_n 1, 1) := by decide +kernel
theorem dX10_read_2 : decode cX10_read 2 = .ok (.invokevirtual 96, 3) := by decide +kernel
theorem dX10_read_5 : decode cX10_read 5 = .ok (.istore_n 3, 1) := by decide +kernel
theorem dX10_read_6 : decode cX10_read 6 = .ok (.iload_n 3, 1) := by decide +kernel
theorem dX10_read_7 : decode cX10_read 7 = .ok (.ifCond .ge 8, 3) := by decide +kernel
theorem dX10_read_10 : decode cX10_read 10 = .ok (.ldc 114, 2) := by decide +kernel
theorem dX10_read_12 : decode cX10_read 12 = .ok (.goto 9, 3) := by decide +kernel
theorem dX10_read_15 : decode cX10_read 15 = .ok (.aload_n 0, 1) := by decide +kernel
theorem dX10_read_16 : decode cX10_read 16 = .ok (.iload_n 3, 1) := by decide +kernel
theorem dX10_read_17 : decode cX10_read 17 = .ok (.iload_n 2, 1) := by decide +kernel
theorem dX10_read_18 : decode cX10_read 18 = .ok (.invokevirtual 115, 3) := by decide +kernel
theorem dX10_read_21 : decode cX10_read 21 = .ok (.ireturn, 1) := by decide +kernel
theorem dX10_peek_0 : decode cX10_peek 0 = .ok (.iload_n 1, 1) := by decide +kernel
theorem dX10_peek_1 : decode cX10_peek 1 = .ok (.iconst 0, 1) := by decide +kernel
theorem dX10_peek_2 : decode cX10_peek 2 = .ok (.iconst 5, 1) := by decide +kernel
theorem dX10_peek_3 : decode cX10_peek 3 = .ok (.invokestatic 65, 3) := by decide +kernel
theorem dX10_peek_6 : decode cX10_peek 6 = .ok (.ifCond .eq 29, 3) := by decide +kernel
theorem dX10_peek_9 : decode cX10_peek 9 = .ok (.aload_n 0, 1) := by decide +kernel
theorem dX10_peek_10 : decode cX10_peek 10 = .ok (.getfield 9, 3) := by decide +kernel
theorem dX10_peek_13 : decode cX10_peek 13 = .ok (.sipush 599, 3) := by decide +kernel
theorem dX10_peek_16 : decode cX10_peek 16 = .ok (.iload_n 1, 1) := by decide +kernel
theorem dX10_peek_17 : decode cX10_peek 17 = .ok (.iadd, 1) := by decide +kernel
theorem dX10_peek_18 : decode cX10_peek 18 = .ok (.iaload, 1) := by decide +kernel
theorem dX10_peek_19 : decode cX10_peek 19 = .ok (.ifCond .lt 16, 3) := by decide +kernel
theorem dX10_peek_22 : decode cX10_peek 22 = .ok (.iload_n 2, 1) := by decide +kernel
theorem dX10_peek_23 : decode cX10_peek 23 = .ok (.ifCond .lt 12, 3) := by decide +kernel
theorem dX10_peek_26 : decode cX10_peek 26 = .ok (.iload_n 2, 1) := by decide +kernel
theorem dX10_peek_27 : decode cX10_peek 27 = .ok (.bipush 100, 2) := by decide +kernel
theorem dX10_peek_29 : decode cX10_peek 29 = .ok (.irem, 1) := by decide +kernel
theorem dX10_peek_30 : decode cX10_peek 30 = .ok (.bipush 30, 2) := by decide +kernel
theorem dX10_peek_32 : decode cX10_peek 32 = .ok (.if_icmp .lt 6, 3) := by decide +kernel
theorem dX10_peek_35 : decode cX10_peek 35 = .ok (.ldc 114, 2) := by decide +kernel
theorem dX10_peek_37 : decode cX10_peek 37 = .ok (.ireturn, 1) := by decide +kernel
theorem dX10_peek_38 : decode cX10_peek 38 = .ok (.iload_n 2, 1) := by decide +kernel
theorem dX10_peek_39 : decode cX10_peek 39 = .ok (.bipush 100, 2) := by decide +kernel
theorem dX10_peek_41 : decode cX10_peek 41 = .ok (.irem, 1) := by decide +kernel
theorem dX10_peek_42 : decode cX10_peek 42 = .ok (.istore 4, 2) := by decide +kernel
theorem dX10_peek_44 : decode cX10_peek 44 = .ok (.aload_n 0, 1) := by decide +kernel
theorem dX10_peek_45 : decode cX10_peek 45 = .ok (.iload 4, 2) := by decide +kernel
theorem dX10_peek_47 : decode cX10_peek 47 = .ok (.invokevirtual 61, 3) := by decide +kernel
theorem dX10_peek_50 : decode cX10_peek 50 = .ok (.ifCond .ne 35, 3) := by decide +kernel
theorem dX10_peek_53 : decode cX10_peek 53 = .ok (.aload_n 0, 1) := by decide +kernel
theorem dX10_peek_54 : decode cX10_peek 54 = .ok (.iload 4, 2) := by decide +kernel
theorem dX10_peek_56 : decode cX10_peek 56 = .ok (.iconst 0, 1) := by decide +kernel
theorem dX10_peek_57 : decode cX10_peek 57 = .ok (.invokevirtual 57, 3) := by decide +kernel
theorem dX10_peek_60 : decode cX10_peek 60 = .ok (.iconst 2, 1) := by decide +kernel
theorem dX10_peek_61 : decode cX10_peek 61 = .ok (.if_icmp .ne 28, 3) := by decide +kernel
theorem dX10_peek_64 : decode cX10_peek 64 = .ok (.aload_n 0, 1) := by decide +kernel
theorem dX10_peek_65 : decode cX10_peek 65 = .ok (.iload 4, 2) := by decide +kernel
theorem dX10_peek_67 : decode cX10_peek 67 = .ok (.bipush 9, 2) := by decide +kernel
theorem dX10_peek_69 : decode cX10_peek 69 = .ok (.invokevirtual 57, 3) := by decide +kernel
theorem dX10_peek_72 : decode cX10_peek 72 = .ok (.aload_n 0, 1) := by decide +kernel
theorem dX10_peek_73 : decode cX10_peek 73 = .ok (.getfield 9, 3) := by decide +kernel
theorem dX10_peek_76 : decode cX10_peek 76 = .ok (.sipush 599, 3) := by decide +kernel
theorem dX10_peek_79 : decode cX10_peek 79 = .ok (.iload_n 1, 1) := by decide +kernel
theorem dX10_peek_80 : decode cX10_peek 80 = .ok (.iadd, 1) := by decide +kernel
theorem dX10_peek_81 : decode cX10_peek 81 = .ok (.iaload, 1) := by decide +kernel
theorem dX10_peek_82 : decode cX10_peek 82 = .ok (.if_icmp .lt 7, 3) := by decide +kernel
theorem dX10_peek_85 : decode cX10_peek 85 = .ok (.iconst 1, 1) := by decide +kernel
theorem dX10_peek_86 : decode cX10_peek 86 = .ok (.goto 4, 3) := by decide +kernel
theorem dX10_peek_89 : decode cX10_peek 89 = .ok (.iconst 0, 1) := by decide +kernel
theorem dX10_peek_90 : decode cX10_peek 90 = .ok (.istore 5, 2) := by decide +kernel
theorem dX10_peek_92 : decode cX10_peek 92 = .ok (.iload 5, 2) := by decide +kernel
theorem dX10_peek_94 : decode cX10_peek 94 = .ok (.ifCond .eq 27, 3) := by decide +kernel
theorem dX10_peek_97 : decode cX10_peek 97 = .ok (.aload_n 0, 1) := by decide +kernel
theorem dX10_peek_98 : decode cX10_peek 98 = .ok (.iload 4, 2) := by decide +kernel
theorem dX10_peek_100 : decode cX10_peek 100 = .ok (.iconst 1, 1) := by decide +kernel
theorem dX10_peek_101 : decode cX10_peek 101 = .ok (.invokevirtual 57, 3) := by decide +kernel
theorem dX10_peek_104 : decode cX10_peek 104 = .ok (.iload_n 2, 1) := by decide +kernel
theorem dX10_peek_105 : decode cX10_peek 105 = .ok (.bipush 100, 2) := by decide +kernel
theorem dX10_peek_107 : decode cX10_peek 107 = .ok (.idiv, 1) := by decide +kernel
theorem dX10_peek_108 : decode cX10_peek 108 = .ok (.if_icmp .ne 13, 3) := by decide +kernel
theorem dX10_peek_111 : decode cX10_peek 111 = .ok (.aload_n 0, 1) := by decide +kernel
theorem dX10_peek_112 : decode cX10_peek 112 = .ok (.iload 4, 2) := by decide +kernel
theorem dX10_peek_114 : decode cX10_peek 114 = .ok (.iload_n 3, 1) := by decide +kernel
theorem dX10_peek_115 : decode cX10_peek 115 = .ok (.invokevirtual 115, 3) := by decide +kernel
theorem dX10_peek_118 : decode cX10_peek 118 = .ok (.goto 5, 3) := by decide +kernel
theorem dX10_peek_121 : decode cX10_peek 121 = .ok (.ldc 114, 2) := by decide +kernel
theorem dX10_peek_123 : decode cX10_peek 123 = .ok (.ireturn, 1) := by decide +kernel
theorem dX10_of_0 : decode cX10_of 0 = .ok (.iload_n 2, 1) := by decide +kernel
theorem dX10_of_1 : decode cX10_of 1 = .ok (.iconst 0, 1) := by decide +kernel
theorem dX10_of_2 : decode cX10_of 2 = .ok (.iconst 5, 1) := by decide +kernel
theorem dX10_of_3 : decode cX10_of 3 = .ok (.invokestatic 65, 3) := by decide +kernel
theorem dX10_of_6 : decode cX10_of 6 = .ok (.ifCond .ne 5, 3) := by decide +kernel
theorem dX10_of_9 : decode cX10_of 9 = .ok (.iconst (-1), 1) := by decide +kernel
theorem dX10_of_10 : decode cX10_of 10 = .ok (.ireturn, 1) := by decide +kernel
theorem dX10_of_11 : decode cX10_of 11 = .ok (.aload_n 0, 1) := by decide +kernel
theorem dX10_of_12 : decode cX10_of 12 = .ok (.iload_n 1, 1) := by decide +kernel
theorem dX10_of_13 : decode cX10_of 13 = .ok (.invokevirtual 96, 3) := by decide +kernel
theorem dX10_of_16 : decode cX10_of 16 = .ok (.istore_n 3, 1) := by decide +kernel
theorem dX10_of_17 : decode cX10_of 17 = .ok (.iload_n 3, 1) := by decide +kernel
theorem dX10_of_18 : decode cX10_of 18 = .ok (.ifCond .ge 6, 3) := by decide +kernel
theorem dX10_of_21 : decode cX10_of 21 = .ok (.bipush (-4), 2) := by decide +kernel
theorem dX10_of_23 : decode cX10_of 23 = .ok (.ireturn, 1) := by decide +kernel
theorem dX10_of_24 : decode cX10_of 24 = .ok (.iload_n 2, 1) := by decide +kernel
theorem dX10_of_25 : decode cX10_of 25 = .ok (.tableswitch 71 0 4 #[35, 42, 49, 56, 63], 35) := by decide +kernel
theorem dX10_of_60 : decode cX10_of 60 = .ok (.aload_n 0, 1) := by decide +kernel
theorem dX10_of_61 : decode cX10_of 61 = .ok (.iload_n 3, 1) := by decide +kernel
theorem dX10_of_62 : decode cX10_of 62 = .ok (.iconst 2, 1) := by decide +kernel
theorem dX10_of_63 : decode cX10_of 63 = .ok (.invokevirtual 57, 3) := by decide +kernel
theorem dX10_of_66 : decode cX10_of 66 = .ok (.ireturn, 1) := by decide +kernel
theorem dX10_of_67 : decode cX10_of 67 = .ok (.aload_n 0, 1) := by decide +kernel
theorem dX10_of_68 : decode cX10_of 68 = .ok (.iload_n 3, 1) := by decide +kernel
theorem dX10_of_69 : decode cX10_of 69 = .ok (.iconst 3, 1) := by decide +kernel
theorem dX10_of_70 : decode cX10_of 70 = .ok (.invokevirtual 57, 3) := by decide +kernel
theorem dX10_of_73 : decode cX10_of 73 = .ok (.ireturn, 1) := by decide +kernel
theorem dX10_of_74 : decode cX10_of 74 = .ok (.aload_n 0, 1) := by decide +kernel
theorem dX10_of_75 : decode cX10_of 75 = .ok (.iload_n 3, 1) := by decide +kernel
theorem dX10_of_76 : decode cX10_of 76 = .ok (.iconst 4, 1) := by decide +kernel
theorem dX10_of_77 : decode cX10_of 77 = .ok (.invokevirtual 57, 3) := by decide +kernel
theorem dX10_of_80 : decode cX10_of 80 = .ok (.ireturn, 1) := by decide +kernel
theorem dX10_of_81 : decode cX10_of 81 = .ok (.aload_n 0, 1) := by decide +kernel
theorem dX10_of_82 : decode cX10_of 82 = .ok (.iload_n 3, 1) := by decide +kernel
theorem dX10_of_83 : decode cX10_of 83 = .ok (.iconst 5, 1) := by decide +kernel
theorem dX10_of_84 : decode cX10_of 84 = .ok (.invokevirtual 57, 3) := by decide +kernel
theorem dX10_of_87 : decode cX10_of 87 = .ok (.ireturn, 1) := by decide +kernel
theorem dX10_of_88 : decode cX10_of 88 = .ok (.aload_n 0, 1) := by decide +kernel
theorem dX10_of_89 : decode cX10_of 89 = .ok (.iload_n 3, 1) := by decide +kernel
theorem dX10_of_90 : decode cX10_of 90 = .ok (.bipush 6, 2) := by decide +kernel
theorem dX10_of_92 : decode cX10_of 92 = .ok (.invokevirtual 57, 3) := by decide +kernel
theorem dX10_of_95 : decode cX10_of 95 = .ok (.ireturn, 1) := by decide +kernel
theorem dX10_of_96 : decode cX10_of 96 = .ok (.aload_n 0, 1) := by decide +kernel
theorem dX10_of_97 : decode cX10_of 97 = .ok (.iload_n 3, 1) := by decide +kernel
theorem dX10_of_98 : decode cX10_of 98 = .ok (.bipush 7, 2) := by decide +kernel
theorem dX10_of_100 : decode cX10_of 100 = .ok (.invokevirtual 57, 3) := by decide +kernel
theorem dX10_of_103 : decode cX10_of 103 = .ok (.ifCond .ge 8, 3) := by decide +kernel
theorem dX10_of_106 : decode cX10_of 106 = .ok (.bipush (-2), 2) := by decide +kernel
theorem dX10_of_108 : decode cX10_of 108 = .ok (.goto 10, 3) := by decide +kernel
theorem dX10_of_111 : decode cX10_of 111 = .ok (.aload_n 0, 1) := by decide +kernel
theorem dX10_of_112 : decode cX10_of 112 = .ok (.iload_n 3, 1) := by decide +kernel
theorem dX10_of_113 : decode cX10_of 113 = .ok (.bipush 7, 2) := by decide +kernel
theorem dX10_of_115 : decode cX10_of 115 = .ok (.invokevirtual 57, 3) := by decide +kernel
theorem dX10_of_118 : decode cX10_of 118 = .ok (.ireturn, 1) := by decide +kernel
theorem dX10_slot_0 : decode cX10_slot 0 = .ok (.iload_n 1, 1) := by decide +kernel
theorem dX10_slot_1 : decode cX10_slot 1 = .ok (.iconst 0, 1) := by decide +kernel
theorem dX10_slot_2 : decode cX10_slot 2 = .ok (.bipush 29, 2) := by decide +kernel
theorem dX10_slot_4 : decode cX10_slot 4 = .ok (.invokestatic 65, 3) := by decide +kernel
theorem dX10_slot_7 : decode cX10_slot 7 = .ok (.ifCond .eq 12, 3) := by decide +kernel
theorem dX10_slot_10 : decode cX10_slot 10 = .ok (.iload_n 2, 1) := by decide +kernel
theorem dX10_slot_11 : decode cX10_slot 11 = .ok (.iconst 0, 1) := by decide +kernel
theorem dX10_slot_12 : decode cX10_slot 12 = .ok (.iconst 3, 1) := by decide +kernel
theorem dX10_slot_13 : decode cX10_slot 13 = .ok (.invokestatic 65, 3) := by decide +kernel
theorem dX10_slot_16 : decode cX10_slot 16 = .ok (.ifCond .ne 5, 3) := by decide +kernel
theorem dX10_slot_19 : decode cX10_slot 19 = .ok (.iconst (-1), 1) := by decide +kernel
theorem dX10_slot_20 : decode cX10_slot 20 = .ok (.ireturn, 1) := by decide +kernel
theorem dX10_slot_21 : decode cX10_slot 21 = .ok (.aload_n 0, 1) := by decide +kernel
theorem dX10_slot_22 : decode cX10_slot 22 = .ok (.iload_n 1, 1) := by decide +kernel
theorem dX10_slot_23 : decode cX10_slot 23 = .ok (.iconst 0, 1) := by decide +kernel
theorem dX10_slot_24 : decode cX10_slot 24 = .ok (.invokevirtual 57, 3) := by decide +kernel
theorem dX10_slot_27 : decode cX10_slot 27 = .ok (.iconst 2, 1) := by decide +kernel
theorem dX10_slot_28 : decode cX10_slot 28 = .ok (.if_icmp .ne 7, 3) := by decide +kernel
theorem dX10_slot_31 : decode cX10_slot 31 = .ok (.iconst 1, 1) := by decide +kernel
theorem dX10_slot_32 : decode cX10_slot 32 = .ok (.goto 4, 3) := by decide +kernel
theorem dX10_slot_35 : decode cX10_slot 35 = .ok (.iconst 0, 1) := by decide +kernel
theorem dX10_slot_36 : decode cX10_slot 36 = .ok (.istore_n 3, 1) := by decide +kernel
theorem dX10_slot_37 : decode cX10_slot 37 = .ok (.iload_n 2, 1) := by decide +kernel
theorem dX10_slot_38 : decode cX10_slot 38 = .ok (.tableswitch 62 0 2 #[26, 45, 52], 26) := by decide +kernel
theorem dX10_slot_64 : decode cX10_slot 64 = .ok (.aload_n 0, 1) := by decide +kernel
theorem dX10_slot_65 : decode cX10_slot 65 = .ok (.iload_n 1, 1) := by decide +kernel
theorem dX10_slot_66 : decode cX10_slot 66 = .ok (.invokevirtual 61, 3) := by decide +kernel
theorem dX10_slot_69 : decode cX10_slot 69 = .ok (.ifCond .eq 11, 3) := by decide +kernel
theorem dX10_slot_72 : decode cX10_slot 72 = .ok (.aload_n 0, 1) := by decide +kernel
theorem dX10_slot_73 : decode cX10_slot 73 = .ok (.iload_n 1, 1) := by decide +kernel
theorem dX10_slot_74 : decode cX10_slot 74 = .ok (.invokevirtual 93, 3) := by decide +kernel
theorem dX10_slot_77 : decode cX10_slot 77 = .ok (.goto 5, 3) := by decide +kernel
theorem dX10_slot_80 : decode cX10_slot 80 = .ok (.bipush (-2), 2) := by decide +kernel
theorem dX10_slot_82 : decode cX10_slot 82 = .ok (.ireturn, 1) := by decide +kernel
theorem dX10_slot_83 : decode cX10_slot 83 = .ok (.aload_n 0, 1) := by decide +kernel
theorem dX10_slot_84 : decode cX10_slot 84 = .ok (.iload_n 1, 1) := by decide +kernel
theorem dX10_slot_85 : decode cX10_slot 85 = .ok (.iconst 1, 1) := by decide +kernel
theorem dX10_slot_86 : decode cX10_slot 86 = .ok (.invokevirtual 57, 3) := by decide +kernel
theorem dX10_slot_89 : decode cX10_slot 89 = .ok (.ireturn, 1) := by decide +kernel
theorem dX10_slot_90 : decode cX10_slot 90 = .ok (.iload_n 3, 1) := by decide +kernel
theorem dX10_slot_91 : decode cX10_slot 91 = .ok (.ifCond .eq 7, 3) := by decide +kernel
theorem dX10_slot_94 : decode cX10_slot 94 = .ok (.iconst 1, 1) := by decide +kernel
theorem dX10_slot_95 : decode cX10_slot 95 = .ok (.goto 4, 3) := by decide +kernel
theorem dX10_slot_98 : decode cX10_slot 98 = .ok (.iconst 0, 1) := by decide +kernel
theorem dX10_slot_99 : decode cX10_slot 99 = .ok (.ireturn, 1) := by decide +kernel
theorem dX10_slot_100 : decode cX10_slot 100 = .ok (.iload_n 3, 1) := by decide +kernel
theorem dX10_slot_101 : decode cX10_slot 101 = .ok (.ifCond .eq 13, 3) := by decide +kernel
theorem dX10_slot_104 : decode cX10_slot 104 = .ok (.aload_n 0, 1) := by decide +kernel
theorem dX10_slot_105 : decode cX10_slot 105 = .ok (.iload_n 1, 1) := by decide +kernel
theorem dX10_slot_106 : decode cX10_slot 106 = .ok (.bipush 9, 2) := by decide +kernel
theorem dX10_slot_108 : decode cX10_slot 108 = .ok (.invokevirtual 57, 3) := by decide +kernel
theorem dX10_slot_111 : decode cX10_slot 111 = .ok (.goto 5, 3) := by decide +kernel
theorem dX10_slot_114 : decode cX10_slot 114 = .ok (.bipush (-2), 2) := by decide +kernel
theorem dX10_slot_116 : decode cX10_slot 116 = .ok (.ireturn, 1) := by decide +kernel
theorem dX10_lies_0 : decode cX10_lies 0 = .ok (.iload_n 1, 1) := by decide +kernel
theorem dX10_lies_1 : decode cX10_lies 1 = .ok (.iconst 0, 1) := by decide +kernel
theorem dX10_lies_2 : decode cX10_lies 2 = .ok (.sipush 239, 3) := by decide +kernel
theorem dX10_lies_5 : decode cX10_lies 5 = .ok (.invokestatic 65, 3) := by decide +kernel
theorem dX10_lies_8 : decode cX10_lies 8 = .ok (.ifCond .ne 5, 3) := by decide +kernel
theorem dX10_lies_11 : decode cX10_lies 11 = .ok (.iconst (-1), 1) := by decide +kernel
theorem dX10_lies_12 : decode cX10_lies 12 = .ok (.ireturn, 1) := by decide +kernel
theorem dX10_lies_13 : decode cX10_lies 13 = .ok (.aload_n 0, 1) := by decide +kernel
theorem dX10_lies_14 : decode cX10_lies 14 = .ok (.invokevirtual 79, 3) := by decide +kernel
theorem dX10_lies_17 : decode cX10_lies 17 = .ok (.aload_n 0, 1) := by decide +kernel
theorem dX10_lies_18 : decode cX10_lies 18 = .ok (.getfield 22, 3) := by decide +kernel
theorem dX10_lies_21 : decode cX10_lies 21 = .ok (.iload_n 1, 1) := by decide +kernel
theorem dX10_lies_22 : decode cX10_lies 22 = .ok (.iaload, 1) := by decide +kernel
theorem dX10_lies_23 : decode cX10_lies 23 = .ok (.ireturn, 1) := by decide +kernel
theorem dX10_tagsMany_0 : decode cX10_tagsMany 0 = .ok (.iconst 0, 1) := by decide +kernel
theorem dX10_tagsMany_1 : decode cX10_tagsMany 1 = .ok (.istore_n 1, 1) := by decide +kernel
theorem dX10_tagsMany_2 : decode cX10_tagsMany 2 = .ok (.iconst 0, 1) := by decide +kernel
theorem dX10_tagsMany_3 : decode cX10_tagsMany 3 = .ok (.istore_n 2, 1) := by decide +kernel
theorem dX10_tagsMany_4 : decode cX10_tagsMany 4 = .ok (.iload_n 2, 1) := by decide +kernel
theorem dX10_tagsMany_5 : decode cX10_tagsMany 5 = .ok (.bipush 30, 2) := by decide +kernel
theorem dX10_tagsMany_7 : decode cX10_tagsMany 7 = .ok (.if_icmp .ge 35, 3) := by decide +kernel
theorem dX10_tagsMany_10 : decode cX10_tagsMany 10 = .ok (.iload_n 1, 1) := by decide +kernel
theorem dX10_tagsMany_11 : decode cX10_tagsMany 11 = .ok (.aload_n 0, 1) := by decide +kernel
theorem dX10_tagsMany_12 : decode cX10_tagsMany 12 = .ok (.iload_n 2, 1) := by decide +kernel
theorem dX10_tagsMany_13 : decode cX10_tagsMany 13 = .ok (.invokevirtual 61, 3) := by decide +kernel
theorem dX10_tagsMany_16 : decode cX10_tagsMany 16 = .ok (.ifCond .eq 17, 3) := by decide +kernel
theorem dX10_tagsMany_19 : decode cX10_tagsMany 19 = .ok (.aload_n 0, 1) := by decide +kernel
theorem dX10_tagsMany_20 : decode cX10_tagsMany 20 = .ok (.iload_n 2, 1) := by decide +kernel
theorem dX10_tagsMany_21 : decode cX10_tagsMany 21 = .ok (.bipush 7, 2) := by decide +kernel
theorem dX10_tagsMany_23 : decode cX10_tagsMany 23 = .ok (.invokevirtual 57, 3) := by decide +kernel
theorem dX10_tagsMany_26 : decode cX10_tagsMany 26 = .ok (.ifCond .lt 7, 3) := by decide +kernel
theorem dX10_tagsMany_29 : decode cX10_tagsMany 29 = .ok (.iconst 1, 1) := by decide +kernel
theorem dX10_tagsMany_30 : decode cX10_tagsMany 30 = .ok (.goto 4, 3) := by decide +kernel
theorem dX10_tagsMany_33 : decode cX10_tagsMany 33 = .ok (.iconst 0, 1) := by decide +kernel
theorem dX10_tagsMany_34 : decode cX10_tagsMany 34 = .ok (.iadd, 1) := by decide +kernel
theorem dX10_tagsMany_35 : decode cX10_tagsMany 35 = .ok (.istore_n 1, 1) := by decide +kernel
theorem dX10_tagsMany_36 : decode cX10_tagsMany 36 = .ok (.iinc 2 1, 3) := by decide +kernel
theorem dX10_tagsMany_39 : decode cX10_tagsMany 39 = .ok (.goto (-35), 3) := by decide +kernel
theorem dX10_tagsMany_42 : decode cX10_tagsMany 42 = .ok (.iload_n 1, 1) := by decide +kernel
theorem dX10_tagsMany_43 : decode cX10_tagsMany 43 = .ok (.ireturn, 1) := by decide +kernel
theorem dX10_taggedBy_0 : decode cX10_taggedBy 0 = .ok (.iconst 0, 1) := by decide +kernel
theorem dX10_taggedBy_1 : decode cX10_taggedBy 1 = .ok (.istore_n 2, 1) := by decide +kernel
theorem dX10_taggedBy_2 : decode cX10_taggedBy 2 = .ok (.iload_n 2, 1) := by decide +kernel
theorem dX10_taggedBy_3 : decode cX10_taggedBy 3 = .ok (.bipush 30, 2) := by decide +kernel
theorem dX10_taggedBy_5 : decode cX10_taggedBy 5 = .ok (.if_icmp .ge 30, 3) := by decide +kernel
theorem dX10_taggedBy_8 : decode cX10_taggedBy 8 = .ok (.aload_n 0, 1) := by decide +kernel
theorem dX10_taggedBy_9 : decode cX10_taggedBy 9 = .ok (.iload_n 2, 1) := by decide +kernel
theorem dX10_taggedBy_10 : decode cX10_taggedBy 10 = .ok (.invokevirtual 61, 3) := by decide +kernel
theorem dX10_taggedBy_13 : decode cX10_taggedBy 13 = .ok (.ifCond .eq 16, 3) := by decide +kernel
theorem dX10_taggedBy_16 : decode cX10_taggedBy 16 = .ok (.aload_n 0, 1) := by decide +kernel
theorem dX10_taggedBy_17 : decode cX10_taggedBy 17 = .ok (.iload_n 2, 1) := by decide +kernel
theorem dX10_taggedBy_18 : decode cX10_taggedBy 18 = .ok (.bipush 7, 2) := by decide +kernel
theorem dX10_taggedBy_20 : decode cX10_taggedBy 20 = .ok (.invokevirtual 57, 3) := by decide +kernel
theorem dX10_taggedBy_23 : decode cX10_taggedBy 23 = .ok (.iload_n 1, 1) := by decide +kernel
theorem dX10_taggedBy_24 : decode cX10_taggedBy 24 = .ok (.if_icmp .ne 5, 3) := by decide +kernel
theorem dX10_taggedBy_27 : decode cX10_taggedBy 27 = .ok (.iload_n 2, 1) := by decide +kernel
theorem dX10_taggedBy_28 : decode cX10_taggedBy 28 = .ok (.ireturn, 1) := by decide +kernel
theorem dX10_taggedBy_29 : decode cX10_taggedBy 29 = .ok (.iinc 2 1, 3) := by decide +kernel
theorem dX10_taggedBy_32 : decode cX10_taggedBy 32 = .ok (.goto (-30), 3) := by decide +kernel
theorem dX10_taggedBy_35 : decode cX10_taggedBy 35 = .ok (.bipush (-2), 2) := by decide +kernel
theorem dX10_taggedBy_37 : decode cX10_taggedBy 37 = .ok (.ireturn, 1) := by decide +kernel
theorem dX10_tag_0 : decode cX10_tag 0 = .ok (.iload_n 2, 1) := by decide +kernel
theorem dX10_tag_1 : decode cX10_tag 1 = .ok (.iconst 0, 1) := by decide +kernel
theorem dX10_tag_2 : decode cX10_tag 2 = .ok (.sipush 499, 3) := by decide +kernel
theorem dX10_tag_5 : decode cX10_tag 5 = .ok (.invokestatic 65, 3) := by decide +kernel
theorem dX10_tag_8 : decode cX10_tag 8 = .ok (.ifCond .ne 5, 3) := by decide +kernel
theorem dX10_tag_11 : decode cX10_tag 11 = .ok (.iconst (-1), 1) := by decide +kernel
theorem dX10_tag_12 : decode cX10_tag 12 = .ok (.ireturn, 1) := by decide +kernel
theorem dX10_tag_13 : decode cX10_tag 13 = .ok (.aload_n 0, 1) := by decide +kernel
theorem dX10_tag_14 : decode cX10_tag 14 = .ok (.iload_n 1, 1) := by decide +kernel
theorem dX10_tag_15 : decode cX10_tag 15 = .ok (.invokevirtual 96, 3) := by decide +kernel
theorem dX10_tag_18 : decode cX10_tag 18 = .ok (.istore_n 3, 1) := by decide +kernel
theorem dX10_tag_19 : decode cX10_tag 19 = .ok (.iload_n 3, 1) := by decide +kernel
theorem dX10_tag_20 : decode cX10_tag 20 = .ok (.ifCond .ge 6, 3) := by decide +kernel
theorem dX10_tag_23 : decode cX10_tag 23 = .ok (.bipush (-4), 2) := by decide +kernel
theorem dX10_tag_25 : decode cX10_tag 25 = .ok (.ireturn, 1) := by decide +kernel
theorem dX10_tag_26 : decode cX10_tag 26 = .ok (.aload_n 0, 1) := by decide +kernel
theorem dX10_tag_27 : decode cX10_tag 27 = .ok (.iload_n 2, 1) := by decide +kernel
theorem dX10_tag_28 : decode cX10_tag 28 = .ok (.invokevirtual 118, 3) := by decide +kernel
theorem dX10_tag_31 : decode cX10_tag 31 = .ok (.istore 4, 2) := by decide +kernel
theorem dX10_tag_33 : decode cX10_tag 33 = .ok (.iload 4, 2) := by decide +kernel
theorem dX10_tag_35 : decode cX10_tag 35 = .ok (.ifCond .lt 12, 3) := by decide +kernel
theorem dX10_tag_38 : decode cX10_tag 38 = .ok (.iload 4, 2) := by decide +kernel
theorem dX10_tag_40 : decode cX10_tag 40 = .ok (.iload_n 3, 1) := by decide +kernel
theorem dX10_tag_41 : decode cX10_tag 41 = .ok (.if_icmp .eq 6, 3) := by decide +kernel
theorem dX10_tag_44 : decode cX10_tag 44 = .ok (.bipush (-5), 2) := by decide +kernel
theorem dX10_tag_46 : decode cX10_tag 46 = .ok (.ireturn, 1) := by decide +kernel
theorem dX10_tag_47 : decode cX10_tag 47 = .ok (.aload_n 0, 1) := by decide +kernel
theorem dX10_tag_48 : decode cX10_tag 48 = .ok (.iload_n 3, 1) := by decide +kernel
theorem dX10_tag_49 : decode cX10_tag 49 = .ok (.bipush 7, 2) := by decide +kernel
theorem dX10_tag_51 : decode cX10_tag 51 = .ok (.iload_n 2, 1) := by decide +kernel
theorem dX10_tag_52 : decode cX10_tag 52 = .ok (.invokevirtual 89, 3) := by decide +kernel
theorem dX10_tag_55 : decode cX10_tag 55 = .ok (.aload_n 0, 1) := by decide +kernel
theorem dX10_tag_56 : decode cX10_tag 56 = .ok (.iload_n 3, 1) := by decide +kernel
theorem dX10_tag_57 : decode cX10_tag 57 = .ok (.bipush 8, 2) := by decide +kernel
theorem dX10_tag_59 : decode cX10_tag 59 = .ok (.aload_n 0, 1) := by decide +kernel
theorem dX10_tag_60 : decode cX10_tag 60 = .ok (.getfield 9, 3) := by decide +kernel
theorem dX10_tag_63 : decode cX10_tag 63 = .ok (.sipush 606, 3) := by decide +kernel
theorem dX10_tag_66 : decode cX10_tag 66 = .ok (.dup2, 1) := by decide +kernel
theorem dX10_tag_67 : decode cX10_tag 67 = .ok (.iaload, 1) := by decide +kernel
theorem dX10_tag_68 : decode cX10_tag 68 = .ok (.dup_x2, 1) := by decide +kernel
theorem dX10_tag_69 : decode cX10_tag 69 = .ok (.iconst 1, 1) := by decide +kernel
theorem dX10_tag_70 : decode cX10_tag 70 = .ok (.iadd, 1) := by decide +kernel
theorem dX10_tag_71 : decode cX10_tag 71 = .ok (.iastore, 1) := by decide +kernel
theorem dX10_tag_72 : decode cX10_tag 72 = .ok (.invokevirtual 89, 3) := by decide +kernel
theorem dX10_tag_75 : decode cX10_tag 75 = .ok (.aload_n 0, 1) := by decide +kernel
theorem dX10_tag_76 : decode cX10_tag 76 = .ok (.invokevirtual 121, 3) := by decide +kernel
theorem dX10_tag_79 : decode cX10_tag 79 = .ok (.ireturn, 1) := by decide +kernel
theorem dX10_find_0 : decode cX10_find 0 = .ok (.iload_n 1, 1) := by decide +kernel
theorem dX10_find_1 : decode cX10_find 1 = .ok (.iconst 0, 1) := by decide +kernel
theorem dX10_find_2 : decode cX10_find 2 = .ok (.sipush 499, 3) := by decide +kernel
theorem dX10_find_5 : decode cX10_find 5 = .ok (.invokestatic 65, 3) := by decide +kernel
theorem dX10_find_8 : decode cX10_find 8 = .ok (.ifCond .ne 5, 3) := by decide +kernel
theorem dX10_find_11 : decode cX10_find 11 = .ok (.iconst (-1), 1) := by decide +kernel
theorem dX10_find_12 : decode cX10_find 12 = .ok (.ireturn, 1) := by decide +kernel
theorem dX10_find_13 : decode cX10_find 13 = .ok (.aload_n 0, 1) := by decide +kernel
theorem dX10_find_14 : decode cX10_find 14 = .ok (.iload_n 1, 1) := by decide +kernel
theorem dX10_find_15 : decode cX10_find 15 = .ok (.invokevirtual 118, 3) := by decide +kernel
theorem dX10_find_18 : decode cX10_find 18 = .ok (.istore_n 2, 1) := by decide +kernel
theorem dX10_find_19 : decode cX10_find 19 = .ok (.iload_n 2, 1) := by decide +kernel
theorem dX10_find_20 : decode cX10_find 20 = .ok (.ifCond .ge 8, 3) := by decide +kernel
theorem dX10_find_23 : decode cX10_find 23 = .ok (.bipush (-2), 2) := by decide +kernel
theorem dX10_find_25 : decode cX10_find 25 = .ok (.goto 8, 3) := by decide +kernel
theorem dX10_find_28 : decode cX10_find 28 = .ok (.aload_n 0, 1) := by decide +kernel
theorem dX10_find_29 : decode cX10_find 29 = .ok (.iload_n 2, 1) := by decide +kernel
theorem dX10_find_30 : decode cX10_find 30 = .ok (.invokevirtual 93, 3) := by decide +kernel
theorem dX10_find_33 : decode cX10_find 33 = .ok (.ireturn, 1) := by decide +kernel
theorem dX10_tagged_0 : decode cX10_tagged 0 = .ok (.iload_n 1, 1) := by decide +kernel
theorem dX10_tagged_1 : decode cX10_tagged 1 = .ok (.ifCond .ge 5, 3) := by decide +kernel
theorem dX10_tagged_4 : decode cX10_tagged 4 = .ok (.iconst (-1), 1) := by decide +kernel
theorem dX10_tagged_5 : decode cX10_tagged 5 = .ok (.ireturn, 1) := by decide +kernel
theorem dX10_tagged_6 : decode cX10_tagged 6 = .ok (.iconst 0, 1) := by decide +kernel
theorem dX10_tagged_7 : decode cX10_tagged 7 = .ok (.istore_n 2, 1) := by decide +kernel
theorem dX10_tagged_8 : decode cX10_tagged 8 = .ok (.iload_n 2, 1) := by decide +kernel
theorem dX10_tagged_9 : decode cX10_tagged 9 = .ok (.bipush 30, 2) := by decide +kernel
theorem dX10_tagged_11 : decode cX10_tagged 11 = .ok (.if_icmp .ge 104, 3) := by decide +kernel
theorem dX10_tagged_14 : decode cX10_tagged 14 = .ok (.aload_n 0, 1) := by decide +kernel
theorem dX10_tagged_15 : decode cX10_tagged 15 = .ok (.iload_n 2, 1) := by decide +kernel
theorem dX10_tagged_16 : decode cX10_tagged 16 = .ok (.invokevirtual 61, 3) := by decide +kernel
theorem dX10_tagged_19 : decode cX10_tagged 19 = .ok (.ifCond .eq 90, 3) := by decide +kernel
theorem dX10_tagged_22 : decode cX10_tagged 22 = .ok (.aload_n 0, 1) := by decide +kernel
theorem dX10_tagged_23 : decode cX10_tagged 23 = .ok (.iload_n 2, 1) := by decide +kernel
theorem dX10_tagged_24 : decode cX10_tagged 24 = .ok (.bipush 7, 2) := by decide +kernel
theorem dX10_tagged_26 : decode cX10_tagged 26 = .ok (.invokevirtual 57, 3) := by decide +kernel
theorem dX10_tagged_29 : decode cX10_tagged 29 = .ok (.ifCond .lt 80, 3) := by decide +kernel
theorem dX10_tagged_32 : decode cX10_tagged 32 = .ok (.iconst 0, 1) := by decide +kernel
theorem dX10_tagged_33 : decode cX10_tagged 33 = .ok (.istore_n 3, 1) := by decide +kernel
theorem dX10_tagged_34 : decode cX10_tagged 34 = .ok (.iconst 0, 1) := by decide +kernel
theorem dX10_tagged_35 : decode cX10_tagged 35 = .ok (.istore 4, 2) := by decide +kernel
theorem dX10_tagged_37 : decode cX10_tagged 37 = .ok (.iload 4, 2) := by decide +kernel
theorem dX10_tagged_39 : decode cX10_tagged 39 = .ok (.bipush 30, 2) := by decide +kernel
theorem dX10_tagged_41 : decode cX10_tagged 41 = .ok (.if_icmp .ge 55, 3) := by decide +kernel
theorem dX10_tagged_44 : decode cX10_tagged 44 = .ok (.iload_n 3, 1) := by decide +kernel
theorem dX10_tagged_45 : decode cX10_tagged 45 = .ok (.aload_n 0, 1) := by decide +kernel
theorem dX10_tagged_46 : decode cX10_tagged 46 = .ok (.iload 4, 2) := by decide +kernel
theorem dX10_tagged_48 : decode cX10_tagged 48 = .ok (.invokevirtual 61, 3) := by decide +kernel
theorem dX10_tagged_51 : decode cX10_tagged 51 = .ok (.ifCond .eq 36, 3) := by decide +kernel
theorem dX10_tagged_54 : decode cX10_tagged 54 = .ok (.aload_n 0, 1) := by decide +kernel
theorem dX10_tagged_55 : decode cX10_tagged 55 = .ok (.iload 4, 2) := by decide +kernel
theorem dX10_tagged_57 : decode cX10_tagged 57 = .ok (.bipush 7, 2) := by decide +kernel
theorem dX10_tagged_59 : decode cX10_tagged 59 = .ok (.invokevirtual 57, 3) := by decide +kernel
theorem dX10_tagged_62 : decode cX10_tagged 62 = .ok (.ifCond .lt 25, 3) := by decide +kernel
theorem dX10_tagged_65 : decode cX10_tagged 65 = .ok (.aload_n 0, 1) := by decide +kernel
theorem dX10_tagged_66 : decode cX10_tagged 66 = .ok (.iload 4, 2) := by decide +kernel
theorem dX10_tagged_68 : decode cX10_tagged 68 = .ok (.bipush 8, 2) := by decide +kernel
theorem dX10_tagged_70 : decode cX10_tagged 70 = .ok (.invokevirtual 57, 3) := by decide +kernel
theorem dX10_tagged_73 : decode cX10_tagged 73 = .ok (.aload_n 0, 1) := by decide +kernel
theorem dX10_tagged_74 : decode cX10_tagged 74 = .ok (.iload_n 2, 1) := by decide +kernel
theorem dX10_tagged_75 : decode cX10_tagged 75 = .ok (.bipush 8, 2) := by decide +kernel
theorem dX10_tagged_77 : decode cX10_tagged 77 = .ok (.invokevirtual 57, 3) := by decide +kernel
theorem dX10_tagged_80 : decode cX10_tagged 80 = .ok (.if_icmp .ge 7, 3) := by decide +kernel
theorem dX10_tagged_83 : decode cX10_tagged 83 = .ok (.iconst 1, 1) := by decide +kernel
theorem dX10_tagged_84 : decode cX10_tagged 84 = .ok (.goto 4, 3) := by decide +kernel
theorem dX10_tagged_87 : decode cX10_tagged 87 = .ok (.iconst 0, 1) := by decide +kernel
theorem dX10_tagged_88 : decode cX10_tagged 88 = .ok (.iadd, 1) := by decide +kernel
theorem dX10_tagged_89 : decode cX10_tagged 89 = .ok (.istore_n 3, 1) := by decide +kernel
theorem dX10_tagged_90 : decode cX10_tagged 90 = .ok (.iinc 4 1, 3) := by decide +kernel
theorem dX10_tagged_93 : decode cX10_tagged 93 = .ok (.goto (-56), 3) := by decide +kernel
theorem dX10_tagged_96 : decode cX10_tagged 96 = .ok (.iload_n 3, 1) := by decide +kernel
theorem dX10_tagged_97 : decode cX10_tagged 97 = .ok (.iload_n 1, 1) := by decide +kernel
theorem dX10_tagged_98 : decode cX10_tagged 98 = .ok (.if_icmp .ne 11, 3) := by decide +kernel
theorem dX10_tagged_101 : decode cX10_tagged 101 = .ok (.aload_n 0, 1) := by decide +kernel
theorem dX10_tagged_102 : decode cX10_tagged 102 = .ok (.iload_n 2, 1) := by decide +kernel
theorem dX10_tagged_103 : decode cX10_tagged 103 = .ok (.bipush 7, 2) := by decide +kernel
theorem dX10_tagged_105 : decode cX10_tagged 105 = .ok (.invokevirtual 57, 3) := by decide +kernel
theorem dX10_tagged_108 : decode cX10_tagged 108 = .ok (.ireturn, 1) := by decide +kernel
theorem dX10_tagged_109 : decode cX10_tagged 109 = .ok (.iinc 2 1, 3) := by decide +kernel
theorem dX10_tagged_112 : decode cX10_tagged 112 = .ok (.goto (-104), 3) := by decide +kernel
theorem dX10_tagged_115 : decode cX10_tagged 115 = .ok (.bipush (-2), 2) := by decide +kernel
theorem dX10_tagged_117 : decode cX10_tagged 117 = .ok (.ireturn, 1) := by decide +kernel
theorem dX10_quota_0 : decode cX10_quota 0 = .ok (.iload_n 1, 1) := by decide +kernel
theorem dX10_quota_1 : decode cX10_quota 1 = .ok (.iconst 0, 1) := by decide +kernel
theorem dX10_quota_2 : decode cX10_quota 2 = .ok (.bipush 9, 2) := by decide +kernel
theorem dX10_quota_4 : decode cX10_quota 4 = .ok (.invokestatic 65, 3) := by decide +kernel
theorem dX10_quota_7 : decode cX10_quota 7 = .ok (.ifCond .eq 14, 3) := by decide +kernel
theorem dX10_quota_10 : decode cX10_quota 10 = .ok (.iload_n 2, 1) := by decide +kernel
theorem dX10_quota_11 : decode cX10_quota 11 = .ok (.iconst 0, 1) := by decide +kernel
theorem dX10_quota_12 : decode cX10_quota 12 = .ok (.sipush 240, 3) := by decide +kernel
theorem dX10_quota_15 : decode cX10_quota 15 = .ok (.invokestatic 65, 3) := by decide +kernel
theorem dX10_quota_18 : decode cX10_quota 18 = .ok (.ifCond .ne 5, 3) := by decide +kernel
theorem dX10_quota_21 : decode cX10_quota 21 = .ok (.iconst (-1), 1) := by decide +kernel
theorem dX10_quota_22 : decode cX10_quota 22 = .ok (.ireturn, 1) := by decide +kernel
theorem dX10_quota_23 : decode cX10_quota 23 = .ok (.aload_n 0, 1) := by decide +kernel
theorem dX10_quota_24 : decode cX10_quota 24 = .ok (.iload_n 1, 1) := by decide +kernel
theorem dX10_quota_25 : decode cX10_quota 25 = .ok (.invokevirtual 76, 3) := by decide +kernel
theorem dX10_quota_28 : decode cX10_quota 28 = .ok (.iload_n 2, 1) := by decide +kernel
theorem dX10_quota_29 : decode cX10_quota 29 = .ok (.if_icmp .le 6, 3) := by decide +kernel
theorem dX10_quota_32 : decode cX10_quota 32 = .ok (.bipush (-5), 2) := by decide +kernel
theorem dX10_quota_34 : decode cX10_quota 34 = .ok (.ireturn, 1) := by decide +kernel
theorem dX10_quota_35 : decode cX10_quota 35 = .ok (.aload_n 0, 1) := by decide +kernel
theorem dX10_quota_36 : decode cX10_quota 36 = .ok (.getfield 9, 3) := by decide +kernel
theorem dX10_quota_39 : decode cX10_quota 39 = .ok (.sipush 589, 3) := by decide +kernel
theorem dX10_quota_42 : decode cX10_quota 42 = .ok (.iload_n 1, 1) := by decide +kernel
theorem dX10_quota_43 : decode cX10_quota 43 = .ok (.iadd, 1) := by decide +kernel
theorem dX10_quota_44 : decode cX10_quota 44 = .ok (.iaload, 1) := by decide +kernel
theorem dX10_quota_45 : decode cX10_quota 45 = .ok (.istore_n 3, 1) := by decide +kernel
theorem dX10_quota_46 : decode cX10_quota 46 = .ok (.aload_n 0, 1) := by decide +kernel
theorem dX10_quota_47 : decode cX10_quota 47 = .ok (.getfield 9, 3) := by decide +kernel
theorem dX10_quota_50 : decode cX10_quota 50 = .ok (.sipush 589, 3) := by decide +kernel
theorem dX10_quota_53 : decode cX10_quota 53 = .ok (.iload_n 1, 1) := by decide +kernel
theorem dX10_quota_54 : decode cX10_quota 54 = .ok (.iadd, 1) := by decide +kernel
theorem dX10_quota_55 : decode cX10_quota 55 = .ok (.iload_n 2, 1) := by decide +kernel
theorem dX10_quota_56 : decode cX10_quota 56 = .ok (.iastore, 1) := by decide +kernel
theorem dX10_quota_57 : decode cX10_quota 57 = .ok (.iload_n 3, 1) := by decide +kernel
theorem dX10_quota_58 : decode cX10_quota 58 = .ok (.ireturn, 1) := by decide +kernel
theorem dX10_liveMany_0 : decode cX10_liveMany 0 = .ok (.iconst 0, 1) := by decide +kernel
theorem dX10_liveMany_1 : decode cX10_liveMany 1 = .ok (.istore_n 2, 1) := by decide +kernel
theorem dX10_liveMany_2 : decode cX10_liveMany 2 = .ok (.iconst 0, 1) := by decide +kernel
theorem dX10_liveMany_3 : decode cX10_liveMany 3 = .ok (.istore_n 3, 1) := by decide +kernel
theorem dX10_liveMany_4 : decode cX10_liveMany 4 = .ok (.iload_n 3, 1) := by decide +kernel
theorem dX10_liveMany_5 : decode cX10_liveMany 5 = .ok (.bipush 30, 2) := by decide +kernel
theorem dX10_liveMany_7 : decode cX10_liveMany 7 = .ok (.if_icmp .ge 39, 3) := by decide +kernel
theorem dX10_liveMany_10 : decode cX10_liveMany 10 = .ok (.iload_n 2, 1) := by decide +kernel
theorem dX10_liveMany_11 : decode cX10_liveMany 11 = .ok (.aload_n 0, 1) := by decide +kernel
theorem dX10_liveMany_12 : decode cX10_liveMany 12 = .ok (.iload_n 3, 1) := by decide +kernel
theorem dX10_liveMany_13 : decode cX10_liveMany 13 = .ok (.invokevirtual 61, 3) := by decide +kernel
theorem dX10_liveMany_16 : decode cX10_liveMany 16 = .ok (.ifCond .eq 21, 3) := by decide +kernel
theorem dX10_liveMany_19 : decode cX10_liveMany 19 = .ok (.iload_n 1, 1) := by decide +kernel
theorem dX10_liveMany_20 : decode cX10_liveMany 20 = .ok (.ifCond .lt 13, 3) := by decide +kernel
theorem dX10_liveMany_23 : decode cX10_liveMany 23 = .ok (.aload_n 0, 1) := by decide +kernel
theorem dX10_liveMany_24 : decode cX10_liveMany 24 = .ok (.iload_n 3, 1) := by decide +kernel
theorem dX10_liveMany_25 : decode cX10_liveMany 25 = .ok (.iconst 5, 1) := by decide +kernel
theorem dX10_liveMany_26 : decode cX10_liveMany 26 = .ok (.invokevirtual 57, 3) := by decide +kernel
theorem dX10_liveMany_29 : decode cX10_liveMany 29 = .ok (.iload_n 1, 1) := by decide +kernel
theorem dX10_liveMany_30 : decode cX10_liveMany 30 = .ok (.if_icmp .ne 7, 3) := by decide +kernel
theorem dX10_liveMany_33 : decode cX10_liveMany 33 = .ok (.iconst 1, 1) := by decide +kernel
theorem dX10_liveMany_34 : decode cX10_liveMany 34 = .ok (.goto 4, 3) := by decide +kernel
theorem dX10_liveMany_37 : decode cX10_liveMany 37 = .ok (.iconst 0, 1) := by decide +kernel
theorem dX10_liveMany_38 : decode cX10_liveMany 38 = .ok (.iadd, 1) := by decide +kernel
theorem dX10_liveMany_39 : decode cX10_liveMany 39 = .ok (.istore_n 2, 1) := by decide +kernel
theorem dX10_liveMany_40 : decode cX10_liveMany 40 = .ok (.iinc 3 1, 3) := by decide +kernel
theorem dX10_liveMany_43 : decode cX10_liveMany 43 = .ok (.goto (-39), 3) := by decide +kernel
theorem dX10_liveMany_46 : decode cX10_liveMany 46 = .ok (.iload_n 2, 1) := by decide +kernel
theorem dX10_liveMany_47 : decode cX10_liveMany 47 = .ok (.ireturn, 1) := by decide +kernel
theorem dX10_owner_0 : decode cX10_owner 0 = .ok (.iload_n 1, 1) := by decide +kernel
theorem dX10_owner_1 : decode cX10_owner 1 = .ok (.iconst 0, 1) := by decide +kernel
theorem dX10_owner_2 : decode cX10_owner 2 = .ok (.bipush 9, 2) := by decide +kernel
theorem dX10_owner_4 : decode cX10_owner 4 = .ok (.invokestatic 65, 3) := by decide +kernel
theorem dX10_owner_7 : decode cX10_owner 7 = .ok (.ifCond .eq 12, 3) := by decide +kernel
theorem dX10_owner_10 : decode cX10_owner 10 = .ok (.iload_n 2, 1) := by decide +kernel
theorem dX10_owner_11 : decode cX10_owner 11 = .ok (.iconst 0, 1) := by decide +kernel
theorem dX10_owner_12 : decode cX10_owner 12 = .ok (.iconst 3, 1) := by decide +kernel
theorem dX10_owner_13 : decode cX10_owner 13 = .ok (.invokestatic 65, 3) := by decide +kernel
theorem dX10_owner_16 : decode cX10_owner 16 = .ok (.ifCond .ne 5, 3) := by decide +kernel
theorem dX10_owner_19 : decode cX10_owner 19 = .ok (.iconst (-1), 1) := by decide +kernel
theorem dX10_owner_20 : decode cX10_owner 20 = .ok (.ireturn, 1) := by decide +kernel
theorem dX10_owner_21 : decode cX10_owner 21 = .ok (.iload_n 2, 1) := by decide +kernel
theorem dX10_owner_22 : decode cX10_owner 22 = .ok (.iconst 2, 1) := by decide +kernel
theorem dX10_owner_23 : decode cX10_owner 23 = .ok (.if_icmp .ne 67, 3) := by decide +kernel
theorem dX10_owner_26 : decode cX10_owner 26 = .ok (.aload_n 0, 1) := by decide +kernel
theorem dX10_owner_27 : decode cX10_owner 27 = .ok (.invokevirtual 124, 3) := by decide +kernel
theorem dX10_owner_30 : decode cX10_owner 30 = .ok (.istore_n 3, 1) := by decide +kernel
theorem dX10_owner_31 : decode cX10_owner 31 = .ok (.iconst 0, 1) := by decide +kernel
theorem dX10_owner_32 : decode cX10_owner 32 = .ok (.istore 4, 2) := by decide +kernel
theorem dX10_owner_34 : decode cX10_owner 34 = .ok (.iconst 0, 1) := by decide +kernel
theorem dX10_owner_35 : decode cX10_owner 35 = .ok (.istore 5, 2) := by decide +kernel
theorem dX10_owner_37 : decode cX10_owner 37 = .ok (.iload 5, 2) := by decide +kernel
theorem dX10_owner_39 : decode cX10_owner 39 = .ok (.bipush 30, 2) := by decide +kernel
theorem dX10_owner_41 : decode cX10_owner 41 = .ok (.if_icmp .ge 46, 3) := by decide +kernel
theorem dX10_owner_44 : decode cX10_owner 44 = .ok (.iload 4, 2) := by decide +kernel
theorem dX10_owner_46 : decode cX10_owner 46 = .ok (.iload_n 3, 1) := by decide +kernel
theorem dX10_owner_47 : decode cX10_owner 47 = .ok (.iload 5, 2) := by decide +kernel
theorem dX10_owner_49 : decode cX10_owner 49 = .ok (.ishr, 1) := by decide +kernel
theorem dX10_owner_50 : decode cX10_owner 50 = .ok (.iconst 1, 1) := by decide +kernel
theorem dX10_owner_51 : decode cX10_owner 51 = .ok (.iand, 1) := by decide +kernel
theorem dX10_owner_52 : decode cX10_owner 52 = .ok (.iconst 1, 1) := by decide +kernel
theorem dX10_owner_53 : decode cX10_owner 53 = .ok (.if_icmp .ne 24, 3) := by decide +kernel
theorem dX10_owner_56 : decode cX10_owner 56 = .ok (.aload_n 0, 1) := by decide +kernel
theorem dX10_owner_57 : decode cX10_owner 57 = .ok (.iload 5, 2) := by decide +kernel
theorem dX10_owner_59 : decode cX10_owner 59 = .ok (.iconst 5, 1) := by decide +kernel
theorem dX10_owner_60 : decode cX10_owner 60 = .ok (.invokevirtual 57, 3) := by decide +kernel
theorem dX10_owner_63 : decode cX10_owner 63 = .ok (.iload_n 1, 1) := by decide +kernel
theorem dX10_owner_64 : decode cX10_owner 64 = .ok (.if_icmp .ne 13, 3) := by decide +kernel
theorem dX10_owner_67 : decode cX10_owner 67 = .ok (.aload_n 0, 1) := by decide +kernel
theorem dX10_owner_68 : decode cX10_owner 68 = .ok (.iload 5, 2) := by decide +kernel
theorem dX10_owner_70 : decode cX10_owner 70 = .ok (.iconst 3, 1) := by decide +kernel
theorem dX10_owner_71 : decode cX10_owner 71 = .ok (.invokevirtual 57, 3) := by decide +kernel
theorem dX10_owner_74 : decode cX10_owner 74 = .ok (.goto 4, 3) := by decide +kernel
theorem dX10_owner_77 : decode cX10_owner 77 = .ok (.iconst 0, 1) := by decide +kernel
theorem dX10_owner_78 : decode cX10_owner 78 = .ok (.iadd, 1) := by decide +kernel
theorem dX10_owner_79 : decode cX10_owner 79 = .ok (.istore 4, 2) := by decide +kernel
theorem dX10_owner_81 : decode cX10_owner 81 = .ok (.iinc 5 1, 3) := by decide +kernel
theorem dX10_owner_84 : decode cX10_owner 84 = .ok (.goto (-47), 3) := by decide +kernel
theorem dX10_owner_87 : decode cX10_owner 87 = .ok (.iload 4, 2) := by decide +kernel
theorem dX10_owner_89 : decode cX10_owner 89 = .ok (.ireturn, 1) := by decide +kernel
theorem dX10_owner_90 : decode cX10_owner 90 = .ok (.iload_n 2, 1) := by decide +kernel
theorem dX10_owner_91 : decode cX10_owner 91 = .ok (.ifCond .ne 11, 3) := by decide +kernel
theorem dX10_owner_94 : decode cX10_owner 94 = .ok (.aload_n 0, 1) := by decide +kernel
theorem dX10_owner_95 : decode cX10_owner 95 = .ok (.iload_n 1, 1) := by decide +kernel
theorem dX10_owner_96 : decode cX10_owner 96 = .ok (.invokevirtual 76, 3) := by decide +kernel
theorem dX10_owner_99 : decode cX10_owner 99 = .ok (.goto 26, 3) := by decide +kernel
theorem dX10_owner_102 : decode cX10_owner 102 = .ok (.iload_n 2, 1) := by decide +kernel
theorem dX10_owner_103 : decode cX10_owner 103 = .ok (.iconst 1, 1) := by decide +kernel
theorem dX10_owner_104 : decode cX10_owner 104 = .ok (.if_icmp .ne 16, 3) := by decide +kernel
theorem dX10_owner_107 : decode cX10_owner 107 = .ok (.aload_n 0, 1) := by decide +kernel
theorem dX10_owner_108 : decode cX10_owner 108 = .ok (.getfield 9, 3) := by decide +kernel
theorem dX10_owner_111 : decode cX10_owner 111 = .ok (.sipush 589, 3) := by decide +kernel
theorem dX10_owner_114 : decode cX10_owner 114 = .ok (.iload_n 1, 1) := by decide +kernel
theorem dX10_owner_115 : decode cX10_owner 115 = .ok (.iadd, 1) := by decide +kernel
theorem dX10_owner_116 : decode cX10_owner 116 = .ok (.iaload, 1) := by decide +kernel
theorem dX10_owner_117 : decode cX10_owner 117 = .ok (.goto 8, 3) := by decide +kernel
theorem dX10_owner_120 : decode cX10_owner 120 = .ok (.aload_n 0, 1) := by decide +kernel
theorem dX10_owner_121 : decode cX10_owner 121 = .ok (.iload_n 1, 1) := by decide +kernel
theorem dX10_owner_122 : decode cX10_owner 122 = .ok (.invokevirtual 127, 3) := by decide +kernel
theorem dX10_owner_125 : decode cX10_owner 125 = .ok (.ireturn, 1) := by decide +kernel
theorem dX10_enter_0 : decode cX10_enter 0 = .ok (.iload_n 1, 1) := by decide +kernel
theorem dX10_enter_1 : decode cX10_enter 1 = .ok (.iconst 0, 1) := by decide +kernel
theorem dX10_enter_2 : decode cX10_enter 2 = .ok (.iconst 5, 1) := by decide +kernel
theorem dX10_enter_3 : decode cX10_enter 3 = .ok (.invokestatic 65, 3) := by decide +kernel
theorem dX10_enter_6 : decode cX10_enter 6 = .ok (.ifCond .ne 5, 3) := by decide +kernel
theorem dX10_enter_9 : decode cX10_enter 9 = .ok (.iconst (-1), 1) := by decide +kernel
theorem dX10_enter_10 : decode cX10_enter 10 = .ok (.ireturn, 1) := by decide +kernel
theorem dX10_enter_11 : decode cX10_enter 11 = .ok (.aload_n 0, 1) := by decide +kernel
theorem dX10_enter_12 : decode cX10_enter 12 = .ok (.getfield 9, 3) := by decide +kernel
theorem dX10_enter_15 : decode cX10_enter 15 = .ok (.sipush 599, 3) := by decide +kernel
theorem dX10_enter_18 : decode cX10_enter 18 = .ok (.iload_n 1, 1) := by decide +kernel
theorem dX10_enter_19 : decode cX10_enter 19 = .ok (.iadd, 1) := by decide +kernel
theorem dX10_enter_20 : decode cX10_enter 20 = .ok (.iaload, 1) := by decide +kernel
theorem dX10_enter_21 : decode cX10_enter 21 = .ok (.ifCond .lt 6, 3) := by decide +kernel
theorem dX10_enter_24 : decode cX10_enter 24 = .ok (.bipush (-5), 2) := by decide +kernel
theorem dX10_enter_26 : decode cX10_enter 26 = .ok (.ireturn, 1) := by decide +kernel
theorem dX10_enter_27 : decode cX10_enter 27 = .ok (.aload_n 0, 1) := by decide +kernel
theorem dX10_enter_28 : decode cX10_enter 28 = .ok (.getfield 9, 3) := by decide +kernel
theorem dX10_enter_31 : decode cX10_enter 31 = .ok (.sipush 599, 3) := by decide +kernel
theorem dX10_enter_34 : decode cX10_enter 34 = .ok (.iload_n 1, 1) := by decide +kernel
theorem dX10_enter_35 : decode cX10_enter 35 = .ok (.iadd, 1) := by decide +kernel
theorem dX10_enter_36 : decode cX10_enter 36 = .ok (.aload_n 0, 1) := by decide +kernel
theorem dX10_enter_37 : decode cX10_enter 37 = .ok (.getfield 9, 3) := by decide +kernel
theorem dX10_enter_40 : decode cX10_enter 40 = .ok (.sipush 605, 3) := by decide +kernel
theorem dX10_enter_43 : decode cX10_enter 43 = .ok (.iaload, 1) := by decide +kernel
theorem dX10_enter_44 : decode cX10_enter 44 = .ok (.iastore, 1) := by decide +kernel
theorem dX10_enter_45 : decode cX10_enter 45 = .ok (.aload_n 0, 1) := by decide +kernel
theorem dX10_enter_46 : decode cX10_enter 46 = .ok (.getfield 9, 3) := by decide +kernel
theorem dX10_enter_49 : decode cX10_enter 49 = .ok (.sipush 605, 3) := by decide +kernel
theorem dX10_enter_52 : decode cX10_enter 52 = .ok (.iaload, 1) := by decide +kernel
theorem dX10_enter_53 : decode cX10_enter 53 = .ok (.ireturn, 1) := by decide +kernel
theorem dX10_leave_0 : decode cX10_leave 0 = .ok (.iload_n 1, 1) := by decide +kernel
theorem dX10_leave_1 : decode cX10_leave 1 = .ok (.iconst 0, 1) := by decide +kernel
theorem dX10_leave_2 : decode cX10_leave 2 = .ok (.iconst 5, 1) := by decide +kernel
theorem dX10_leave_3 : decode cX10_leave 3 = .ok (.invokestatic 65, 3) := by decide +kernel
theorem dX10_leave_6 : decode cX10_leave 6 = .ok (.ifCond .ne 5, 3) := by decide +kernel
theorem dX10_leave_9 : decode cX10_leave 9 = .ok (.iconst (-1), 1) := by decide +kernel
theorem dX10_leave_10 : decode cX10_leave 10 = .ok (.ireturn, 1) := by decide +kernel
theorem dX10_leave_11 : decode cX10_leave 11 = .ok (.aload_n 0, 1) := by decide +kernel
theorem dX10_leave_12 : decode cX10_leave 12 = .ok (.getfield 9, 3) := by decide +kernel
theorem dX10_leave_15 : decode cX10_leave 15 = .ok (.sipush 599, 3) := by decide +kernel
theorem dX10_leave_18 : decode cX10_leave 18 = .ok (.iload_n 1, 1) := by decide +kernel
theorem dX10_leave_19 : decode cX10_leave 19 = .ok (.iadd, 1) := by decide +kernel
theorem dX10_leave_20 : decode cX10_leave 20 = .ok (.iaload, 1) := by decide +kernel
theorem dX10_leave_21 : decode cX10_leave 21 = .ok (.istore_n 2, 1) := by decide +kernel
theorem dX10_leave_22 : decode cX10_leave 22 = .ok (.iload_n 2, 1) := by decide +kernel
theorem dX10_leave_23 : decode cX10_leave 23 = .ok (.ifCond .ge 6, 3) := by decide +kernel
theorem dX10_leave_26 : decode cX10_leave 26 = .ok (.bipush (-5), 2) := by decide +kernel
theorem dX10_leave_28 : decode cX10_leave 28 = .ok (.ireturn, 1) := by decide +kernel
theorem dX10_leave_29 : decode cX10_leave 29 = .ok (.aload_n 0, 1) := by decide +kernel
theorem dX10_leave_30 : decode cX10_leave 30 = .ok (.getfield 9, 3) := by decide +kernel
theorem dX10_leave_33 : decode cX10_leave 33 = .ok (.sipush 599, 3) := by decide +kernel
theorem dX10_leave_36 : decode cX10_leave 36 = .ok (.iload_n 1, 1) := by decide +kernel
theorem dX10_leave_37 : decode cX10_leave 37 = .ok (.iadd, 1) := by decide +kernel
theorem dX10_leave_38 : decode cX10_leave 38 = .ok (.iconst (-1), 1) := by decide +kernel
theorem dX10_leave_39 : decode cX10_leave 39 = .ok (.iastore, 1) := by decide +kernel
theorem dX10_leave_40 : decode cX10_leave 40 = .ok (.iload_n 2, 1) := by decide +kernel
theorem dX10_leave_41 : decode cX10_leave 41 = .ok (.ireturn, 1) := by decide +kernel
theorem dX10_isSeen_0 : decode cX10_isSeen 0 = .ok (.iconst 0, 1) := by decide +kernel
theorem dX10_isSeen_1 : decode cX10_isSeen 1 = .ok (.istore_n 2, 1) := by decide +kernel
theorem dX10_isSeen_2 : decode cX10_isSeen 2 = .ok (.iload_n 2, 1) := by decide +kernel
theorem dX10_isSeen_3 : decode cX10_isSeen 3 = .ok (.bipush 6, 2) := by decide +kernel
theorem dX10_isSeen_5 : decode cX10_isSeen 5 = .ok (.if_icmp .ge 44, 3) := by decide +kernel
theorem dX10_isSeen_8 : decode cX10_isSeen 8 = .ok (.aload_n 0, 1) := by decide +kernel
theorem dX10_isSeen_9 : decode cX10_isSeen 9 = .ok (.getfield 9, 3) := by decide +kernel
theorem dX10_isSeen_12 : decode cX10_isSeen 12 = .ok (.sipush 599, 3) := by decide +kernel
theorem dX10_isSeen_15 : decode cX10_isSeen 15 = .ok (.iload_n 2, 1) := by decide +kernel
theorem dX10_isSeen_16 : decode cX10_isSeen 16 = .ok (.iadd, 1) := by decide +kernel
theorem dX10_isSeen_17 : decode cX10_isSeen 17 = .ok (.iaload, 1) := by decide +kernel
theorem dX10_isSeen_18 : decode cX10_isSeen 18 = .ok (.ifCond .lt 25, 3) := by decide +kernel
theorem dX10_isSeen_21 : decode cX10_isSeen 21 = .ok (.aload_n 0, 1) := by decide +kernel
theorem dX10_isSeen_22 : decode cX10_isSeen 22 = .ok (.getfield 9, 3) := by decide +kernel
theorem dX10_isSeen_25 : decode cX10_isSeen 25 = .ok (.sipush 599, 3) := by decide +kernel
theorem dX10_isSeen_28 : decode cX10_isSeen 28 = .ok (.iload_n 2, 1) := by decide +kernel
theorem dX10_isSeen_29 : decode cX10_isSeen 29 = .ok (.iadd, 1) := by decide +kernel
theorem dX10_isSeen_30 : decode cX10_isSeen 30 = .ok (.iaload, 1) := by decide +kernel
theorem dX10_isSeen_31 : decode cX10_isSeen 31 = .ok (.aload_n 0, 1) := by decide +kernel
theorem dX10_isSeen_32 : decode cX10_isSeen 32 = .ok (.iload_n 1, 1) := by decide +kernel
theorem dX10_isSeen_33 : decode cX10_isSeen 33 = .ok (.bipush 9, 2) := by decide +kernel
theorem dX10_isSeen_35 : decode cX10_isSeen 35 = .ok (.invokevirtual 57, 3) := by decide +kernel
theorem dX10_isSeen_38 : decode cX10_isSeen 38 = .ok (.if_icmp .gt 5, 3) := by decide +kernel
theorem dX10_isSeen_41 : decode cX10_isSeen 41 = .ok (.iconst 1, 1) := by decide +kernel
theorem dX10_isSeen_42 : decode cX10_isSeen 42 = .ok (.ireturn, 1) := by decide +kernel
theorem dX10_isSeen_43 : decode cX10_isSeen 43 = .ok (.iinc 2 1, 3) := by decide +kernel
theorem dX10_isSeen_46 : decode cX10_isSeen 46 = .ok (.goto (-44), 3) := by decide +kernel
theorem dX10_isSeen_49 : decode cX10_isSeen 49 = .ok (.iconst 0, 1) := by decide +kernel
theorem dX10_isSeen_50 : decode cX10_isSeen 50 = .ok (.ireturn, 1) := by decide +kernel
theorem dX10_freeable_0 : decode cX10_freeable 0 = .ok (.iconst 0, 1) := by decide +kernel
theorem dX10_freeable_1 : decode cX10_freeable 1 = .ok (.istore_n 1, 1) := by decide +kernel
theorem dX10_freeable_2 : decode cX10_freeable 2 = .ok (.iconst 0, 1) := by decide +kernel
theorem dX10_freeable_3 : decode cX10_freeable 3 = .ok (.istore_n 2, 1) := by decide +kernel
theorem dX10_freeable_4 : decode cX10_freeable 4 = .ok (.iload_n 2, 1) := by decide +kernel
theorem dX10_freeable_5 : decode cX10_freeable 5 = .ok (.bipush 30, 2) := by decide +kernel
theorem dX10_freeable_7 : decode cX10_freeable 7 = .ok (.if_icmp .ge 35, 3) := by decide +kernel
theorem dX10_freeable_10 : decode cX10_freeable 10 = .ok (.iload_n 1, 1) := by decide +kernel
theorem dX10_freeable_11 : decode cX10_freeable 11 = .ok (.aload_n 0, 1) := by decide +kernel
theorem dX10_freeable_12 : decode cX10_freeable 12 = .ok (.iload_n 2, 1) := by decide +kernel
theorem dX10_freeable_13 : decode cX10_freeable 13 = .ok (.iconst 0, 1) := by decide +kernel
theorem dX10_freeable_14 : decode cX10_freeable 14 = .ok (.invokevirtual 57, 3) := by decide +kernel
theorem dX10_freeable_17 : decode cX10_freeable 17 = .ok (.iconst 2, 1) := by decide +kernel
theorem dX10_freeable_18 : decode cX10_freeable 18 = .ok (.if_icmp .ne 15, 3) := by decide +kernel
theorem dX10_freeable_21 : decode cX10_freeable 21 = .ok (.aload_n 0, 1) := by decide +kernel
theorem dX10_freeable_22 : decode cX10_freeable 22 = .ok (.iload_n 2, 1) := by decide +kernel
theorem dX10_freeable_23 : decode cX10_freeable 23 = .ok (.invokevirtual 130, 3) := by decide +kernel
theorem dX10_freeable_26 : decode cX10_freeable 26 = .ok (.ifCond .ne 7, 3) := by decide +kernel
theorem dX10_freeable_29 : decode cX10_freeable 29 = .ok (.iconst 1, 1) := by decide +kernel
theorem dX10_freeable_30 : decode cX10_freeable 30 = .ok (.goto 4, 3) := by decide +kernel
theorem dX10_freeable_33 : decode cX10_freeable 33 = .ok (.iconst 0, 1) := by decide +kernel
theorem dX10_freeable_34 : decode cX10_freeable 34 = .ok (.iadd, 1) := by decide +kernel
theorem dX10_freeable_35 : decode cX10_freeable 35 = .ok (.istore_n 1, 1) := by decide +kernel
theorem dX10_freeable_36 : decode cX10_freeable 36 = .ok (.iinc 2 1, 3) := by decide +kernel
theorem dX10_freeable_39 : decode cX10_freeable 39 = .ok (.goto (-35), 3) := by decide +kernel
theorem dX10_freeable_42 : decode cX10_freeable 42 = .ok (.iload_n 1, 1) := by decide +kernel
theorem dX10_freeable_43 : decode cX10_freeable 43 = .ok (.ireturn, 1) := by decide +kernel
theorem dX10_advance_0 : decode cX10_advance 0 = .ok (.aload_n 0, 1) := by decide +kernel
theorem dX10_advance_1 : decode cX10_advance 1 = .ok (.invokevirtual 133, 3) := by decide +kernel
theorem dX10_advance_4 : decode cX10_advance 4 = .ok (.istore_n 1, 1) := by decide +kernel
theorem dX10_advance_5 : decode cX10_advance 5 = .ok (.aload_n 0, 1) := by decide +kernel
theorem dX10_advance_6 : decode cX10_advance 6 = .ok (.getfield 9, 3) := by decide +kernel
theorem dX10_advance_9 : decode cX10_advance 9 = .ok (.sipush 605, 3) := by decide +kernel
theorem dX10_advance_12 : decode cX10_advance 12 = .ok (.dup2, 1) := by decide +kernel
theorem dX10_advance_13 : decode cX10_advance 13 = .ok (.iaload, 1) := by decide +kernel
theorem dX10_advance_14 : decode cX10_advance 14 = .ok (.iconst 1, 1) := by decide +kernel
theorem dX10_advance_15 : decode cX10_advance 15 = .ok (.iadd, 1) := by decide +kernel
theorem dX10_advance_16 : decode cX10_advance 16 = .ok (.iastore, 1) := by decide +kernel
theorem dX10_advance_17 : decode cX10_advance 17 = .ok (.iconst 0, 1) := by decide +kernel
theorem dX10_advance_18 : decode cX10_advance 18 = .ok (.istore_n 2, 1) := by decide +kernel
theorem dX10_advance_19 : decode cX10_advance 19 = .ok (.iload_n 2, 1) := by decide +kernel
theorem dX10_advance_20 : decode cX10_advance 20 = .ok (.bipush 30, 2) := by decide +kernel
theorem dX10_advance_22 : decode cX10_advance 22 = .ok (.if_icmp .ge 34, 3) := by decide +kernel
theorem dX10_advance_25 : decode cX10_advance 25 = .ok (.aload_n 0, 1) := by decide +kernel
theorem dX10_advance_26 : decode cX10_advance 26 = .ok (.iload_n 2, 1) := by decide +kernel
theorem dX10_advance_27 : decode cX10_advance 27 = .ok (.iconst 0, 1) := by decide +kernel
theorem dX10_advance_28 : decode cX10_advance 28 = .ok (.invokevirtual 57, 3) := by decide +kernel
theorem dX10_advance_31 : decode cX10_advance 31 = .ok (.iconst 2, 1) := by decide +kernel
theorem dX10_advance_32 : decode cX10_advance 32 = .ok (.if_icmp .ne 18, 3) := by decide +kernel
theorem dX10_advance_35 : decode cX10_advance 35 = .ok (.aload_n 0, 1) := by decide +kernel
theorem dX10_advance_36 : decode cX10_advance 36 = .ok (.iload_n 2, 1) := by decide +kernel
theorem dX10_advance_37 : decode cX10_advance 37 = .ok (.invokevirtual 130, 3) := by decide +kernel
theorem dX10_advance_40 : decode cX10_advance 40 = .ok (.ifCond .ne 10, 3) := by decide +kernel
theorem dX10_advance_43 : decode cX10_advance 43 = .ok (.aload_n 0, 1) := by decide +kernel
theorem dX10_advance_44 : decode cX10_advance 44 = .ok (.iload_n 2, 1) := by decide +kernel
theorem dX10_advance_45 : decode cX10_advance 45 = .ok (.iconst 0, 1) := by decide +kernel
theorem dX10_advance_46 : decode cX10_advance 46 = .ok (.iconst 0, 1) := by decide +kernel
theorem dX10_advance_47 : decode cX10_advance 47 = .ok (.invokevirtual 89, 3) := by decide +kernel
theorem dX10_advance_50 : decode cX10_advance 50 = .ok (.iinc 2 1, 3) := by decide +kernel
theorem dX10_advance_53 : decode cX10_advance 53 = .ok (.goto (-34), 3) := by decide +kernel
theorem dX10_advance_56 : decode cX10_advance 56 = .ok (.iload_n 1, 1) := by decide +kernel
theorem dX10_advance_57 : decode cX10_advance 57 = .ok (.ireturn, 1) := by decide +kernel
theorem dX10_freeIn_0 : decode cX10_freeIn 0 = .ok (.iconst 0, 1) := by decide +kernel
theorem dX10_freeIn_1 : decode cX10_freeIn 1 = .ok (.istore_n 3, 1) := by decide +kernel
theorem dX10_freeIn_2 : decode cX10_freeIn 2 = .ok (.iconst 0, 1) := by decide +kernel
theorem dX10_freeIn_3 : decode cX10_freeIn 3 = .ok (.istore 4, 2) := by decide +kernel
theorem dX10_freeIn_5 : decode cX10_freeIn 5 = .ok (.iconst 0, 1) := by decide +kernel
theorem dX10_freeIn_6 : decode cX10_freeIn 6 = .ok (.istore 5, 2) := by decide +kernel
theorem dX10_freeIn_8 : decode cX10_freeIn 8 = .ok (.iconst 0, 1) := by decide +kernel
theorem dX10_freeIn_9 : decode cX10_freeIn 9 = .ok (.istore 6, 2) := by decide +kernel
theorem dX10_freeIn_11 : decode cX10_freeIn 11 = .ok (.aload_n 0, 1) := by decide +kernel
theorem dX10_freeIn_12 : decode cX10_freeIn 12 = .ok (.getfield 9, 3) := by decide +kernel
theorem dX10_freeIn_15 : decode cX10_freeIn 15 = .ok (.sipush 571, 3) := by decide +kernel
theorem dX10_freeIn_18 : decode cX10_freeIn 18 = .ok (.iload_n 1, 1) := by decide +kernel
theorem dX10_freeIn_19 : decode cX10_freeIn 19 = .ok (.iadd, 1) := by decide +kernel
theorem dX10_freeIn_20 : decode cX10_freeIn 20 = .ok (.iaload, 1) := by decide +kernel
theorem dX10_freeIn_21 : decode cX10_freeIn 21 = .ok (.istore 7, 2) := by decide +kernel
theorem dX10_freeIn_23 : decode cX10_freeIn 23 = .ok (.iload 7, 2) := by decide +kernel
theorem dX10_freeIn_25 : decode cX10_freeIn 25 = .ok (.aload_n 0, 1) := by decide +kernel
theorem dX10_freeIn_26 : decode cX10_freeIn 26 = .ok (.iload_n 1, 1) := by decide +kernel
theorem dX10_freeIn_27 : decode cX10_freeIn 27 = .ok (.invokevirtual 69, 3) := by decide +kernel
theorem dX10_freeIn_30 : decode cX10_freeIn 30 = .ok (.if_icmp .ge 92, 3) := by decide +kernel
theorem dX10_freeIn_33 : decode cX10_freeIn 33 = .ok (.aload_n 0, 1) := by decide +kernel
theorem dX10_freeIn_34 : decode cX10_freeIn 34 = .ok (.getfield 22, 3) := by decide +kernel
theorem dX10_freeIn_37 : decode cX10_freeIn 37 = .ok (.iload 7, 2) := by decide +kernel
theorem dX10_freeIn_39 : decode cX10_freeIn 39 = .ok (.iaload, 1) := by decide +kernel
theorem dX10_freeIn_40 : decode cX10_freeIn 40 = .ok (.bipush 100, 2) := by decide +kernel
theorem dX10_freeIn_42 : decode cX10_freeIn 42 = .ok (.if_icmp .ne 7, 3) := by decide +kernel
theorem dX10_freeIn_45 : decode cX10_freeIn 45 = .ok (.iconst 1, 1) := by decide +kernel
theorem dX10_freeIn_46 : decode cX10_freeIn 46 = .ok (.goto 4, 3) := by decide +kernel
theorem dX10_freeIn_49 : decode cX10_freeIn 49 = .ok (.iconst 0, 1) := by decide +kernel
theorem dX10_freeIn_50 : decode cX10_freeIn 50 = .ok (.istore 8, 2) := by decide +kernel
theorem dX10_freeIn_52 : decode cX10_freeIn 52 = .ok (.iload_n 3, 1) := by decide +kernel
theorem dX10_freeIn_53 : decode cX10_freeIn 53 = .ok (.iload 8, 2) := by decide +kernel
theorem dX10_freeIn_55 : decode cX10_freeIn 55 = .ok (.ifCond .eq 7, 3) := by decide +kernel
theorem dX10_freeIn_58 : decode cX10_freeIn 58 = .ok (.iconst 1, 1) := by decide +kernel
theorem dX10_freeIn_59 : decode cX10_freeIn 59 = .ok (.goto 4, 3) := by decide +kernel
theorem dX10_freeIn_62 : decode cX10_freeIn 62 = .ok (.iconst 0, 1) := by decide +kernel
theorem dX10_freeIn_63 : decode cX10_freeIn 63 = .ok (.iadd, 1) := by decide +kernel
theorem dX10_freeIn_64 : decode cX10_freeIn 64 = .ok (.istore_n 3, 1) := by decide +kernel
theorem dX10_freeIn_65 : decode cX10_freeIn 65 = .ok (.iload 6, 2) := by decide +kernel
theorem dX10_freeIn_67 : decode cX10_freeIn 67 = .ok (.iload 8, 2) := by decide +kernel
theorem dX10_freeIn_69 : decode cX10_freeIn 69 = .ok (.ifCond .eq 12, 3) := by decide +kernel
theorem dX10_freeIn_72 : decode cX10_freeIn 72 = .ok (.iload 4, 2) := by decide +kernel
theorem dX10_freeIn_74 : decode cX10_freeIn 74 = .ok (.ifCond .ne 7, 3) := by decide +kernel
theorem dX10_freeIn_77 : decode cX10_freeIn 77 = .ok (.iconst 1, 1) := by decide +kernel
theorem dX10_freeIn_78 : decode cX10_freeIn 78 = .ok (.goto 4, 3) := by decide +kernel
theorem dX10_freeIn_81 : decode cX10_freeIn 81 = .ok (.iconst 0, 1) := by decide +kernel
theorem dX10_freeIn_82 : decode cX10_freeIn 82 = .ok (.iadd, 1) := by decide +kernel
theorem dX10_freeIn_83 : decode cX10_freeIn 83 = .ok (.istore 6, 2) := by decide +kernel
theorem dX10_freeIn_85 : decode cX10_freeIn 85 = .ok (.iload 8, 2) := by decide +kernel
theorem dX10_freeIn_87 : decode cX10_freeIn 87 = .ok (.ifCond .eq 10, 3) := by decide +kernel
theorem dX10_freeIn_90 : decode cX10_freeIn 90 = .ok (.iload 4, 2) := by decide +kernel
theorem dX10_freeIn_92 : decode cX10_freeIn 92 = .ok (.iconst 1, 1) := by decide +kernel
theorem dX10_freeIn_93 : decode cX10_freeIn 93 = .ok (.iadd, 1) := by decide +kernel
theorem dX10_freeIn_94 : decode cX10_freeIn 94 = .ok (.goto 4, 3) := by decide +kernel
theorem dX10_freeIn_97 : decode cX10_freeIn 97 = .ok (.iconst 0, 1) := by decide +kernel
theorem dX10_freeIn_98 : decode cX10_freeIn 98 = .ok (.istore 4, 2) := by decide +kernel
theorem dX10_freeIn_100 : decode cX10_freeIn 100 = .ok (.iload 4, 2) := by decide +kernel
theorem dX10_freeIn_102 : decode cX10_freeIn 102 = .ok (.iload 5, 2) := by decide +kernel
theorem dX10_freeIn_104 : decode cX10_freeIn 104 = .ok (.if_icmp .le 8, 3) := by decide +kernel
theorem dX10_freeIn_107 : decode cX10_freeIn 107 = .ok (.iload 4, 2) := by decide +kernel
theorem dX10_freeIn_109 : decode cX10_freeIn 109 = .ok (.goto 5, 3) := by decide +kernel
theorem dX10_freeIn_112 : decode cX10_freeIn 112 = .ok (.iload 5, 2) := by decide +kernel
theorem dX10_freeIn_114 : decode cX10_freeIn 114 = .ok (.istore 5, 2) := by decide +kernel
theorem dX10_freeIn_116 : decode cX10_freeIn 116 = .ok (.iinc 7 1, 3) := by decide +kernel
theorem dX10_freeIn_119 : decode cX10_freeIn 119 = .ok (.goto (-96), 3) := by decide +kernel
theorem dX10_freeIn_122 : decode cX10_freeIn 122 = .ok (.iload_n 2, 1) := by decide +kernel
theorem dX10_freeIn_123 : decode cX10_freeIn 123 = .ok (.iconst 1, 1) := by decide +kernel
theorem dX10_freeIn_124 : decode cX10_freeIn 124 = .ok (.if_icmp .ne 7, 3) := by decide +kernel
theorem dX10_freeIn_127 : decode cX10_freeIn 127 = .ok (.iload_n 3, 1) := by decide +kernel
theorem dX10_freeIn_128 : decode cX10_freeIn 128 = .ok (.goto 15, 3) := by decide +kernel
theorem dX10_freeIn_131 : decode cX10_freeIn 131 = .ok (.iload_n 2, 1) := by decide +kernel
theorem dX10_freeIn_132 : decode cX10_freeIn 132 = .ok (.iconst 2, 1) := by decide +kernel
theorem dX10_freeIn_133 : decode cX10_freeIn 133 = .ok (.if_icmp .ne 8, 3) := by decide +kernel
theorem dX10_freeIn_136 : decode cX10_freeIn 136 = .ok (.iload 5, 2) := by decide +kernel
theorem dX10_freeIn_138 : decode cX10_freeIn 138 = .ok (.goto 5, 3) := by decide +kernel
theorem dX10_freeIn_141 : decode cX10_freeIn 141 = .ok (.iload 6, 2) := by decide +kernel
theorem dX10_freeIn_143 : decode cX10_freeIn 143 = .ok (.ireturn, 1) := by decide +kernel
theorem dX10_would_0 : decode cX10_would 0 = .ok (.aload_n 0, 1) := by decide +kernel
theorem dX10_would_1 : decode cX10_would 1 = .ok (.iload_n 1, 1) := by decide +kernel
theorem dX10_would_2 : decode cX10_would 2 = .ok (.invokevirtual 73, 3) := by decide +kernel
theorem dX10_would_5 : decode cX10_would 5 = .ok (.ifCond .eq 26, 3) := by decide +kernel
theorem dX10_would_8 : decode cX10_would 8 = .ok (.iload_n 3, 1) := by decide +kernel
theorem dX10_would_9 : decode cX10_would 9 = .ok (.iconst 0, 1) := by decide +kernel
theorem dX10_would_10 : decode cX10_would 10 = .ok (.iconst 3, 1) := by decide +kernel
theorem dX10_would_11 : decode cX10_would 11 = .ok (.invokestatic 65, 3) := by decide +kernel
theorem dX10_would_14 : decode cX10_would 14 = .ok (.ifCond .eq 17, 3) := by decide +kernel
theorem dX10_would_17 : decode cX10_would 17 = .ok (.iload_n 3, 1) := by decide +kernel
theorem dX10_would_18 : decode cX10_would 18 = .ok (.ifCond .ne 15, 3) := by decide +kernel
theorem dX10_would_21 : decode cX10_would 21 = .ok (.iload_n 2, 1) := by decide +kernel
theorem dX10_would_22 : decode cX10_would 22 = .ok (.iconst 1, 1) := by decide +kernel
theorem dX10_would_23 : decode cX10_would 23 = .ok (.bipush 40, 2) := by decide +kernel
theorem dX10_would_25 : decode cX10_would 25 = .ok (.invokestatic 65, 3) := by decide +kernel
theorem dX10_would_28 : decode cX10_would 28 = .ok (.ifCond .ne 5, 3) := by decide +kernel
theorem dX10_would_31 : decode cX10_would 31 = .ok (.iconst (-1), 1) := by decide +kernel
theorem dX10_would_32 : decode cX10_would 32 = .ok (.ireturn, 1) := by decide +kernel
theorem dX10_would_33 : decode cX10_would 33 = .ok (.aload_n 0, 1) := by decide +kernel
theorem dX10_would_34 : decode cX10_would 34 = .ok (.invokevirtual 79, 3) := by decide +kernel
theorem dX10_would_37 : decode cX10_would 37 = .ok (.iload_n 3, 1) := by decide +kernel
theorem dX10_would_38 : decode cX10_would 38 = .ok (.ifCond .ne 12, 3) := by decide +kernel
theorem dX10_would_41 : decode cX10_would 41 = .ok (.aload_n 0, 1) := by decide +kernel
theorem dX10_would_42 : decode cX10_would 42 = .ok (.iload_n 1, 1) := by decide +kernel
theorem dX10_would_43 : decode cX10_would 43 = .ok (.iload_n 2, 1) := by decide +kernel
theorem dX10_would_44 : decode cX10_would 44 = .ok (.invokevirtual 82, 3) := by decide +kernel
theorem dX10_would_47 : decode cX10_would 47 = .ok (.goto 9, 3) := by decide +kernel
theorem dX10_would_50 : decode cX10_would 50 = .ok (.aload_n 0, 1) := by decide +kernel
theorem dX10_would_51 : decode cX10_would 51 = .ok (.iload_n 1, 1) := by decide +kernel
theorem dX10_would_52 : decode cX10_would 52 = .ok (.iload_n 3, 1) := by decide +kernel
theorem dX10_would_53 : decode cX10_would 53 = .ok (.invokevirtual 136, 3) := by decide +kernel
theorem dX10_would_56 : decode cX10_would 56 = .ok (.ireturn, 1) := by decide +kernel
theorem dX10_least_0 : decode cX10_least 0 = .ok (.aload_n 0, 1) := by decide +kernel
theorem dX10_least_1 : decode cX10_least 1 = .ok (.iload_n 1, 1) := by decide +kernel
theorem dX10_least_2 : decode cX10_least 2 = .ok (.invokevirtual 73, 3) := by decide +kernel
theorem dX10_least_5 : decode cX10_least 5 = .ok (.ifCond .eq 13, 3) := by decide +kernel
theorem dX10_least_8 : decode cX10_least 8 = .ok (.iload_n 2, 1) := by decide +kernel
theorem dX10_least_9 : decode cX10_least 9 = .ok (.iconst 1, 1) := by decide +kernel
theorem dX10_least_10 : decode cX10_least 10 = .ok (.bipush 40, 2) := by decide +kernel
theorem dX10_least_12 : decode cX10_least 12 = .ok (.invokestatic 65, 3) := by decide +kernel
theorem dX10_least_15 : decode cX10_least 15 = .ok (.ifCond .ne 5, 3) := by decide +kernel
theorem dX10_least_18 : decode cX10_least 18 = .ok (.iconst (-1), 1) := by decide +kernel
theorem dX10_least_19 : decode cX10_least 19 = .ok (.ireturn, 1) := by decide +kernel
theorem dX10_least_20 : decode cX10_least 20 = .ok (.aload_n 0, 1) := by decide +kernel
theorem dX10_least_21 : decode cX10_least 21 = .ok (.getfield 9, 3) := by decide +kernel
theorem dX10_least_24 : decode cX10_least 24 = .ok (.aload_n 0, 1) := by decide +kernel
theorem dX10_least_25 : decode cX10_least 25 = .ok (.getfield 13, 3) := by decide +kernel
theorem dX10_least_28 : decode cX10_least 28 = .ok (.invokestatic 139, 3) := by decide +kernel
theorem dX10_least_31 : decode cX10_least 31 = .ok (.bipush (-2), 2) := by decide +kernel
theorem dX10_least_33 : decode cX10_least 33 = .ok (.istore_n 3, 1) := by decide +kernel
theorem dX10_least_34 : decode cX10_least 34 = .ok (.iconst 0, 1) := by decide +kernel
theorem dX10_least_35 : decode cX10_least 35 = .ok (.istore 4, 2) := by decide +kernel
theorem dX10_least_37 : decode cX10_least 37 = .ok (.iload 4, 2) := by decide +kernel
theorem dX10_least_39 : decode cX10_least 39 = .ok (.sipush 240, 3) := by decide +kernel
theorem dX10_least_42 : decode cX10_least 42 = .ok (.if_icmp .gt 53, 3) := by decide +kernel
theorem dX10_least_45 : decode cX10_least 45 = .ok (.iload_n 3, 1) := by decide +kernel
theorem dX10_least_46 : decode cX10_least 46 = .ok (.ifCond .ge 49, 3) := by decide +kernel
theorem dX10_least_49 : decode cX10_least 49 = .ok (.aload_n 0, 1) := by decide +kernel
theorem dX10_least_50 : decode cX10_least 50 = .ok (.iload_n 1, 1) := by decide +kernel
theorem dX10_least_51 : decode cX10_least 51 = .ok (.iload 4, 2) := by decide +kernel
theorem dX10_least_53 : decode cX10_least 53 = .ok (.invokevirtual 111, 3) := by decide +kernel
theorem dX10_least_56 : decode cX10_least 56 = .ok (.pop, 1) := by decide +kernel
theorem dX10_least_57 : decode cX10_least 57 = .ok (.aload_n 0, 1) := by decide +kernel
theorem dX10_least_58 : decode cX10_least 58 = .ok (.invokevirtual 79, 3) := by decide +kernel
theorem dX10_least_61 : decode cX10_least 61 = .ok (.aload_n 0, 1) := by decide +kernel
theorem dX10_least_62 : decode cX10_least 62 = .ok (.iload_n 1, 1) := by decide +kernel
theorem dX10_least_63 : decode cX10_least 63 = .ok (.iload_n 2, 1) := by decide +kernel
theorem dX10_least_64 : decode cX10_least 64 = .ok (.invokevirtual 82, 3) := by decide +kernel
theorem dX10_least_67 : decode cX10_least 67 = .ok (.ifCond .lt 8, 3) := by decide +kernel
theorem dX10_least_70 : decode cX10_least 70 = .ok (.iload 4, 2) := by decide +kernel
theorem dX10_least_72 : decode cX10_least 72 = .ok (.goto 5, 3) := by decide +kernel
theorem dX10_least_75 : decode cX10_least 75 = .ok (.bipush (-2), 2) := by decide +kernel
theorem dX10_least_77 : decode cX10_least 77 = .ok (.istore_n 3, 1) := by decide +kernel
theorem dX10_least_78 : decode cX10_least 78 = .ok (.aload_n 0, 1) := by decide +kernel
theorem dX10_least_79 : decode cX10_least 79 = .ok (.getfield 13, 3) := by decide +kernel
theorem dX10_least_82 : decode cX10_least 82 = .ok (.aload_n 0, 1) := by decide +kernel
theorem dX10_least_83 : decode cX10_least 83 = .ok (.getfield 9, 3) := by decide +kernel
theorem dX10_least_86 : decode cX10_least 86 = .ok (.invokestatic 139, 3) := by decide +kernel
theorem dX10_least_89 : decode cX10_least 89 = .ok (.iinc 4 1, 3) := by decide +kernel
theorem dX10_least_92 : decode cX10_least 92 = .ok (.goto (-55), 3) := by decide +kernel
theorem dX10_least_95 : decode cX10_least 95 = .ok (.iload_n 3, 1) := by decide +kernel
theorem dX10_least_96 : decode cX10_least 96 = .ok (.ireturn, 1) := by decide +kernel
theorem dX10_holds_0 : decode cX10_holds 0 = .ok (.iconst 0, 1) := by decide +kernel
theorem dX10_holds_1 : decode cX10_holds 1 = .ok (.istore_n 3, 1) := by decide +kernel
theorem dX10_holds_2 : decode cX10_holds 2 = .ok (.iload_n 3, 1) := by decide +kernel
theorem dX10_holds_3 : decode cX10_holds 3 = .ok (.aload_n 0, 1) := by decide +kernel
theorem dX10_holds_4 : decode cX10_holds 4 = .ok (.iload_n 1, 1) := by decide +kernel
theorem dX10_holds_5 : decode cX10_holds 5 = .ok (.iconst 3, 1) := by decide +kernel
theorem dX10_holds_6 : decode cX10_holds 6 = .ok (.invokevirtual 57, 3) := by decide +kernel
theorem dX10_holds_9 : decode cX10_holds 9 = .ok (.if_icmp .ge 36, 3) := by decide +kernel
theorem dX10_holds_12 : decode cX10_holds 12 = .ok (.aload_n 0, 1) := by decide +kernel
theorem dX10_holds_13 : decode cX10_holds 13 = .ok (.getfield 9, 3) := by decide +kernel
theorem dX10_holds_16 : decode cX10_holds 16 = .ok (.sipush 330, 3) := by decide +kernel
theorem dX10_holds_19 : decode cX10_holds 19 = .ok (.aload_n 0, 1) := by decide +kernel
theorem dX10_holds_20 : decode cX10_holds 20 = .ok (.iload_n 1, 1) := by decide +kernel
theorem dX10_holds_21 : decode cX10_holds 21 = .ok (.iconst 2, 1) := by decide +kernel
theorem dX10_holds_22 : decode cX10_holds 22 = .ok (.invokevirtual 57, 3) := by decide +kernel
theorem dX10_holds_25 : decode cX10_holds 25 = .ok (.iadd, 1) := by decide +kernel
theorem dX10_holds_26 : decode cX10_holds 26 = .ok (.iload_n 3, 1) := by decide +kernel
theorem dX10_holds_27 : decode cX10_holds 27 = .ok (.iadd, 1) := by decide +kernel
theorem dX10_holds_28 : decode cX10_holds 28 = .ok (.iaload, 1) := by decide +kernel
theorem dX10_holds_29 : decode cX10_holds 29 = .ok (.aload_n 0, 1) := by decide +kernel
theorem dX10_holds_30 : decode cX10_holds 30 = .ok (.iload_n 2, 1) := by decide +kernel
theorem dX10_holds_31 : decode cX10_holds 31 = .ok (.invokevirtual 93, 3) := by decide +kernel
theorem dX10_holds_34 : decode cX10_holds 34 = .ok (.if_icmp .ne 5, 3) := by decide +kernel
theorem dX10_holds_37 : decode cX10_holds 37 = .ok (.iconst 1, 1) := by decide +kernel
theorem dX10_holds_38 : decode cX10_holds 38 = .ok (.ireturn, 1) := by decide +kernel
theorem dX10_holds_39 : decode cX10_holds 39 = .ok (.iinc 3 1, 3) := by decide +kernel
theorem dX10_holds_42 : decode cX10_holds 42 = .ok (.goto (-40), 3) := by decide +kernel
theorem dX10_holds_45 : decode cX10_holds 45 = .ok (.iconst 0, 1) := by decide +kernel
theorem dX10_holds_46 : decode cX10_holds 46 = .ok (.ireturn, 1) := by decide +kernel
theorem dX10_leakedOnes_0 : decode cX10_leakedOnes 0 = .ok (.iconst 0, 1) := by decide +kernel
theorem dX10_leakedOnes_1 : decode cX10_leakedOnes 1 = .ok (.istore_n 1, 1) := by decide +kernel
theorem dX10_leakedOnes_2 : decode cX10_leakedOnes 2 = .ok (.iconst 0, 1) := by decide +kernel
theorem dX10_leakedOnes_3 : decode cX10_leakedOnes 3 = .ok (.istore_n 2, 1) := by decide +kernel
theorem dX10_leakedOnes_4 : decode cX10_leakedOnes 4 = .ok (.iconst 0, 1) := by decide +kernel
theorem dX10_leakedOnes_5 : decode cX10_leakedOnes 5 = .ok (.istore_n 3, 1) := by decide +kernel
theorem dX10_leakedOnes_6 : decode cX10_leakedOnes 6 = .ok (.iload_n 3, 1) := by decide +kernel
theorem dX10_leakedOnes_7 : decode cX10_leakedOnes 7 = .ok (.bipush 30, 2) := by decide +kernel
theorem dX10_leakedOnes_9 : decode cX10_leakedOnes 9 = .ok (.if_icmp .ge 65, 3) := by decide +kernel
theorem dX10_leakedOnes_12 : decode cX10_leakedOnes 12 = .ok (.iload_n 2, 1) := by decide +kernel
theorem dX10_leakedOnes_13 : decode cX10_leakedOnes 13 = .ok (.aload_n 0, 1) := by decide +kernel
theorem dX10_leakedOnes_14 : decode cX10_leakedOnes 14 = .ok (.iload_n 3, 1) := by decide +kernel
theorem dX10_leakedOnes_15 : decode cX10_leakedOnes 15 = .ok (.invokevirtual 61, 3) := by decide +kernel
theorem dX10_leakedOnes_18 : decode cX10_leakedOnes 18 = .ok (.ifCond .eq 9, 3) := by decide +kernel
theorem dX10_leakedOnes_21 : decode cX10_leakedOnes 21 = .ok (.iconst 1, 1) := by decide +kernel
theorem dX10_leakedOnes_22 : decode cX10_leakedOnes 22 = .ok (.iload_n 3, 1) := by decide +kernel
theorem dX10_leakedOnes_23 : decode cX10_leakedOnes 23 = .ok (.ishl, 1) := by decide +kernel
theorem dX10_leakedOnes_24 : decode cX10_leakedOnes 24 = .ok (.goto 4, 3) := by decide +kernel
theorem dX10_leakedOnes_27 : decode cX10_leakedOnes 27 = .ok (.iconst 0, 1) := by decide +kernel
theorem dX10_leakedOnes_28 : decode cX10_leakedOnes 28 = .ok (.ior, 1) := by decide +kernel
theorem dX10_leakedOnes_29 : decode cX10_leakedOnes 29 = .ok (.istore_n 2, 1) := by decide +kernel
theorem dX10_leakedOnes_30 : decode cX10_leakedOnes 30 = .ok (.iload_n 1, 1) := by decide +kernel
theorem dX10_leakedOnes_31 : decode cX10_leakedOnes 31 = .ok (.aload_n 0, 1) := by decide +kernel
theorem dX10_leakedOnes_32 : decode cX10_leakedOnes 32 = .ok (.iload_n 3, 1) := by decide +kernel
theorem dX10_leakedOnes_33 : decode cX10_leakedOnes 33 = .ok (.invokevirtual 61, 3) := by decide +kernel
theorem dX10_leakedOnes_36 : decode cX10_leakedOnes 36 = .ok (.ifCond .eq 29, 3) := by decide +kernel
theorem dX10_leakedOnes_39 : decode cX10_leakedOnes 39 = .ok (.aload_n 0, 1) := by decide +kernel
theorem dX10_leakedOnes_40 : decode cX10_leakedOnes 40 = .ok (.iload_n 3, 1) := by decide +kernel
theorem dX10_leakedOnes_41 : decode cX10_leakedOnes 41 = .ok (.bipush 7, 2) := by decide +kernel
theorem dX10_leakedOnes_43 : decode cX10_leakedOnes 43 = .ok (.invokevirtual 57, 3) := by decide +kernel
theorem dX10_leakedOnes_46 : decode cX10_leakedOnes 46 = .ok (.ifCond .ge 13, 3) := by decide +kernel
theorem dX10_leakedOnes_49 : decode cX10_leakedOnes 49 = .ok (.aload_n 0, 1) := by decide +kernel
theorem dX10_leakedOnes_50 : decode cX10_leakedOnes 50 = .ok (.iload_n 3, 1) := by decide +kernel
theorem dX10_leakedOnes_51 : decode cX10_leakedOnes 51 = .ok (.bipush 6, 2) := by decide +kernel
theorem dX10_leakedOnes_53 : decode cX10_leakedOnes 53 = .ok (.invokevirtual 57, 3) := by decide +kernel
theorem dX10_leakedOnes_56 : decode cX10_leakedOnes 56 = .ok (.ifCond .le 9, 3) := by decide +kernel
theorem dX10_leakedOnes_59 : decode cX10_leakedOnes 59 = .ok (.iconst 1, 1) := by decide +kernel
theorem dX10_leakedOnes_60 : decode cX10_leakedOnes 60 = .ok (.iload_n 3, 1) := by decide +kernel
theorem dX10_leakedOnes_61 : decode cX10_leakedOnes 61 = .ok (.ishl, 1) := by decide +kernel
theorem dX10_leakedOnes_62 : decode cX10_leakedOnes 62 = .ok (.goto 4, 3) := by decide +kernel
theorem dX10_leakedOnes_65 : decode cX10_leakedOnes 65 = .ok (.iconst 0, 1) := by decide +kernel
theorem dX10_leakedOnes_66 : decode cX10_leakedOnes 66 = .ok (.ior, 1) := by decide +kernel
theorem dX10_leakedOnes_67 : decode cX10_leakedOnes 67 = .ok (.istore_n 1, 1) := by decide +kernel
theorem dX10_leakedOnes_68 : decode cX10_leakedOnes 68 = .ok (.iinc 3 1, 3) := by decide +kernel
theorem dX10_leakedOnes_71 : decode cX10_leakedOnes 71 = .ok (.goto (-65), 3) := by decide +kernel
theorem dX10_leakedOnes_74 : decode cX10_leakedOnes 74 = .ok (.iconst (-1), 1) := by decide +kernel
theorem dX10_leakedOnes_75 : decode cX10_leakedOnes 75 = .ok (.istore_n 3, 1) := by decide +kernel
theorem dX10_leakedOnes_76 : decode cX10_leakedOnes 76 = .ok (.iload_n 3, 1) := by decide +kernel
theorem dX10_leakedOnes_77 : decode cX10_leakedOnes 77 = .ok (.iload_n 1, 1) := by decide +kernel
theorem dX10_leakedOnes_78 : decode cX10_leakedOnes 78 = .ok (.if_icmp .eq 81, 3) := by decide +kernel
theorem dX10_leakedOnes_81 : decode cX10_leakedOnes 81 = .ok (.iload_n 1, 1) := by decide +kernel
theorem dX10_leakedOnes_82 : decode cX10_leakedOnes 82 = .ok (.istore_n 3, 1) := by decide +kernel
theorem dX10_leakedOnes_83 : decode cX10_leakedOnes 83 = .ok (.iconst 0, 1) := by decide +kernel
theorem dX10_leakedOnes_84 : decode cX10_leakedOnes 84 = .ok (.istore 4, 2) := by decide +kernel
theorem dX10_leakedOnes_86 : decode cX10_leakedOnes 86 = .ok (.iload 4, 2) := by decide +kernel
theorem dX10_leakedOnes_88 : decode cX10_leakedOnes 88 = .ok (.bipush 30, 2) := by decide +kernel
theorem dX10_leakedOnes_90 : decode cX10_leakedOnes 90 = .ok (.if_icmp .ge 66, 3) := by decide +kernel
theorem dX10_leakedOnes_93 : decode cX10_leakedOnes 93 = .ok (.iconst 0, 1) := by decide +kernel
theorem dX10_leakedOnes_94 : decode cX10_leakedOnes 94 = .ok (.istore 5, 2) := by decide +kernel
theorem dX10_leakedOnes_96 : decode cX10_leakedOnes 96 = .ok (.iload 5, 2) := by decide +kernel
theorem dX10_leakedOnes_98 : decode cX10_leakedOnes 98 = .ok (.bipush 30, 2) := by decide +kernel
theorem dX10_leakedOnes_100 : decode cX10_leakedOnes 100 = .ok (.if_icmp .ge 50, 3) := by decide +kernel
theorem dX10_leakedOnes_103 : decode cX10_leakedOnes 103 = .ok (.iload_n 1, 1) := by decide +kernel
theorem dX10_leakedOnes_104 : decode cX10_leakedOnes 104 = .ok (.iload 4, 2) := by decide +kernel
theorem dX10_leakedOnes_106 : decode cX10_leakedOnes 106 = .ok (.ishr, 1) := by decide +kernel
theorem dX10_leakedOnes_107 : decode cX10_leakedOnes 107 = .ok (.iconst 1, 1) := by decide +kernel
theorem dX10_leakedOnes_108 : decode cX10_leakedOnes 108 = .ok (.iand, 1) := by decide +kernel
theorem dX10_leakedOnes_109 : decode cX10_leakedOnes 109 = .ok (.iconst 1, 1) := by decide +kernel
theorem dX10_leakedOnes_110 : decode cX10_leakedOnes 110 = .ok (.if_icmp .ne 40, 3) := by decide +kernel
theorem dX10_leakedOnes_113 : decode cX10_leakedOnes 113 = .ok (.iload_n 1, 1) := by decide +kernel
theorem dX10_leakedOnes_114 : decode cX10_leakedOnes 114 = .ok (.aload_n 0, 1) := by decide +kernel
theorem dX10_leakedOnes_115 : decode cX10_leakedOnes 115 = .ok (.iload 5, 2) := by decide +kernel
theorem dX10_leakedOnes_117 : decode cX10_leakedOnes 117 = .ok (.invokevirtual 61, 3) := by decide +kernel
theorem dX10_leakedOnes_120 : decode cX10_leakedOnes 120 = .ok (.ifCond .eq 21, 3) := by decide +kernel
theorem dX10_leakedOnes_123 : decode cX10_leakedOnes 123 = .ok (.aload_n 0, 1) := by decide +kernel
theorem dX10_leakedOnes_124 : decode cX10_leakedOnes 124 = .ok (.iload 4, 2) := by decide +kernel
theorem dX10_leakedOnes_126 : decode cX10_leakedOnes 126 = .ok (.iload 5, 2) := by decide +kernel
theorem dX10_leakedOnes_128 : decode cX10_leakedOnes 128 = .ok (.invokevirtual 143, 3) := by decide +kernel
theorem dX10_leakedOnes_131 : decode cX10_leakedOnes 131 = .ok (.ifCond .eq 10, 3) := by decide +kernel
theorem dX10_leakedOnes_134 : decode cX10_leakedOnes 134 = .ok (.iconst 1, 1) := by decide +kernel
theorem dX10_leakedOnes_135 : decode cX10_leakedOnes 135 = .ok (.iload 5, 2) := by decide +kernel
theorem dX10_leakedOnes_137 : decode cX10_leakedOnes 137 = .ok (.ishl, 1) := by decide +kernel
theorem dX10_leakedOnes_138 : decode cX10_leakedOnes 138 = .ok (.goto 4, 3) := by decide +kernel
theorem dX10_leakedOnes_141 : decode cX10_leakedOnes 141 = .ok (.iconst 0, 1) := by decide +kernel
theorem dX10_leakedOnes_142 : decode cX10_leakedOnes 142 = .ok (.ior, 1) := by decide +kernel
theorem dX10_leakedOnes_143 : decode cX10_leakedOnes 143 = .ok (.istore_n 1, 1) := by decide +kernel
theorem dX10_leakedOnes_144 : decode cX10_leakedOnes 144 = .ok (.iinc 5 1, 3) := by decide +kernel
theorem dX10_leakedOnes_147 : decode cX10_leakedOnes 147 = .ok (.goto (-51), 3) := by decide +kernel
theorem dX10_leakedOnes_150 : decode cX10_leakedOnes 150 = .ok (.iinc 4 1, 3) := by decide +kernel
theorem dX10_leakedOnes_153 : decode cX10_leakedOnes 153 = .ok (.goto (-67), 3) := by decide +kernel
theorem dX10_leakedOnes_156 : decode cX10_leakedOnes 156 = .ok (.goto (-80), 3) := by decide +kernel
theorem dX10_leakedOnes_159 : decode cX10_leakedOnes 159 = .ok (.iload_n 2, 1) := by decide +kernel
theorem dX10_leakedOnes_160 : decode cX10_leakedOnes 160 = .ok (.iload_n 1, 1) := by decide +kernel
theorem dX10_leakedOnes_161 : decode cX10_leakedOnes 161 = .ok (.iconst (-1), 1) := by decide +kernel
theorem dX10_leakedOnes_162 : decode cX10_leakedOnes 162 = .ok (.ixor, 1) := by decide +kernel
theorem dX10_leakedOnes_163 : decode cX10_leakedOnes 163 = .ok (.iand, 1) := by decide +kernel
theorem dX10_leakedOnes_164 : decode cX10_leakedOnes 164 = .ok (.ireturn, 1) := by decide +kernel
theorem dX10_leaked_0 : decode cX10_leaked 0 = .ok (.iload_n 1, 1) := by decide +kernel
theorem dX10_leaked_1 : decode cX10_leaked 1 = .ok (.iconst (-1), 1) := by decide +kernel
theorem dX10_leaked_2 : decode cX10_leaked 2 = .ok (.if_icmp .ge 5, 3) := by decide +kernel
theorem dX10_leaked_5 : decode cX10_leaked 5 = .ok (.iconst (-1), 1) := by decide +kernel
theorem dX10_leaked_6 : decode cX10_leaked 6 = .ok (.ireturn, 1) := by decide +kernel
theorem dX10_leaked_7 : decode cX10_leaked 7 = .ok (.aload_n 0, 1) := by decide +kernel
theorem dX10_leaked_8 : decode cX10_leaked 8 = .ok (.invokevirtual 124, 3) := by decide +kernel
theorem dX10_leaked_11 : decode cX10_leaked 11 = .ok (.istore_n 2, 1) := by decide +kernel
theorem dX10_leaked_12 : decode cX10_leaked 12 = .ok (.iconst 0, 1) := by decide +kernel
theorem dX10_leaked_13 : decode cX10_leaked 13 = .ok (.istore_n 3, 1) := by decide +kernel
theorem dX10_leaked_14 : decode cX10_leaked 14 = .ok (.iconst 0, 1) := by decide +kernel
theorem dX10_leaked_15 : decode cX10_leaked 15 = .ok (.istore 4, 2) := by decide +kernel
theorem dX10_leaked_17 : decode cX10_leaked 17 = .ok (.iload 4, 2) := by decide +kernel
theorem dX10_leaked_19 : decode cX10_leaked 19 = .ok (.bipush 30, 2) := by decide +kernel
theorem dX10_leaked_21 : decode cX10_leaked 21 = .ok (.if_icmp .ge 30, 3) := by decide +kernel
theorem dX10_leaked_24 : decode cX10_leaked 24 = .ok (.iload_n 2, 1) := by decide +kernel
theorem dX10_leaked_25 : decode cX10_leaked 25 = .ok (.iload 4, 2) := by decide +kernel
theorem dX10_leaked_27 : decode cX10_leaked 27 = .ok (.ishr, 1) := by decide +kernel
theorem dX10_leaked_28 : decode cX10_leaked 28 = .ok (.iconst 1, 1) := by decide +kernel
theorem dX10_leaked_29 : decode cX10_leaked 29 = .ok (.iand, 1) := by decide +kernel
theorem dX10_leaked_30 : decode cX10_leaked 30 = .ok (.iconst 1, 1) := by decide +kernel
theorem dX10_leaked_31 : decode cX10_leaked 31 = .ok (.if_icmp .ne 14, 3) := by decide +kernel
theorem dX10_leaked_34 : decode cX10_leaked 34 = .ok (.iload_n 3, 1) := by decide +kernel
theorem dX10_leaked_35 : decode cX10_leaked 35 = .ok (.iload_n 1, 1) := by decide +kernel
theorem dX10_leaked_36 : decode cX10_leaked 36 = .ok (.if_icmp .ne 6, 3) := by decide +kernel
theorem dX10_leaked_39 : decode cX10_leaked 39 = .ok (.iload 4, 2) := by decide +kernel
theorem dX10_leaked_41 : decode cX10_leaked 41 = .ok (.ireturn, 1) := by decide +kernel
theorem dX10_leaked_42 : decode cX10_leaked 42 = .ok (.iinc 3 1, 3) := by decide +kernel
theorem dX10_leaked_45 : decode cX10_leaked 45 = .ok (.iinc 4 1, 3) := by decide +kernel
theorem dX10_leaked_48 : decode cX10_leaked 48 = .ok (.goto (-31), 3) := by decide +kernel
theorem dX10_leaked_51 : decode cX10_leaked 51 = .ok (.iload_n 1, 1) := by decide +kernel
theorem dX10_leaked_52 : decode cX10_leaked 52 = .ok (.iconst (-1), 1) := by decide +kernel
theorem dX10_leaked_53 : decode cX10_leaked 53 = .ok (.if_icmp .ne 7, 3) := by decide +kernel
theorem dX10_leaked_56 : decode cX10_leaked 56 = .ok (.iload_n 3, 1) := by decide +kernel
theorem dX10_leaked_57 : decode cX10_leaked 57 = .ok (.goto 5, 3) := by decide +kernel
theorem dX10_leaked_60 : decode cX10_leaked 60 = .ok (.bipush (-2), 2) := by decide +kernel
theorem dX10_leaked_62 : decode cX10_leaked 62 = .ok (.ireturn, 1) := by decide +kernel
theorem dX10_path_0 : decode cX10_path 0 = .ok (.aload_n 0, 1) := by decide +kernel
theorem dX10_path_1 : decode cX10_path 1 = .ok (.iload_n 1, 1) := by decide +kernel
theorem dX10_path_2 : decode cX10_path 2 = .ok (.invokevirtual 96, 3) := by decide +kernel
