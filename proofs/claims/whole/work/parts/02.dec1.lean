theorem dX8_from_0 : decode cX8_from 0 = .ok (.aload_n 0, 1) := by decide +kernel
theorem dX8_from_1 : decode cX8_from 1 = .ok (.invokevirtual 18, 3) := by decide +kernel
theorem dX8_from_4 : decode cX8_from 4 = .ok (.aload_n 0, 1) := by decide +kernel
theorem dX8_from_5 : decode cX8_from 5 = .ok (.iload_n 2, 1) := by decide +kernel
theorem dX8_from_6 : decode cX8_from 6 = .ok (.iconst 0, 1) := by decide +kernel
theorem dX8_from_7 : decode cX8_from 7 = .ok (.invokevirtual 38, 3) := by decide +kernel
theorem dX8_from_10 : decode cX8_from 10 = .ok (.aload_n 0, 1) := by decide +kernel
theorem dX8_from_11 : decode cX8_from 11 = .ok (.aload_n 1, 1) := by decide +kernel
theorem dX8_from_12 : decode cX8_from 12 = .ok (.invokevirtual 42, 3) := by decide +kernel
theorem dX8_from_15 : decode cX8_from 15 = .ok (.return_, 1) := by decide +kernel
theorem dX8_begin_0 : decode cX8_begin 0 = .ok (.aload_n 0, 1) := by decide +kernel
theorem dX8_begin_1 : decode cX8_begin 1 = .ok (.getfield 9, 3) := by decide +kernel
theorem dX8_begin_4 : decode cX8_begin 4 = .ok (.iconst 0, 1) := by decide +kernel
theorem dX8_begin_5 : decode cX8_begin 5 = .ok (.bipush 30, 2) := by decide +kernel
theorem dX8_begin_7 : decode cX8_begin 7 = .ok (.iconst (-1), 1) := by decide +kernel
theorem dX8_begin_8 : decode cX8_begin 8 = .ok (.invokestatic 46, 3) := by decide +kernel
theorem dX8_begin_11 : decode cX8_begin 11 = .ok (.aload_n 0, 1) := by decide +kernel
theorem dX8_begin_12 : decode cX8_begin 12 = .ok (.iconst 0, 1) := by decide +kernel
theorem dX8_begin_13 : decode cX8_begin 13 = .ok (.putfield 50, 3) := by decide +kernel
theorem dX8_begin_16 : decode cX8_begin 16 = .ok (.return_, 1) := by decide +kernel
theorem dX8_comeTo_0 : decode cX8_comeTo 0 = .ok (.aload_n 0, 1) := by decide +kernel
theorem dX8_comeTo_1 : decode cX8_comeTo 1 = .ok (.getfield 9, 3) := by decide +kernel
theorem dX8_comeTo_4 : decode cX8_comeTo 4 = .ok (.iload_n 1, 1) := by decide +kernel
theorem dX8_comeTo_5 : decode cX8_comeTo 5 = .ok (.iaload, 1) := by decide +kernel
theorem dX8_comeTo_6 : decode cX8_comeTo 6 = .ok (.iconst (-1), 1) := by decide +kernel
theorem dX8_comeTo_7 : decode cX8_comeTo 7 = .ok (.if_icmp .ne 12, 3) := by decide +kernel
theorem dX8_comeTo_10 : decode cX8_comeTo 10 = .ok (.aload_n 0, 1) := by decide +kernel
theorem dX8_comeTo_11 : decode cX8_comeTo 11 = .ok (.getfield 50, 3) := by decide +kernel
theorem dX8_comeTo_14 : decode cX8_comeTo 14 = .ok (.bipush 30, 2) := by decide +kernel
theorem dX8_comeTo_16 : decode cX8_comeTo 16 = .ok (.if_icmp .lt 4, 3) := by decide +kernel
theorem dX8_comeTo_19 : decode cX8_comeTo 19 = .ok (.return_, 1) := by decide +kernel
theorem dX8_comeTo_20 : decode cX8_comeTo 20 = .ok (.aload_n 0, 1) := by decide +kernel
theorem dX8_comeTo_21 : decode cX8_comeTo 21 = .ok (.getfield 9, 3) := by decide +kernel
theorem dX8_comeTo_24 : decode cX8_comeTo 24 = .ok (.iload_n 1, 1) := by decide +kernel
theorem dX8_comeTo_25 : decode cX8_comeTo 25 = .ok (.iload_n 2, 1) := by decide +kernel
theorem dX8_comeTo_26 : decode cX8_comeTo 26 = .ok (.iastore, 1) := by decide +kernel
theorem dX8_comeTo_27 : decode cX8_comeTo 27 = .ok (.aload_n 0, 1) := by decide +kernel
theorem dX8_comeTo_28 : decode cX8_comeTo 28 = .ok (.getfield 15, 3) := by decide +kernel
theorem dX8_comeTo_31 : decode cX8_comeTo 31 = .ok (.aload_n 0, 1) := by decide +kernel
theorem dX8_comeTo_32 : decode cX8_comeTo 32 = .ok (.getfield 50, 3) := by decide +kernel
theorem dX8_comeTo_35 : decode cX8_comeTo 35 = .ok (.iload_n 1, 1) := by decide +kernel
theorem dX8_comeTo_36 : decode cX8_comeTo 36 = .ok (.iastore, 1) := by decide +kernel
theorem dX8_comeTo_37 : decode cX8_comeTo 37 = .ok (.aload_n 0, 1) := by decide +kernel
theorem dX8_comeTo_38 : decode cX8_comeTo 38 = .ok (.dup, 1) := by decide +kernel
theorem dX8_comeTo_39 : decode cX8_comeTo 39 = .ok (.getfield 50, 3) := by decide +kernel
theorem dX8_comeTo_42 : decode cX8_comeTo 42 = .ok (.iconst 1, 1) := by decide +kernel
theorem dX8_comeTo_43 : decode cX8_comeTo 43 = .ok (.iadd, 1) := by decide +kernel
theorem dX8_comeTo_44 : decode cX8_comeTo 44 = .ok (.putfield 50, 3) := by decide +kernel
theorem dX8_comeTo_47 : decode cX8_comeTo 47 = .ok (.return_, 1) := by decide +kernel
theorem dX8_goOn_0 : decode cX8_goOn 0 = .ok (.iconst 0, 1) := by decide +kernel
theorem dX8_goOn_1 : decode cX8_goOn 1 = .ok (.istore_n 2, 1) := by decide +kernel
theorem dX8_goOn_2 : decode cX8_goOn 2 = .ok (.iload_n 2, 1) := by decide +kernel
theorem dX8_goOn_3 : decode cX8_goOn 3 = .ok (.bipush 30, 2) := by decide +kernel
theorem dX8_goOn_5 : decode cX8_goOn 5 = .ok (.if_icmp .ge 98, 3) := by decide +kernel
theorem dX8_goOn_8 : decode cX8_goOn 8 = .ok (.iload_n 2, 1) := by decide +kernel
theorem dX8_goOn_9 : decode cX8_goOn 9 = .ok (.aload_n 0, 1) := by decide +kernel
theorem dX8_goOn_10 : decode cX8_goOn 10 = .ok (.getfield 50, 3) := by decide +kernel
theorem dX8_goOn_13 : decode cX8_goOn 13 = .ok (.if_icmp .ge 90, 3) := by decide +kernel
theorem dX8_goOn_16 : decode cX8_goOn 16 = .ok (.aload_n 0, 1) := by decide +kernel
theorem dX8_goOn_17 : decode cX8_goOn 17 = .ok (.getfield 15, 3) := by decide +kernel
theorem dX8_goOn_20 : decode cX8_goOn 20 = .ok (.iload_n 2, 1) := by decide +kernel
theorem dX8_goOn_21 : decode cX8_goOn 21 = .ok (.iaload, 1) := by decide +kernel
theorem dX8_goOn_22 : decode cX8_goOn 22 = .ok (.istore_n 3, 1) := by decide +kernel
theorem dX8_goOn_23 : decode cX8_goOn 23 = .ok (.aload_n 1, 1) := by decide +kernel
theorem dX8_goOn_24 : decode cX8_goOn 24 = .ok (.getfield 21, 3) := by decide +kernel
theorem dX8_goOn_27 : decode cX8_goOn 27 = .ok (.getfield 54, 3) := by decide +kernel
theorem dX8_goOn_30 : decode cX8_goOn 30 = .ok (.iload_n 3, 1) := by decide +kernel
theorem dX8_goOn_31 : decode cX8_goOn 31 = .ok (.iaload, 1) := by decide +kernel
theorem dX8_goOn_32 : decode cX8_goOn 32 = .ok (.istore 4, 2) := by decide +kernel
theorem dX8_goOn_34 : decode cX8_goOn 34 = .ok (.iload 4, 2) := by decide +kernel
theorem dX8_goOn_36 : decode cX8_goOn 36 = .ok (.istore 5, 2) := by decide +kernel
theorem dX8_goOn_38 : decode cX8_goOn 38 = .ok (.iload 5, 2) := by decide +kernel
theorem dX8_goOn_40 : decode cX8_goOn 40 = .ok (.iload 4, 2) := by decide +kernel
theorem dX8_goOn_42 : decode cX8_goOn 42 = .ok (.aload_n 1, 1) := by decide +kernel
theorem dX8_goOn_43 : decode cX8_goOn 43 = .ok (.getfield 21, 3) := by decide +kernel
theorem dX8_goOn_46 : decode cX8_goOn 46 = .ok (.getfield 57, 3) := by decide +kernel
theorem dX8_goOn_49 : decode cX8_goOn 49 = .ok (.iload_n 3, 1) := by decide +kernel
theorem dX8_goOn_50 : decode cX8_goOn 50 = .ok (.iaload, 1) := by decide +kernel
theorem dX8_goOn_51 : decode cX8_goOn 51 = .ok (.iadd, 1) := by decide +kernel
theorem dX8_goOn_52 : decode cX8_goOn 52 = .ok (.if_icmp .ge 45, 3) := by decide +kernel
theorem dX8_goOn_55 : decode cX8_goOn 55 = .ok (.aload_n 1, 1) := by decide +kernel
theorem dX8_goOn_56 : decode cX8_goOn 56 = .ok (.getfield 21, 3) := by decide +kernel
theorem dX8_goOn_59 : decode cX8_goOn 59 = .ok (.aload_n 1, 1) := by decide +kernel
theorem dX8_goOn_60 : decode cX8_goOn 60 = .ok (.getfield 60, 3) := by decide +kernel
theorem dX8_goOn_63 : decode cX8_goOn 63 = .ok (.iload 5, 2) := by decide +kernel
theorem dX8_goOn_65 : decode cX8_goOn 65 = .ok (.iaload, 1) := by decide +kernel
theorem dX8_goOn_66 : decode cX8_goOn 66 = .ok (.invokevirtual 63, 3) := by decide +kernel
theorem dX8_goOn_69 : decode cX8_goOn 69 = .ok (.istore 6, 2) := by decide +kernel
theorem dX8_goOn_71 : decode cX8_goOn 71 = .ok (.iload 6, 2) := by decide +kernel
theorem dX8_goOn_73 : decode cX8_goOn 73 = .ok (.iconst (-1), 1) := by decide +kernel
theorem dX8_goOn_74 : decode cX8_goOn 74 = .ok (.if_icmp .eq 17, 3) := by decide +kernel
theorem dX8_goOn_77 : decode cX8_goOn 77 = .ok (.aload_n 0, 1) := by decide +kernel
theorem dX8_goOn_78 : decode cX8_goOn 78 = .ok (.iload 6, 2) := by decide +kernel
theorem dX8_goOn_80 : decode cX8_goOn 80 = .ok (.aload_n 0, 1) := by decide +kernel
theorem dX8_goOn_81 : decode cX8_goOn 81 = .ok (.getfield 9, 3) := by decide +kernel
theorem dX8_goOn_84 : decode cX8_goOn 84 = .ok (.iload_n 3, 1) := by decide +kernel
theorem dX8_goOn_85 : decode cX8_goOn 85 = .ok (.iaload, 1) := by decide +kernel
theorem dX8_goOn_86 : decode cX8_goOn 86 = .ok (.iconst 1, 1) := by decide +kernel
theorem dX8_goOn_87 : decode cX8_goOn 87 = .ok (.iadd, 1) := by decide +kernel
theorem dX8_goOn_88 : decode cX8_goOn 88 = .ok (.invokevirtual 38, 3) := by decide +kernel
theorem dX8_goOn_91 : decode cX8_goOn 91 = .ok (.iinc 5 1, 3) := by decide +kernel
theorem dX8_goOn_94 : decode cX8_goOn 94 = .ok (.goto (-56), 3) := by decide +kernel
theorem dX8_goOn_97 : decode cX8_goOn 97 = .ok (.iinc 2 1, 3) := by decide +kernel
theorem dX8_goOn_100 : decode cX8_goOn 100 = .ok (.goto (-98), 3) := by decide +kernel
theorem dX8_goOn_103 : decode cX8_goOn 103 = .ok (.return_, 1) := by decide +kernel
theorem dX9_init_0 : decode cX9_init 0 = .ok (.aload_n 0, 1) := by decide +kernel
theorem dX9_init_1 : decode cX9_init 1 = .ok (.invokespecial 1, 3) := by decide +kernel
theorem dX9_init_4 : decode cX9_init 4 = .ok (.aload_n 0, 1) := by decide +kernel
theorem dX9_init_5 : decode cX9_init 5 = .ok (.new 7, 3) := by decide +kernel
theorem dX9_init_8 : decode cX9_init 8 = .ok (.dup, 1) := by decide +kernel
theorem dX9_init_9 : decode cX9_init 9 = .ok (.invokespecial 9, 3) := by decide +kernel
theorem dX9_init_12 : decode cX9_init 12 = .ok (.putfield 10, 3) := by decide +kernel
theorem dX9_init_15 : decode cX9_init 15 = .ok (.aload_n 0, 1) := by decide +kernel
theorem dX9_init_16 : decode cX9_init 16 = .ok (.new 7, 3) := by decide +kernel
theorem dX9_init_19 : decode cX9_init 19 = .ok (.dup, 1) := by decide +kernel
theorem dX9_init_20 : decode cX9_init 20 = .ok (.invokespecial 9, 3) := by decide +kernel
theorem dX9_init_23 : decode cX9_init 23 = .ok (.putfield 16, 3) := by decide +kernel
theorem dX9_init_26 : decode cX9_init 26 = .ok (.aload_n 0, 1) := by decide +kernel
theorem dX9_init_27 : decode cX9_init 27 = .ok (.new 7, 3) := by decide +kernel
theorem dX9_init_30 : decode cX9_init 30 = .ok (.dup, 1) := by decide +kernel
theorem dX9_init_31 : decode cX9_init 31 = .ok (.invokespecial 9, 3) := by decide +kernel
theorem dX9_init_34 : decode cX9_init 34 = .ok (.putfield 19, 3) := by decide +kernel
theorem dX9_init_37 : decode cX9_init 37 = .ok (.aload_n 0, 1) := by decide +kernel
theorem dX9_init_38 : decode cX9_init 38 = .ok (.new 7, 3) := by decide +kernel
theorem dX9_init_41 : decode cX9_init 41 = .ok (.dup, 1) := by decide +kernel
theorem dX9_init_42 : decode cX9_init 42 = .ok (.invokespecial 9, 3) := by decide +kernel
theorem dX9_init_45 : decode cX9_init 45 = .ok (.putfield 22, 3) := by decide +kernel
theorem dX9_init_48 : decode cX9_init 48 = .ok (.aload_n 0, 1) := by decide +kernel
theorem dX9_init_49 : decode cX9_init 49 = .ok (.new 25, 3) := by decide +kernel
theorem dX9_init_52 : decode cX9_init 52 = .ok (.dup, 1) := by decide +kernel
theorem dX9_init_53 : decode cX9_init 53 = .ok (.invokespecial 27, 3) := by decide +kernel
theorem dX9_init_56 : decode cX9_init 56 = .ok (.putfield 28, 3) := by decide +kernel
theorem dX9_init_59 : decode cX9_init 59 = .ok (.aload_n 0, 1) := by decide +kernel
theorem dX9_init_60 : decode cX9_init 60 = .ok (.new 32, 3) := by decide +kernel
theorem dX9_init_63 : decode cX9_init 63 = .ok (.dup, 1) := by decide +kernel
theorem dX9_init_64 : decode cX9_init 64 = .ok (.invokespecial 34, 3) := by decide +kernel
theorem dX9_init_67 : decode cX9_init 67 = .ok (.putfield 35, 3) := by decide +kernel
theorem dX9_init_70 : decode cX9_init 70 = .ok (.aload_n 0, 1) := by decide +kernel
theorem dX9_init_71 : decode cX9_init 71 = .ok (.new 39, 3) := by decide +kernel
theorem dX9_init_74 : decode cX9_init 74 = .ok (.dup, 1) := by decide +kernel
theorem dX9_init_75 : decode cX9_init 75 = .ok (.invokespecial 41, 3) := by decide +kernel
theorem dX9_init_78 : decode cX9_init 78 = .ok (.putfield 42, 3) := by decide +kernel
theorem dX9_init_81 : decode cX9_init 81 = .ok (.aload_n 0, 1) := by decide +kernel
theorem dX9_init_82 : decode cX9_init 82 = .ok (.new 46, 3) := by decide +kernel
theorem dX9_init_85 : decode cX9_init 85 = .ok (.dup, 1) := by decide +kernel
theorem dX9_init_86 : decode cX9_init 86 = .ok (.invokespecial 48, 3) := by decide +kernel
theorem dX9_init_89 : decode cX9_init 89 = .ok (.putfield 49, 3) := by decide +kernel
theorem dX9_init_92 : decode cX9_init 92 = .ok (.aload_n 0, 1) := by decide +kernel
theorem dX9_init_93 : decode cX9_init 93 = .ok (.iconst 0, 1) := by decide +kernel
theorem dX9_init_94 : decode cX9_init 94 = .ok (.putfield 53, 3) := by decide +kernel
theorem dX9_init_97 : decode cX9_init 97 = .ok (.return_, 1) := by decide +kernel
theorem dX9_region_0 : decode cX9_region 0 = .ok (.iload_n 1, 1) := by decide +kernel
theorem dX9_region_1 : decode cX9_region 1 = .ok (.bipush 8, 2) := by decide +kernel
theorem dX9_region_3 : decode cX9_region 3 = .ok (.if_icmp .lt 9, 3) := by decide +kernel
theorem dX9_region_6 : decode cX9_region 6 = .ok (.iload_n 1, 1) := by decide +kernel
theorem dX9_region_7 : decode cX9_region 7 = .ok (.bipush 120, 2) := by decide +kernel
theorem dX9_region_9 : decode cX9_region 9 = .ok (.if_icmp .le 5, 3) := by decide +kernel
theorem dX9_region_12 : decode cX9_region 12 = .ok (.iconst (-1), 1) := by decide +kernel
theorem dX9_region_13 : decode cX9_region 13 = .ok (.ireturn, 1) := by decide +kernel
theorem dX9_region_14 : decode cX9_region 14 = .ok (.iload_n 2, 1) := by decide +kernel
theorem dX9_region_15 : decode cX9_region 15 = .ok (.ifCond .eq 10, 3) := by decide +kernel
theorem dX9_region_18 : decode cX9_region 18 = .ok (.iload_n 2, 1) := by decide +kernel
theorem dX9_region_19 : decode cX9_region 19 = .ok (.iconst 1, 1) := by decide +kernel
theorem dX9_region_20 : decode cX9_region 20 = .ok (.if_icmp .eq 5, 3) := by decide +kernel
theorem dX9_region_23 : decode cX9_region 23 = .ok (.iconst (-1), 1) := by decide +kernel
theorem dX9_region_24 : decode cX9_region 24 = .ok (.ireturn, 1) := by decide +kernel
theorem dX9_region_25 : decode cX9_region 25 = .ok (.aload_n 0, 1) := by decide +kernel
theorem dX9_region_26 : decode cX9_region 26 = .ok (.getfield 10, 3) := by decide +kernel
theorem dX9_region_29 : decode cX9_region 29 = .ok (.getfield 57, 3) := by decide +kernel
theorem dX9_region_32 : decode cX9_region 32 = .ok (.iload_n 1, 1) := by decide +kernel
theorem dX9_region_33 : decode cX9_region 33 = .ok (.iload_n 2, 1) := by decide +kernel
theorem dX9_region_34 : decode cX9_region 34 = .ok (.invokevirtual 61, 3) := by decide +kernel
theorem dX9_region_37 : decode cX9_region 37 = .ok (.istore_n 3, 1) := by decide +kernel
theorem dX9_region_38 : decode cX9_region 38 = .ok (.iload_n 3, 1) := by decide +kernel
theorem dX9_region_39 : decode cX9_region 39 = .ok (.iconst (-1), 1) := by decide +kernel
theorem dX9_region_40 : decode cX9_region 40 = .ok (.if_icmp .ne 8, 3) := by decide +kernel
theorem dX9_region_43 : decode cX9_region 43 = .ok (.bipush (-3), 2) := by decide +kernel
theorem dX9_region_45 : decode cX9_region 45 = .ok (.goto 4, 3) := by decide +kernel
theorem dX9_region_48 : decode cX9_region 48 = .ok (.iload_n 3, 1) := by decide +kernel
theorem dX9_region_49 : decode cX9_region 49 = .ok (.ireturn, 1) := by decide +kernel
theorem dX9_block_0 : decode cX9_block 0 = .ok (.aload_n 0, 1) := by decide +kernel
theorem dX9_block_1 : decode cX9_block 1 = .ok (.getfield 10, 3) := by decide +kernel
theorem dX9_block_4 : decode cX9_block 4 = .ok (.getfield 57, 3) := by decide +kernel
theorem dX9_block_7 : decode cX9_block 7 = .ok (.iload_n 1, 1) := by decide +kernel
theorem dX9_block_8 : decode cX9_block 8 = .ok (.invokevirtual 67, 3) := by decide +kernel
theorem dX9_block_11 : decode cX9_block 11 = .ok (.ifCond .eq 17, 3) := by decide +kernel
theorem dX9_block_14 : decode cX9_block 14 = .ok (.iload_n 2, 1) := by decide +kernel
theorem dX9_block_15 : decode cX9_block 15 = .ok (.invokestatic 71, 3) := by decide +kernel
theorem dX9_block_18 : decode cX9_block 18 = .ok (.ifCond .eq 10, 3) := by decide +kernel
theorem dX9_block_21 : decode cX9_block 21 = .ok (.iload_n 3, 1) := by decide +kernel
theorem dX9_block_22 : decode cX9_block 22 = .ok (.invokestatic 74, 3) := by decide +kernel
theorem dX9_block_25 : decode cX9_block 25 = .ok (.ifCond .ne 5, 3) := by decide +kernel
theorem dX9_block_28 : decode cX9_block 28 = .ok (.iconst (-1), 1) := by decide +kernel
theorem dX9_block_29 : decode cX9_block 29 = .ok (.ireturn, 1) := by decide +kernel
theorem dX9_block_30 : decode cX9_block 30 = .ok (.aload_n 0, 1) := by decide +kernel
theorem dX9_block_31 : decode cX9_block 31 = .ok (.getfield 10, 3) := by decide +kernel
theorem dX9_block_34 : decode cX9_block 34 = .ok (.iload_n 3, 1) := by decide +kernel
theorem dX9_block_35 : decode cX9_block 35 = .ok (.iload_n 2, 1) := by decide +kernel
theorem dX9_block_36 : decode cX9_block 36 = .ok (.invokevirtual 77, 3) := by decide +kernel
theorem dX9_block_39 : decode cX9_block 39 = .ok (.ifCond .ne 6, 3) := by decide +kernel
theorem dX9_block_42 : decode cX9_block 42 = .ok (.bipush (-6), 2) := by decide +kernel
theorem dX9_block_44 : decode cX9_block 44 = .ok (.ireturn, 1) := by decide +kernel
theorem dX9_block_45 : decode cX9_block 45 = .ok (.aload_n 0, 1) := by decide +kernel
theorem dX9_block_46 : decode cX9_block 46 = .ok (.getfield 10, 3) := by decide +kernel
theorem dX9_block_49 : decode cX9_block 49 = .ok (.getfield 81, 3) := by decide +kernel
theorem dX9_block_52 : decode cX9_block 52 = .ok (.invokevirtual 85, 3) := by decide +kernel
theorem dX9_block_55 : decode cX9_block 55 = .ok (.istore 4, 2) := by decide +kernel
theorem dX9_block_57 : decode cX9_block 57 = .ok (.aload_n 0, 1) := by decide +kernel
theorem dX9_block_58 : decode cX9_block 58 = .ok (.getfield 10, 3) := by decide +kernel
theorem dX9_block_61 : decode cX9_block 61 = .ok (.iload_n 1, 1) := by decide +kernel
theorem dX9_block_62 : decode cX9_block 62 = .ok (.iload_n 2, 1) := by decide +kernel
theorem dX9_block_63 : decode cX9_block 63 = .ok (.invokevirtual 91, 3) := by decide +kernel
theorem dX9_block_66 : decode cX9_block 66 = .ok (.istore 5, 2) := by decide +kernel
theorem dX9_block_68 : decode cX9_block 68 = .ok (.iload 4, 2) := by decide +kernel
theorem dX9_block_70 : decode cX9_block 70 = .ok (.iconst (-1), 1) := by decide +kernel
theorem dX9_block_71 : decode cX9_block 71 = .ok (.if_icmp .eq 9, 3) := by decide +kernel
theorem dX9_block_74 : decode cX9_block 74 = .ok (.iload 5, 2) := by decide +kernel
theorem dX9_block_76 : decode cX9_block 76 = .ok (.iconst (-1), 1) := by decide +kernel
theorem dX9_block_77 : decode cX9_block 77 = .ok (.if_icmp .ne 6, 3) := by decide +kernel
theorem dX9_block_80 : decode cX9_block 80 = .ok (.bipush (-3), 2) := by decide +kernel
theorem dX9_block_82 : decode cX9_block 82 = .ok (.ireturn, 1) := by decide +kernel
theorem dX9_block_83 : decode cX9_block 83 = .ok (.aload_n 0, 1) := by decide +kernel
theorem dX9_block_84 : decode cX9_block 84 = .ok (.getfield 10, 3) := by decide +kernel
theorem dX9_block_87 : decode cX9_block 87 = .ok (.iload 4, 2) := by decide +kernel
theorem dX9_block_89 : decode cX9_block 89 = .ok (.iload_n 1, 1) := by decide +kernel
theorem dX9_block_90 : decode cX9_block 90 = .ok (.iload 5, 2) := by decide +kernel
theorem dX9_block_92 : decode cX9_block 92 = .ok (.iload_n 2, 1) := by decide +kernel
theorem dX9_block_93 : decode cX9_block 93 = .ok (.iload_n 3, 1) := by decide +kernel
theorem dX9_block_94 : decode cX9_block 94 = .ok (.invokevirtual 94, 3) := by decide +kernel
theorem dX9_block_97 : decode cX9_block 97 = .ok (.aload_n 0, 1) := by decide +kernel
theorem dX9_block_98 : decode cX9_block 98 = .ok (.getfield 10, 3) := by decide +kernel
theorem dX9_block_101 : decode cX9_block 101 = .ok (.getfield 81, 3) := by decide +kernel
theorem dX9_block_104 : decode cX9_block 104 = .ok (.iload 4, 2) := by decide +kernel
theorem dX9_block_106 : decode cX9_block 106 = .ok (.invokevirtual 98, 3) := by decide +kernel
theorem dX9_block_109 : decode cX9_block 109 = .ok (.ireturn, 1) := by decide +kernel
theorem dX9_free_0 : decode cX9_free 0 = .ok (.aload_n 0, 1) := by decide +kernel
theorem dX9_free_1 : decode cX9_free 1 = .ok (.getfield 10, 3) := by decide +kernel
theorem dX9_free_4 : decode cX9_free 4 = .ok (.getfield 81, 3) := by decide +kernel
theorem dX9_free_7 : decode cX9_free 7 = .ok (.iload_n 1, 1) := by decide +kernel
theorem dX9_free_8 : decode cX9_free 8 = .ok (.invokevirtual 102, 3) := by decide +kernel
theorem dX9_free_11 : decode cX9_free 11 = .ok (.istore_n 2, 1) := by decide +kernel
theorem dX9_free_12 : decode cX9_free 12 = .ok (.iload_n 2, 1) := by decide +kernel
theorem dX9_free_13 : decode cX9_free 13 = .ok (.iconst (-1), 1) := by decide +kernel
theorem dX9_free_14 : decode cX9_free 14 = .ok (.if_icmp .ne 6, 3) := by decide +kernel
theorem dX9_free_17 : decode cX9_free 17 = .ok (.bipush (-4), 2) := by decide +kernel
theorem dX9_free_19 : decode cX9_free 19 = .ok (.ireturn, 1) := by decide +kernel
theorem dX9_free_20 : decode cX9_free 20 = .ok (.aload_n 0, 1) := by decide +kernel
theorem dX9_free_21 : decode cX9_free 21 = .ok (.getfield 10, 3) := by decide +kernel
theorem dX9_free_24 : decode cX9_free 24 = .ok (.getfield 81, 3) := by decide +kernel
theorem dX9_free_27 : decode cX9_free 27 = .ok (.getfield 105, 3) := by decide +kernel
theorem dX9_free_30 : decode cX9_free 30 = .ok (.iload_n 2, 1) := by decide +kernel
theorem dX9_free_31 : decode cX9_free 31 = .ok (.iaload, 1) := by decide +kernel
theorem dX9_free_32 : decode cX9_free 32 = .ok (.ifCond .le 6, 3) := by decide +kernel
theorem dX9_free_35 : decode cX9_free 35 = .ok (.bipush (-5), 2) := by decide +kernel
theorem dX9_free_37 : decode cX9_free 37 = .ok (.ireturn, 1) := by decide +kernel
theorem dX9_free_38 : decode cX9_free 38 = .ok (.aload_n 0, 1) := by decide +kernel
theorem dX9_free_39 : decode cX9_free 39 = .ok (.getfield 10, 3) := by decide +kernel
theorem dX9_free_42 : decode cX9_free 42 = .ok (.iload_n 2, 1) := by decide +kernel
theorem dX9_free_43 : decode cX9_free 43 = .ok (.invokevirtual 109, 3) := by decide +kernel
theorem dX9_free_46 : decode cX9_free 46 = .ok (.aload_n 0, 1) := by decide +kernel
theorem dX9_free_47 : decode cX9_free 47 = .ok (.getfield 10, 3) := by decide +kernel
theorem dX9_free_50 : decode cX9_free 50 = .ok (.getfield 113, 3) := by decide +kernel
theorem dX9_free_53 : decode cX9_free 53 = .ok (.ireturn, 1) := by decide +kernel
theorem dX9_pin_0 : decode cX9_pin 0 = .ok (.iload_n 2, 1) := by decide +kernel
theorem dX9_pin_1 : decode cX9_pin 1 = .ok (.iconst 1, 1) := by decide +kernel
theorem dX9_pin_2 : decode cX9_pin 2 = .ok (.if_icmp .eq 10, 3) := by decide +kernel
theorem dX9_pin_5 : decode cX9_pin 5 = .ok (.iload_n 2, 1) := by decide +kernel
theorem dX9_pin_6 : decode cX9_pin 6 = .ok (.iconst (-1), 1) := by decide +kernel
theorem dX9_pin_7 : decode cX9_pin 7 = .ok (.if_icmp .eq 5, 3) := by decide +kernel
theorem dX9_pin_10 : decode cX9_pin 10 = .ok (.iconst (-1), 1) := by decide +kernel
theorem dX9_pin_11 : decode cX9_pin 11 = .ok (.ireturn, 1) := by decide +kernel
theorem dX9_pin_12 : decode cX9_pin 12 = .ok (.aload_n 0, 1) := by decide +kernel
theorem dX9_pin_13 : decode cX9_pin 13 = .ok (.getfield 10, 3) := by decide +kernel
theorem dX9_pin_16 : decode cX9_pin 16 = .ok (.getfield 81, 3) := by decide +kernel
theorem dX9_pin_19 : decode cX9_pin 19 = .ok (.iload_n 1, 1) := by decide +kernel
theorem dX9_pin_20 : decode cX9_pin 20 = .ok (.invokevirtual 102, 3) := by decide +kernel
theorem dX9_pin_23 : decode cX9_pin 23 = .ok (.istore_n 3, 1) := by decide +kernel
theorem dX9_pin_24 : decode cX9_pin 24 = .ok (.iload_n 3, 1) := by decide +kernel
theorem dX9_pin_25 : decode cX9_pin 25 = .ok (.iconst (-1), 1) := by decide +kernel
theorem dX9_pin_26 : decode cX9_pin 26 = .ok (.if_icmp .ne 6, 3) := by decide +kernel
theorem dX9_pin_29 : decode cX9_pin 29 = .ok (.bipush (-4), 2) := by decide +kernel
theorem dX9_pin_31 : decode cX9_pin 31 = .ok (.ireturn, 1) := by decide +kernel
theorem dX9_pin_32 : decode cX9_pin 32 = .ok (.aload_n 0, 1) := by decide +kernel
theorem dX9_pin_33 : decode cX9_pin 33 = .ok (.getfield 10, 3) := by decide +kernel
theorem dX9_pin_36 : decode cX9_pin 36 = .ok (.getfield 81, 3) := by decide +kernel
theorem dX9_pin_39 : decode cX9_pin 39 = .ok (.getfield 105, 3) := by decide +kernel
theorem dX9_pin_42 : decode cX9_pin 42 = .ok (.iload_n 3, 1) := by decide +kernel
theorem dX9_pin_43 : decode cX9_pin 43 = .ok (.iaload, 1) := by decide +kernel
theorem dX9_pin_44 : decode cX9_pin 44 = .ok (.iload_n 2, 1) := by decide +kernel
theorem dX9_pin_45 : decode cX9_pin 45 = .ok (.iadd, 1) := by decide +kernel
theorem dX9_pin_46 : decode cX9_pin 46 = .ok (.istore 4, 2) := by decide +kernel
theorem dX9_pin_48 : decode cX9_pin 48 = .ok (.iload 4, 2) := by decide +kernel
theorem dX9_pin_50 : decode cX9_pin 50 = .ok (.ifCond .lt 10, 3) := by decide +kernel
theorem dX9_pin_53 : decode cX9_pin 53 = .ok (.iload 4, 2) := by decide +kernel
theorem dX9_pin_55 : decode cX9_pin 55 = .ok (.bipush 9, 2) := by decide +kernel
theorem dX9_pin_57 : decode cX9_pin 57 = .ok (.if_icmp .le 6, 3) := by decide +kernel
theorem dX9_pin_60 : decode cX9_pin 60 = .ok (.bipush (-5), 2) := by decide +kernel
theorem dX9_pin_62 : decode cX9_pin 62 = .ok (.ireturn, 1) := by decide +kernel
theorem dX9_pin_63 : decode cX9_pin 63 = .ok (.aload_n 0, 1) := by decide +kernel
theorem dX9_pin_64 : decode cX9_pin 64 = .ok (.getfield 10, 3) := by decide +kernel
theorem dX9_pin_67 : decode cX9_pin 67 = .ok (.getfield 81, 3) := by decide +kernel
theorem dX9_pin_70 : decode cX9_pin 70 = .ok (.getfield 105, 3) := by decide +kernel
theorem dX9_pin_73 : decode cX9_pin 73 = .ok (.iload_n 3, 1) := by decide +kernel
theorem dX9_pin_74 : decode cX9_pin 74 = .ok (.iload 4, 2) := by decide +kernel
theorem dX9_pin_76 : decode cX9_pin 76 = .ok (.iastore, 1) := by decide +kernel
theorem dX9_pin_77 : decode cX9_pin 77 = .ok (.iload 4, 2) := by decide +kernel
theorem dX9_pin_79 : decode cX9_pin 79 = .ok (.ireturn, 1) := by decide +kernel
theorem dX9_grow_0 : decode cX9_grow 0 = .ok (.iload_n 2, 1) := by decide +kernel
theorem dX9_grow_1 : decode cX9_grow 1 = .ok (.iconst 1, 1) := by decide +kernel
theorem dX9_grow_2 : decode cX9_grow 2 = .ok (.if_icmp .lt 9, 3) := by decide +kernel
theorem dX9_grow_5 : decode cX9_grow 5 = .ok (.iload_n 2, 1) := by decide +kernel
theorem dX9_grow_6 : decode cX9_grow 6 = .ok (.bipush 40, 2) := by decide +kernel
theorem dX9_grow_8 : decode cX9_grow 8 = .ok (.if_icmp .lt 5, 3) := by decide +kernel
theorem dX9_grow_11 : decode cX9_grow 11 = .ok (.iconst (-1), 1) := by decide +kernel
theorem dX9_grow_12 : decode cX9_grow 12 = .ok (.ireturn, 1) := by decide +kernel
theorem dX9_grow_13 : decode cX9_grow 13 = .ok (.aload_n 0, 1) := by decide +kernel
theorem dX9_grow_14 : decode cX9_grow 14 = .ok (.getfield 10, 3) := by decide +kernel
theorem dX9_grow_17 : decode cX9_grow 17 = .ok (.getfield 81, 3) := by decide +kernel
theorem dX9_grow_20 : decode cX9_grow 20 = .ok (.iload_n 1, 1) := by decide +kernel
theorem dX9_grow_21 : decode cX9_grow 21 = .ok (.invokevirtual 102, 3) := by decide +kernel
theorem dX9_grow_24 : decode cX9_grow 24 = .ok (.istore_n 3, 1) := by decide +kernel
theorem dX9_grow_25 : decode cX9_grow 25 = .ok (.iload_n 3, 1) := by decide +kernel
theorem dX9_grow_26 : decode cX9_grow 26 = .ok (.iconst (-1), 1) := by decide +kernel
theorem dX9_grow_27 : decode cX9_grow 27 = .ok (.if_icmp .ne 6, 3) := by decide +kernel
theorem dX9_grow_30 : decode cX9_grow 30 = .ok (.bipush (-4), 2) := by decide +kernel
theorem dX9_grow_32 : decode cX9_grow 32 = .ok (.ireturn, 1) := by decide +kernel
theorem dX9_grow_33 : decode cX9_grow 33 = .ok (.aload_n 0, 1) := by decide +kernel
theorem dX9_grow_34 : decode cX9_grow 34 = .ok (.getfield 10, 3) := by decide +kernel
theorem dX9_grow_37 : decode cX9_grow 37 = .ok (.getfield 81, 3) := by decide +kernel
theorem dX9_grow_40 : decode cX9_grow 40 = .ok (.getfield 105, 3) := by decide +kernel
theorem dX9_grow_43 : decode cX9_grow 43 = .ok (.iload_n 3, 1) := by decide +kernel
theorem dX9_grow_44 : decode cX9_grow 44 = .ok (.iaload, 1) := by decide +kernel
theorem dX9_grow_45 : decode cX9_grow 45 = .ok (.ifCond .le 6, 3) := by decide +kernel
theorem dX9_grow_48 : decode cX9_grow 48 = .ok (.bipush (-5), 2) := by decide +kernel
theorem dX9_grow_50 : decode cX9_grow 50 = .ok (.ireturn, 1) := by decide +kernel
theorem dX9_grow_51 : decode cX9_grow 51 = .ok (.aload_n 0, 1) := by decide +kernel
theorem dX9_grow_52 : decode cX9_grow 52 = .ok (.getfield 10, 3) := by decide +kernel
theorem dX9_grow_55 : decode cX9_grow 55 = .ok (.aload_n 0, 1) := by decide +kernel
theorem dX9_grow_56 : decode cX9_grow 56 = .ok (.getfield 10, 3) := by decide +kernel
theorem dX9_grow_59 : decode cX9_grow 59 = .ok (.getfield 81, 3) := by decide +kernel
theorem dX9_grow_62 : decode cX9_grow 62 = .ok (.getfield 117, 3) := by decide +kernel
theorem dX9_grow_65 : decode cX9_grow 65 = .ok (.iload_n 3, 1) := by decide +kernel
theorem dX9_grow_66 : decode cX9_grow 66 = .ok (.iaload, 1) := by decide +kernel
theorem dX9_grow_67 : decode cX9_grow 67 = .ok (.iload_n 2, 1) := by decide +kernel
theorem dX9_grow_68 : decode cX9_grow 68 = .ok (.invokevirtual 77, 3) := by decide +kernel
theorem dX9_grow_71 : decode cX9_grow 71 = .ok (.ifCond .ne 6, 3) := by decide +kernel
theorem dX9_grow_74 : decode cX9_grow 74 = .ok (.bipush (-6), 2) := by decide +kernel
theorem dX9_grow_76 : decode cX9_grow 76 = .ok (.ireturn, 1) := by decide +kernel
theorem dX9_grow_77 : decode cX9_grow 77 = .ok (.aload_n 0, 1) := by decide +kernel
theorem dX9_grow_78 : decode cX9_grow 78 = .ok (.getfield 10, 3) := by decide +kernel
theorem dX9_grow_81 : decode cX9_grow 81 = .ok (.getfield 81, 3) := by decide +kernel
theorem dX9_grow_84 : decode cX9_grow 84 = .ok (.getfield 120, 3) := by decide +kernel
theorem dX9_grow_87 : decode cX9_grow 87 = .ok (.iload_n 3, 1) := by decide +kernel
theorem dX9_grow_88 : decode cX9_grow 88 = .ok (.iaload, 1) := by decide +kernel
theorem dX9_grow_89 : decode cX9_grow 89 = .ok (.iload_n 2, 1) := by decide +kernel
theorem dX9_grow_90 : decode cX9_grow 90 = .ok (.iadd, 1) := by decide +kernel
theorem dX9_grow_91 : decode cX9_grow 91 = .ok (.invokestatic 71, 3) := by decide +kernel
theorem dX9_grow_94 : decode cX9_grow 94 = .ok (.ifCond .ne 6, 3) := by decide +kernel
theorem dX9_grow_97 : decode cX9_grow 97 = .ok (.bipush (-3), 2) := by decide +kernel
theorem dX9_grow_99 : decode cX9_grow 99 = .ok (.ireturn, 1) := by decide +kernel
theorem dX9_grow_100 : decode cX9_grow 100 = .ok (.aload_n 0, 1) := by decide +kernel
theorem dX9_grow_101 : decode cX9_grow 101 = .ok (.getfield 10, 3) := by decide +kernel
theorem dX9_grow_104 : decode cX9_grow 104 = .ok (.iload_n 3, 1) := by decide +kernel
theorem dX9_grow_105 : decode cX9_grow 105 = .ok (.iload_n 2, 1) := by decide +kernel
theorem dX9_grow_106 : decode cX9_grow 106 = .ok (.invokevirtual 123, 3) := by decide +kernel
theorem dX9_grow_109 : decode cX9_grow 109 = .ok (.ifCond .ne 18, 3) := by decide +kernel
theorem dX9_grow_112 : decode cX9_grow 112 = .ok (.aload_n 0, 1) := by decide +kernel
theorem dX9_grow_113 : decode cX9_grow 113 = .ok (.getfield 10, 3) := by decide +kernel
theorem dX9_grow_116 : decode cX9_grow 116 = .ok (.iload_n 3, 1) := by decide +kernel
theorem dX9_grow_117 : decode cX9_grow 117 = .ok (.iload_n 2, 1) := by decide +kernel
theorem dX9_grow_118 : decode cX9_grow 118 = .ok (.invokevirtual 126, 3) := by decide +kernel
theorem dX9_grow_121 : decode cX9_grow 121 = .ok (.ifCond .ne 6, 3) := by decide +kernel
theorem dX9_grow_124 : decode cX9_grow 124 = .ok (.bipush (-3), 2) := by decide +kernel
theorem dX9_grow_126 : decode cX9_grow 126 = .ok (.ireturn, 1) := by decide +kernel
theorem dX9_grow_127 : decode cX9_grow 127 = .ok (.aload_n 0, 1) := by decide +kernel
theorem dX9_grow_128 : decode cX9_grow 128 = .ok (.getfield 10, 3) := by decide +kernel
theorem dX9_grow_131 : decode cX9_grow 131 = .ok (.getfield 81, 3) := by decide +kernel
theorem dX9_grow_134 : decode cX9_grow 134 = .ok (.getfield 120, 3) := by decide +kernel
theorem dX9_grow_137 : decode cX9_grow 137 = .ok (.iload_n 3, 1) := by decide +kernel
theorem dX9_grow_138 : decode cX9_grow 138 = .ok (.iaload, 1) := by decide +kernel
theorem dX9_grow_139 : decode cX9_grow 139 = .ok (.ireturn, 1) := by decide +kernel
theorem dX9_moves_0 : decode cX9_moves 0 = .ok (.aload_n 0, 1) := by decide +kernel
theorem dX9_moves_1 : decode cX9_moves 1 = .ok (.getfield 10, 3) := by decide +kernel
theorem dX9_moves_4 : decode cX9_moves 4 = .ok (.getfield 57, 3) := by decide +kernel
theorem dX9_moves_7 : decode cX9_moves 7 = .ok (.iload_n 1, 1) := by decide +kernel
theorem dX9_moves_8 : decode cX9_moves 8 = .ok (.invokevirtual 67, 3) := by decide +kernel
theorem dX9_moves_11 : decode cX9_moves 11 = .ok (.ifCond .eq 14, 3) := by decide +kernel
theorem dX9_moves_14 : decode cX9_moves 14 = .ok (.iload_n 2, 1) := by decide +kernel
theorem dX9_moves_15 : decode cX9_moves 15 = .ok (.ifCond .lt 10, 3) := by decide +kernel
theorem dX9_moves_18 : decode cX9_moves 18 = .ok (.iload_n 2, 1) := by decide +kernel
theorem dX9_moves_19 : decode cX9_moves 19 = .ok (.sipush 240, 3) := by decide +kernel
theorem dX9_moves_22 : decode cX9_moves 22 = .ok (.if_icmp .le 5, 3) := by decide +kernel
theorem dX9_moves_25 : decode cX9_moves 25 = .ok (.iconst (-1), 1) := by decide +kernel
theorem dX9_moves_26 : decode cX9_moves 26 = .ok (.ireturn, 1) := by decide +kernel
theorem dX9_moves_27 : decode cX9_moves 27 = .ok (.aload_n 0, 1) := by decide +kernel
theorem dX9_moves_28 : decode cX9_moves 28 = .ok (.getfield 10, 3) := by decide +kernel
theorem dX9_moves_31 : decode cX9_moves 31 = .ok (.iload_n 1, 1) := by decide +kernel
theorem dX9_moves_32 : decode cX9_moves 32 = .ok (.iload_n 2, 1) := by decide +kernel
theorem dX9_moves_33 : decode cX9_moves 33 = .ok (.invokevirtual 129, 3) := by decide +kernel
theorem dX9_moves_36 : decode cX9_moves 36 = .ok (.ireturn, 1) := by decide +kernel
theorem dX9_write_0 : decode cX9_write 0 = .ok (.aload_n 0, 1) := by decide +kernel
theorem dX9_write_1 : decode cX9_write 1 = .ok (.getfield 10, 3) := by decide +kernel
theorem dX9_write_4 : decode cX9_write 4 = .ok (.aload_n 0, 1) := by decide +kernel
theorem dX9_write_5 : decode cX9_write 5 = .ok (.getfield 10, 3) := by decide +kernel
theorem dX9_write_8 : decode cX9_write 8 = .ok (.getfield 81, 3) := by decide +kernel
theorem dX9_write_11 : decode cX9_write 11 = .ok (.iload_n 1, 1) := by decide +kernel
theorem dX9_write_12 : decode cX9_write 12 = .ok (.invokevirtual 102, 3) := by decide +kernel
theorem dX9_write_15 : decode cX9_write 15 = .ok (.iload_n 2, 1) := by decide +kernel
theorem dX9_write_16 : decode cX9_write 16 = .ok (.invokevirtual 132, 3) := by decide +kernel
theorem dX9_write_19 : decode cX9_write 19 = .ok (.istore 4, 2) := by decide +kernel
theorem dX9_write_21 : decode cX9_write 21 = .ok (.iload 4, 2) := by decide +kernel
theorem dX9_write_23 : decode cX9_write 23 = .ok (.iconst (-1), 1) := by decide +kernel
theorem dX9_write_24 : decode cX9_write 24 = .ok (.if_icmp .ne 6, 3) := by decide +kernel
theorem dX9_write_27 : decode cX9_write 27 = .ok (.ldc 135, 2) := by decide +kernel
theorem dX9_write_29 : decode cX9_write 29 = .ok (.ireturn, 1) := by decide +kernel
theorem dX9_write_30 : decode cX9_write 30 = .ok (.aload_n 0, 1) := by decide +kernel
theorem dX9_write_31 : decode cX9_write 31 = .ok (.getfield 10, 3) := by decide +kernel
theorem dX9_write_34 : decode cX9_write 34 = .ok (.getfield 136, 3) := by decide +kernel
theorem dX9_write_37 : decode cX9_write 37 = .ok (.iload 4, 2) := by decide +kernel
theorem dX9_write_39 : decode cX9_write 39 = .ok (.iaload, 1) := by decide +kernel
theorem dX9_write_40 : decode cX9_write 40 = .ok (.istore 5, 2) := by decide +kernel
theorem dX9_write_42 : decode cX9_write 42 = .ok (.aload_n 0, 1) := by decide +kernel
theorem dX9_write_43 : decode cX9_write 43 = .ok (.getfield 10, 3) := by decide +kernel
theorem dX9_write_46 : decode cX9_write 46 = .ok (.getfield 136, 3) := by decide +kernel
theorem dX9_write_49 : decode cX9_write 49 = .ok (.iload 4, 2) := by decide +kernel
theorem dX9_write_51 : decode cX9_write 51 = .ok (.iload_n 3, 1) := by decide +kernel
theorem dX9_write_52 : decode cX9_write 52 = .ok (.iastore, 1) := by decide +kernel
theorem dX9_write_53 : decode cX9_write 53 = .ok (.iload 5, 2) := by decide +kernel
theorem dX9_write_55 : decode cX9_write 55 = .ok (.ireturn, 1) := by decide +kernel
theorem dX9_read_0 : decode cX9_read 0 = .ok (.aload_n 0, 1) := by decide +kernel
theorem dX9_read_1 : decode cX9_read 1 = .ok (.getfield 10, 3) := by decide +kernel
theorem dX9_read_4 : decode cX9_read 4 = .ok (.aload_n 0, 1) := by decide +kernel
theorem dX9_read_5 : decode cX9_read 5 = .ok (.getfield 10, 3) := by decide +kernel
theorem dX9_read_8 : decode cX9_read 8 = .ok (.getfield 81, 3) := by decide +kernel
theorem dX9_read_11 : decode cX9_read 11 = .ok (.iload_n 1, 1) := by decide +kernel
theorem dX9_read_12 : decode cX9_read 12 = .ok (.invokevirtual 102, 3) := by decide +kernel
theorem dX9_read_15 : decode cX9_read 15 = .ok (.iload_n 2, 1) := by decide +kernel
theorem dX9_read_16 : decode cX9_read 16 = .ok (.invokevirtual 132, 3) := by decide +kernel
theorem dX9_read_19 : decode cX9_read 19 = .ok (.istore_n 3, 1) := by decide +kernel
theorem dX9_read_20 : decode cX9_read 20 = .ok (.iload_n 3, 1) := by decide +kernel
theorem dX9_read_21 : decode cX9_read 21 = .ok (.iconst (-1), 1) := by decide +kernel
theorem dX9_read_22 : decode cX9_read 22 = .ok (.if_icmp .ne 8, 3) := by decide +kernel
theorem dX9_read_25 : decode cX9_read 25 = .ok (.ldc 135, 2) := by decide +kernel
theorem dX9_read_27 : decode cX9_read 27 = .ok (.goto 12, 3) := by decide +kernel
theorem dX9_read_30 : decode cX9_read 30 = .ok (.aload_n 0, 1) := by decide +kernel
theorem dX9_read_31 : decode cX9_read 31 = .ok (.getfield 10, 3) := by decide +kernel
theorem dX9_read_34 : decode cX9_read 34 = .ok (.getfield 136, 3) := by decide +kernel
theorem dX9_read_37 : decode cX9_read 37 = .ok (.iload_n 3, 1) := by decide +kernel
theorem dX9_read_38 : decode cX9_read 38 = .ok (.iaload, 1) := by decide +kernel
theorem dX9_read_39 : decode cX9_read 39 = .ok (.ireturn, 1) := by decide +kernel
theorem dX9_peek_0 : decode cX9_peek 0 = .ok (.iload_n 1, 1) := by decide +kernel
theorem dX9_peek_1 : decode cX9_peek 1 = .ok (.invokestatic 139, 3) := by decide +kernel
theorem dX9_peek_4 : decode cX9_peek 4 = .ok (.ifCond .eq 16, 3) := by decide +kernel
theorem dX9_peek_7 : decode cX9_peek 7 = .ok (.aload_n 0, 1) := by decide +kernel
theorem dX9_peek_8 : decode cX9_peek 8 = .ok (.getfield 10, 3) := by decide +kernel
theorem dX9_peek_11 : decode cX9_peek 11 = .ok (.getfield 142, 3) := by decide +kernel
theorem dX9_peek_14 : decode cX9_peek 14 = .ok (.iload_n 1, 1) := by decide +kernel
theorem dX9_peek_15 : decode cX9_peek 15 = .ok (.iaload, 1) := by decide +kernel
theorem dX9_peek_16 : decode cX9_peek 16 = .ok (.iconst (-1), 1) := by decide +kernel
theorem dX9_peek_17 : decode cX9_peek 17 = .ok (.if_icmp .ne 6, 3) := by decide +kernel
theorem dX9_peek_20 : decode cX9_peek 20 = .ok (.ldc 135, 2) := by decide +kernel
theorem dX9_peek_22 : decode cX9_peek 22 = .ok (.ireturn, 1) := by decide +kernel
theorem dX9_peek_23 : decode cX9_peek 23 = .ok (.aload_n 0, 1) := by decide +kernel
theorem dX9_peek_24 : decode cX9_peek 24 = .ok (.getfield 10, 3) := by decide +kernel
theorem dX9_peek_27 : decode cX9_peek 27 = .ok (.getfield 81, 3) := by decide +kernel
theorem dX9_peek_30 : decode cX9_peek 30 = .ok (.iload_n 2, 1) := by decide +kernel
theorem dX9_peek_31 : decode cX9_peek 31 = .ok (.invokevirtual 145, 3) := by decide +kernel
theorem dX9_peek_34 : decode cX9_peek 34 = .ok (.istore 4, 2) := by decide +kernel
theorem dX9_peek_36 : decode cX9_peek 36 = .ok (.iload 4, 2) := by decide +kernel
theorem dX9_peek_38 : decode cX9_peek 38 = .ok (.iconst (-1), 1) := by decide +kernel
theorem dX9_peek_39 : decode cX9_peek 39 = .ok (.if_icmp .eq 24, 3) := by decide +kernel
theorem dX9_peek_42 : decode cX9_peek 42 = .ok (.aload_n 0, 1) := by decide +kernel
theorem dX9_peek_43 : decode cX9_peek 43 = .ok (.getfield 10, 3) := by decide +kernel
theorem dX9_peek_46 : decode cX9_peek 46 = .ok (.iload 4, 2) := by decide +kernel
theorem dX9_peek_48 : decode cX9_peek 48 = .ok (.aload_n 0, 1) := by decide +kernel
theorem dX9_peek_49 : decode cX9_peek 49 = .ok (.getfield 10, 3) := by decide +kernel
theorem dX9_peek_52 : decode cX9_peek 52 = .ok (.getfield 142, 3) := by decide +kernel
theorem dX9_peek_55 : decode cX9_peek 55 = .ok (.iload_n 1, 1) := by decide +kernel
theorem dX9_peek_56 : decode cX9_peek 56 = .ok (.iaload, 1) := by decide +kernel
theorem dX9_peek_57 : decode cX9_peek 57 = .ok (.invokevirtual 148, 3) := by decide +kernel
theorem dX9_peek_60 : decode cX9_peek 60 = .ok (.ifCond .ne 6, 3) := by decide +kernel
theorem dX9_peek_63 : decode cX9_peek 63 = .ok (.ldc 135, 2) := by decide +kernel
theorem dX9_peek_65 : decode cX9_peek 65 = .ok (.ireturn, 1) := by decide +kernel
theorem dX9_peek_66 : decode cX9_peek 66 = .ok (.aload_n 0, 1) := by decide +kernel
theorem dX9_peek_67 : decode cX9_peek 67 = .ok (.getfield 10, 3) := by decide +kernel
theorem dX9_peek_70 : decode cX9_peek 70 = .ok (.iload 4, 2) := by decide +kernel
theorem dX9_peek_72 : decode cX9_peek 72 = .ok (.iload_n 3, 1) := by decide +kernel
theorem dX9_peek_73 : decode cX9_peek 73 = .ok (.invokevirtual 132, 3) := by decide +kernel
theorem dX9_peek_76 : decode cX9_peek 76 = .ok (.istore 5, 2) := by decide +kernel
theorem dX9_peek_78 : decode cX9_peek 78 = .ok (.iload 5, 2) := by decide +kernel
theorem dX9_peek_80 : decode cX9_peek 80 = .ok (.iconst (-1), 1) := by decide +kernel
theorem dX9_peek_81 : decode cX9_peek 81 = .ok (.if_icmp .ne 8, 3) := by decide +kernel
theorem dX9_peek_84 : decode cX9_peek 84 = .ok (.ldc 135, 2) := by decide +kernel
theorem dX9_peek_86 : decode cX9_peek 86 = .ok (.goto 13, 3) := by decide +kernel
theorem dX9_peek_89 : decode cX9_peek 89 = .ok (.aload_n 0, 1) := by decide +kernel
theorem dX9_peek_90 : decode cX9_peek 90 = .ok (.getfield 10, 3) := by decide +kernel
theorem dX9_peek_93 : decode cX9_peek 93 = .ok (.getfield 136, 3) := by decide +kernel
theorem dX9_peek_96 : decode cX9_peek 96 = .ok (.iload 5, 2) := by decide +kernel
theorem dX9_peek_98 : decode cX9_peek 98 = .ok (.iaload, 1) := by decide +kernel
theorem dX9_peek_99 : decode cX9_peek 99 = .ok (.ireturn, 1) := by decide +kernel
theorem dX9_of_0 : decode cX9_of 0 = .ok (.iload_n 2, 1) := by decide +kernel
theorem dX9_of_1 : decode cX9_of 1 = .ok (.ifCond .lt 8, 3) := by decide +kernel
theorem dX9_of_4 : decode cX9_of 4 = .ok (.iload_n 2, 1) := by decide +kernel
theorem dX9_of_5 : decode cX9_of 5 = .ok (.iconst 5, 1) := by decide +kernel
theorem dX9_of_6 : decode cX9_of 6 = .ok (.if_icmp .le 5, 3) := by decide +kernel
theorem dX9_of_9 : decode cX9_of 9 = .ok (.iconst (-1), 1) := by decide +kernel
theorem dX9_of_10 : decode cX9_of 10 = .ok (.ireturn, 1) := by decide +kernel
theorem dX9_of_11 : decode cX9_of 11 = .ok (.aload_n 0, 1) := by decide +kernel
theorem dX9_of_12 : decode cX9_of 12 = .ok (.getfield 10, 3) := by decide +kernel
theorem dX9_of_15 : decode cX9_of 15 = .ok (.getfield 81, 3) := by decide +kernel
theorem dX9_of_18 : decode cX9_of 18 = .ok (.iload_n 1, 1) := by decide +kernel
theorem dX9_of_19 : decode cX9_of 19 = .ok (.invokevirtual 102, 3) := by decide +kernel
theorem dX9_of_22 : decode cX9_of 22 = .ok (.istore_n 3, 1) := by decide +kernel
theorem dX9_of_23 : decode cX9_of 23 = .ok (.iload_n 3, 1) := by decide +kernel
theorem dX9_of_24 : decode cX9_of 24 = .ok (.iconst (-1), 1) := by decide +kernel
theorem dX9_of_25 : decode cX9_of 25 = .ok (.if_icmp .ne 6, 3) := by decide +kernel
theorem dX9_of_28 : decode cX9_of 28 = .ok (.bipush (-4), 2) := by decide +kernel
theorem dX9_of_30 : decode cX9_of 30 = .ok (.ireturn, 1) := by decide +kernel
theorem dX9_of_31 : decode cX9_of 31 = .ok (.iload_n 2, 1) := by decide +kernel
theorem dX9_of_32 : decode cX9_of 32 = .ok (.tableswitch 101 0 4 #[36, 49, 62, 75, 88], 36) := by decide +kernel
theorem dX9_of_68 : decode cX9_of 68 = .ok (.aload_n 0, 1) := by decide +kernel
theorem dX9_of_69 : decode cX9_of 69 = .ok (.getfield 10, 3) := by decide +kernel
theorem dX9_of_72 : decode cX9_of 72 = .ok (.getfield 81, 3) := by decide +kernel
theorem dX9_of_75 : decode cX9_of 75 = .ok (.getfield 151, 3) := by decide +kernel
theorem dX9_of_78 : decode cX9_of 78 = .ok (.iload_n 3, 1) := by decide +kernel
theorem dX9_of_79 : decode cX9_of 79 = .ok (.iaload, 1) := by decide +kernel
theorem dX9_of_80 : decode cX9_of 80 = .ok (.ireturn, 1) := by decide +kernel
theorem dX9_of_81 : decode cX9_of 81 = .ok (.aload_n 0, 1) := by decide +kernel
theorem dX9_of_82 : decode cX9_of 82 = .ok (.getfield 10, 3) := by decide +kernel
theorem dX9_of_85 : decode cX9_of 85 = .ok (.getfield 81, 3) := by decide +kernel
theorem dX9_of_88 : decode cX9_of 88 = .ok (.getfield 120, 3) := by decide +kernel
theorem dX9_of_91 : decode cX9_of 91 = .ok (.iload_n 3, 1) := by decide +kernel
theorem dX9_of_92 : decode cX9_of 92 = .ok (.iaload, 1) := by decide +kernel
theorem dX9_of_93 : decode cX9_of 93 = .ok (.ireturn, 1) := by decide +kernel
theorem dX9_of_94 : decode cX9_of 94 = .ok (.aload_n 0, 1) := by decide +kernel
theorem dX9_of_95 : decode cX9_of 95 = .ok (.getfield 10, 3) := by decide +kernel
theorem dX9_of_98 : decode cX9_of 98 = .ok (.getfield 81, 3) := by decide +kernel
theorem dX9_of_101 : decode cX9_of 101 = .ok (.getfield 154, 3) := by decide +kernel
theorem dX9_of_104 : decode cX9_of 104 = .ok (.iload_n 3, 1) := by decide +kernel
theorem dX9_of_105 : decode cX9_of 105 = .ok (.iaload, 1) := by decide +kernel
theorem dX9_of_106 : decode cX9_of 106 = .ok (.ireturn, 1) := by decide +kernel
theorem dX9_of_107 : decode cX9_of 107 = .ok (.aload_n 0, 1) := by decide +kernel
theorem dX9_of_108 : decode cX9_of 108 = .ok (.getfield 10, 3) := by decide +kernel
theorem dX9_of_111 : decode cX9_of 111 = .ok (.getfield 81, 3) := by decide +kernel
theorem dX9_of_114 : decode cX9_of 114 = .ok (.getfield 117, 3) := by decide +kernel
theorem dX9_of_117 : decode cX9_of 117 = .ok (.iload_n 3, 1) := by decide +kernel
theorem dX9_of_118 : decode cX9_of 118 = .ok (.iaload, 1) := by decide +kernel
theorem dX9_of_119 : decode cX9_of 119 = .ok (.ireturn, 1) := by decide +kernel
theorem dX9_of_120 : decode cX9_of 120 = .ok (.aload_n 0, 1) := by decide +kernel
theorem dX9_of_121 : decode cX9_of 121 = .ok (.getfield 10, 3) := by decide +kernel
theorem dX9_of_124 : decode cX9_of 124 = .ok (.getfield 81, 3) := by decide +kernel
theorem dX9_of_127 : decode cX9_of 127 = .ok (.getfield 105, 3) := by decide +kernel
theorem dX9_of_130 : decode cX9_of 130 = .ok (.iload_n 3, 1) := by decide +kernel
theorem dX9_of_131 : decode cX9_of 131 = .ok (.iaload, 1) := by decide +kernel
theorem dX9_of_132 : decode cX9_of 132 = .ok (.ireturn, 1) := by decide +kernel
theorem dX9_of_133 : decode cX9_of 133 = .ok (.aload_n 0, 1) := by decide +kernel
theorem dX9_of_134 : decode cX9_of 134 = .ok (.getfield 10, 3) := by decide +kernel
theorem dX9_of_137 : decode cX9_of 137 = .ok (.getfield 81, 3) := by decide +kernel
theorem dX9_of_140 : decode cX9_of 140 = .ok (.getfield 157, 3) := by decide +kernel
theorem dX9_of_143 : decode cX9_of 143 = .ok (.iload_n 3, 1) := by decide +kernel
theorem dX9_of_144 : decode cX9_of 144 = .ok (.iaload, 1) := by decide +kernel
theorem dX9_of_145 : decode cX9_of 145 = .ok (.invokestatic 160, 3) := by decide +kernel
theorem dX9_of_148 : decode cX9_of 148 = .ok (.ireturn, 1) := by decide +kernel
theorem dX9_slot_0 : decode cX9_slot 0 = .ok (.iload_n 1, 1) := by decide +kernel
theorem dX9_slot_1 : decode cX9_slot 1 = .ok (.ifCond .lt 9, 3) := by decide +kernel
theorem dX9_slot_4 : decode cX9_slot 4 = .ok (.iload_n 1, 1) := by decide +kernel
theorem dX9_slot_5 : decode cX9_slot 5 = .ok (.bipush 30, 2) := by decide +kernel
theorem dX9_slot_7 : decode cX9_slot 7 = .ok (.if_icmp .lt 5, 3) := by decide +kernel
theorem dX9_slot_10 : decode cX9_slot 10 = .ok (.iconst (-1), 1) := by decide +kernel
theorem dX9_slot_11 : decode cX9_slot 11 = .ok (.ireturn, 1) := by decide +kernel
theorem dX9_slot_12 : decode cX9_slot 12 = .ok (.aload_n 0, 1) := by decide +kernel
theorem dX9_slot_13 : decode cX9_slot 13 = .ok (.getfield 10, 3) := by decide +kernel
theorem dX9_slot_16 : decode cX9_slot 16 = .ok (.getfield 81, 3) := by decide +kernel
theorem dX9_slot_19 : decode cX9_slot 19 = .ok (.getfield 163, 3) := by decide +kernel
theorem dX9_slot_22 : decode cX9_slot 22 = .ok (.iload_n 1, 1) := by decide +kernel
theorem dX9_slot_23 : decode cX9_slot 23 = .ok (.iaload, 1) := by decide +kernel
theorem dX9_slot_24 : decode cX9_slot 24 = .ok (.iconst 2, 1) := by decide +kernel
theorem dX9_slot_25 : decode cX9_slot 25 = .ok (.if_icmp .ne 7, 3) := by decide +kernel
theorem dX9_slot_28 : decode cX9_slot 28 = .ok (.iconst 1, 1) := by decide +kernel
theorem dX9_slot_29 : decode cX9_slot 29 = .ok (.goto 4, 3) := by decide +kernel
theorem dX9_slot_32 : decode cX9_slot 32 = .ok (.iconst 0, 1) := by decide +kernel
theorem dX9_slot_33 : decode cX9_slot 33 = .ok (.istore_n 3, 1) := by decide +kernel
theorem dX9_slot_34 : decode cX9_slot 34 = .ok (.iload_n 2, 1) := by decide +kernel
theorem dX9_slot_35 : decode cX9_slot 35 = .ok (.tableswitch 89 0 3 #[29, 44, 57, 67], 29) := by decide +kernel
theorem dX9_slot_64 : decode cX9_slot 64 = .ok (.aload_n 0, 1) := by decide +kernel
theorem dX9_slot_65 : decode cX9_slot 65 = .ok (.getfield 10, 3) := by decide +kernel
theorem dX9_slot_68 : decode cX9_slot 68 = .ok (.getfield 81, 3) := by decide +kernel
theorem dX9_slot_71 : decode cX9_slot 71 = .ok (.iload_n 1, 1) := by decide +kernel
theorem dX9_slot_72 : decode cX9_slot 72 = .ok (.invokevirtual 166, 3) := by decide +kernel
theorem dX9_slot_75 : decode cX9_slot 75 = .ok (.invokestatic 160, 3) := by decide +kernel
theorem dX9_slot_78 : decode cX9_slot 78 = .ok (.ireturn, 1) := by decide +kernel
theorem dX9_slot_79 : decode cX9_slot 79 = .ok (.aload_n 0, 1) := by decide +kernel
theorem dX9_slot_80 : decode cX9_slot 80 = .ok (.getfield 10, 3) := by decide +kernel
theorem dX9_slot_83 : decode cX9_slot 83 = .ok (.getfield 81, 3) := by decide +kernel
theorem dX9_slot_86 : decode cX9_slot 86 = .ok (.getfield 169, 3) := by decide +kernel
theorem dX9_slot_89 : decode cX9_slot 89 = .ok (.iload_n 1, 1) := by decide +kernel
theorem dX9_slot_90 : decode cX9_slot 90 = .ok (.iaload, 1) := by decide +kernel
theorem dX9_slot_91 : decode cX9_slot 91 = .ok (.ireturn, 1) := by decide +kernel
theorem dX9_slot_92 : decode cX9_slot 92 = .ok (.iload_n 3, 1) := by decide +kernel
theorem dX9_slot_93 : decode cX9_slot 93 = .ok (.ifCond .eq 7, 3) := by decide +kernel
theorem dX9_slot_96 : decode cX9_slot 96 = .ok (.iconst 1, 1) := by decide +kernel
theorem dX9_slot_97 : decode cX9_slot 97 = .ok (.goto 4, 3) := by decide +kernel
theorem dX9_slot_100 : decode cX9_slot 100 = .ok (.iconst 0, 1) := by decide +kernel
theorem dX9_slot_101 : decode cX9_slot 101 = .ok (.ireturn, 1) := by decide +kernel
theorem dX9_slot_102 : decode cX9_slot 102 = .ok (.iload_n 3, 1) := by decide +kernel
theorem dX9_slot_103 : decode cX9_slot 103 = .ok (.ifCond .eq 18, 3) := by decide +kernel
theorem dX9_slot_106 : decode cX9_slot 106 = .ok (.aload_n 0, 1) := by decide +kernel
theorem dX9_slot_107 : decode cX9_slot 107 = .ok (.getfield 10, 3) := by decide +kernel
theorem dX9_slot_110 : decode cX9_slot 110 = .ok (.getfield 81, 3) := by decide +kernel
theorem dX9_slot_113 : decode cX9_slot 113 = .ok (.getfield 172, 3) := by decide +kernel
theorem dX9_slot_116 : decode cX9_slot 116 = .ok (.iload_n 1, 1) := by decide +kernel
theorem dX9_slot_117 : decode cX9_slot 117 = .ok (.iaload, 1) := by decide +kernel
theorem dX9_slot_118 : decode cX9_slot 118 = .ok (.goto 5, 3) := by decide +kernel
theorem dX9_slot_121 : decode cX9_slot 121 = .ok (.bipush (-2), 2) := by decide +kernel
theorem dX9_slot_123 : decode cX9_slot 123 = .ok (.ireturn, 1) := by decide +kernel
theorem dX9_slot_124 : decode cX9_slot 124 = .ok (.iconst (-1), 1) := by decide +kernel
theorem dX9_slot_125 : decode cX9_slot 125 = .ok (.ireturn, 1) := by decide +kernel
theorem dX9_lies_0 : decode cX9_lies 0 = .ok (.iload_n 1, 1) := by decide +kernel
theorem dX9_lies_1 : decode cX9_lies 1 = .ok (.ifCond .lt 10, 3) := by decide +kernel
theorem dX9_lies_4 : decode cX9_lies 4 = .ok (.iload_n 1, 1) := by decide +kernel
theorem dX9_lies_5 : decode cX9_lies 5 = .ok (.sipush 240, 3) := by decide +kernel
theorem dX9_lies_8 : decode cX9_lies 8 = .ok (.if_icmp .lt 5, 3) := by decide +kernel
theorem dX9_lies_11 : decode cX9_lies 11 = .ok (.iconst (-1), 1) := by decide +kernel
theorem dX9_lies_12 : decode cX9_lies 12 = .ok (.ireturn, 1) := by decide +kernel
theorem dX9_lies_13 : decode cX9_lies 13 = .ok (.aload_n 0, 1) := by decide +kernel
theorem dX9_lies_14 : decode cX9_lies 14 = .ok (.getfield 10, 3) := by decide +kernel
theorem dX9_lies_17 : decode cX9_lies 17 = .ok (.getfield 175, 3) := by decide +kernel
theorem dX9_lies_20 : decode cX9_lies 20 = .ok (.getfield 179, 3) := by decide +kernel
theorem dX9_lies_23 : decode cX9_lies 23 = .ok (.iload_n 1, 1) := by decide +kernel
theorem dX9_lies_24 : decode cX9_lies 24 = .ok (.iaload, 1) := by decide +kernel
theorem dX9_lies_25 : decode cX9_lies 25 = .ok (.istore_n 2, 1) := by decide +kernel
theorem dX9_lies_26 : decode cX9_lies 26 = .ok (.iload_n 2, 1) := by decide +kernel
theorem dX9_lies_27 : decode cX9_lies 27 = .ok (.iconst (-1), 1) := by decide +kernel
theorem dX9_lies_28 : decode cX9_lies 28 = .ok (.if_icmp .eq 5, 3) := by decide +kernel
theorem dX9_lies_31 : decode cX9_lies 31 = .ok (.iload_n 2, 1) := by decide +kernel
theorem dX9_lies_32 : decode cX9_lies 32 = .ok (.ireturn, 1) := by decide +kernel
theorem dX9_lies_33 : decode cX9_lies 33 = .ok (.iload_n 1, 1) := by decide +kernel
theorem dX9_lies_34 : decode cX9_lies 34 = .ok (.aload_n 0, 1) := by decide +kernel
theorem dX9_lies_35 : decode cX9_lies 35 = .ok (.getfield 10, 3) := by decide +kernel
theorem dX9_lies_38 : decode cX9_lies 38 = .ok (.getfield 57, 3) := by decide +kernel
theorem dX9_lies_41 : decode cX9_lies 41 = .ok (.invokevirtual 184, 3) := by decide +kernel
theorem dX9_lies_44 : decode cX9_lies 44 = .ok (.if_icmp .ge 8, 3) := by decide +kernel
theorem dX9_lies_47 : decode cX9_lies 47 = .ok (.bipush 100, 2) := by decide +kernel
theorem dX9_lies_49 : decode cX9_lies 49 = .ok (.goto 5, 3) := by decide +kernel
theorem dX9_lies_52 : decode cX9_lies 52 = .ok (.bipush 101, 2) := by decide +kernel
theorem dX9_lies_54 : decode cX9_lies 54 = .ok (.ireturn, 1) := by decide +kernel
theorem dX9_tag_0 : decode cX9_tag 0 = .ok (.iload_n 2, 1) := by decide +kernel
theorem dX9_tag_1 : decode cX9_tag 1 = .ok (.invokestatic 187, 3) := by decide +kernel
theorem dX9_tag_4 : decode cX9_tag 4 = .ok (.ifCond .ne 5, 3) := by decide +kernel
theorem dX9_tag_7 : decode cX9_tag 7 = .ok (.iconst (-1), 1) := by decide +kernel
theorem dX9_tag_8 : decode cX9_tag 8 = .ok (.ireturn, 1) := by decide +kernel
theorem dX9_tag_9 : decode cX9_tag 9 = .ok (.aload_n 0, 1) := by decide +kernel
theorem dX9_tag_10 : decode cX9_tag 10 = .ok (.getfield 10, 3) := by decide +kernel
theorem dX9_tag_13 : decode cX9_tag 13 = .ok (.getfield 81, 3) := by decide +kernel
theorem dX9_tag_16 : decode cX9_tag 16 = .ok (.iload_n 1, 1) := by decide +kernel
theorem dX9_tag_17 : decode cX9_tag 17 = .ok (.invokevirtual 102, 3) := by decide +kernel
theorem dX9_tag_20 : decode cX9_tag 20 = .ok (.istore_n 3, 1) := by decide +kernel
theorem dX9_tag_21 : decode cX9_tag 21 = .ok (.iload_n 3, 1) := by decide +kernel
theorem dX9_tag_22 : decode cX9_tag 22 = .ok (.iconst (-1), 1) := by decide +kernel
theorem dX9_tag_23 : decode cX9_tag 23 = .ok (.if_icmp .ne 6, 3) := by decide +kernel
theorem dX9_tag_26 : decode cX9_tag 26 = .ok (.bipush (-4), 2) := by decide +kernel
theorem dX9_tag_28 : decode cX9_tag 28 = .ok (.ireturn, 1) := by decide +kernel
theorem dX9_tag_29 : decode cX9_tag 29 = .ok (.aload_n 0, 1) := by decide +kernel
theorem dX9_tag_30 : decode cX9_tag 30 = .ok (.getfield 10, 3) := by decide +kernel
theorem dX9_tag_33 : decode cX9_tag 33 = .ok (.iload_n 2, 1) := by decide +kernel
theorem dX9_tag_34 : decode cX9_tag 34 = .ok (.invokevirtual 190, 3) := by decide +kernel
theorem dX9_tag_37 : decode cX9_tag 37 = .ok (.istore 4, 2) := by decide +kernel
theorem dX9_tag_39 : decode cX9_tag 39 = .ok (.iload 4, 2) := by decide +kernel
theorem dX9_tag_41 : decode cX9_tag 41 = .ok (.iconst (-1), 1) := by decide +kernel
theorem dX9_tag_42 : decode cX9_tag 42 = .ok (.if_icmp .eq 12, 3) := by decide +kernel
theorem dX9_tag_45 : decode cX9_tag 45 = .ok (.iload 4, 2) := by decide +kernel
theorem dX9_tag_47 : decode cX9_tag 47 = .ok (.iload_n 3, 1) := by decide +kernel
theorem dX9_tag_48 : decode cX9_tag 48 = .ok (.if_icmp .eq 6, 3) := by decide +kernel
theorem dX9_tag_51 : decode cX9_tag 51 = .ok (.bipush (-5), 2) := by decide +kernel
theorem dX9_tag_53 : decode cX9_tag 53 = .ok (.ireturn, 1) := by decide +kernel
theorem dX9_tag_54 : decode cX9_tag 54 = .ok (.aload_n 0, 1) := by decide +kernel
theorem dX9_tag_55 : decode cX9_tag 55 = .ok (.getfield 10, 3) := by decide +kernel
theorem dX9_tag_58 : decode cX9_tag 58 = .ok (.iload_n 3, 1) := by decide +kernel
theorem dX9_tag_59 : decode cX9_tag 59 = .ok (.iload_n 2, 1) := by decide +kernel
theorem dX9_tag_60 : decode cX9_tag 60 = .ok (.invokevirtual 193, 3) := by decide +kernel
theorem dX9_tag_63 : decode cX9_tag 63 = .ok (.aload_n 0, 1) := by decide +kernel
theorem dX9_tag_64 : decode cX9_tag 64 = .ok (.getfield 10, 3) := by decide +kernel
theorem dX9_tag_67 : decode cX9_tag 67 = .ok (.getfield 197, 3) := by decide +kernel
theorem dX9_tag_70 : decode cX9_tag 70 = .ok (.getfield 201, 3) := by decide +kernel
theorem dX9_tag_73 : decode cX9_tag 73 = .ok (.ireturn, 1) := by decide +kernel
theorem dX9_find_0 : decode cX9_find 0 = .ok (.iload_n 1, 1) := by decide +kernel
theorem dX9_find_1 : decode cX9_find 1 = .ok (.invokestatic 187, 3) := by decide +kernel
theorem dX9_find_4 : decode cX9_find 4 = .ok (.ifCond .ne 5, 3) := by decide +kernel
theorem dX9_find_7 : decode cX9_find 7 = .ok (.iconst (-1), 1) := by decide +kernel
theorem dX9_find_8 : decode cX9_find 8 = .ok (.ireturn, 1) := by decide +kernel
theorem dX9_find_9 : decode cX9_find 9 = .ok (.aload_n 0, 1) := by decide +kernel
theorem dX9_find_10 : decode cX9_find 10 = .ok (.getfield 10, 3) := by decide +kernel
theorem dX9_find_13 : decode cX9_find 13 = .ok (.iload_n 1, 1) := by decide +kernel
theorem dX9_find_14 : decode cX9_find 14 = .ok (.invokevirtual 190, 3) := by decide +kernel
theorem dX9_find_17 : decode cX9_find 17 = .ok (.istore_n 2, 1) := by decide +kernel
theorem dX9_find_18 : decode cX9_find 18 = .ok (.iload_n 2, 1) := by decide +kernel
theorem dX9_find_19 : decode cX9_find 19 = .ok (.iconst (-1), 1) := by decide +kernel
theorem dX9_find_20 : decode cX9_find 20 = .ok (.if_icmp .ne 8, 3) := by decide +kernel
theorem dX9_find_23 : decode cX9_find 23 = .ok (.bipush (-2), 2) := by decide +kernel
theorem dX9_find_25 : decode cX9_find 25 = .ok (.goto 14, 3) := by decide +kernel
theorem dX9_find_28 : decode cX9_find 28 = .ok (.aload_n 0, 1) := by decide +kernel
theorem dX9_find_29 : decode cX9_find 29 = .ok (.getfield 10, 3) := by decide +kernel
theorem dX9_find_32 : decode cX9_find 32 = .ok (.getfield 81, 3) := by decide +kernel
theorem dX9_find_35 : decode cX9_find 35 = .ok (.iload_n 2, 1) := by decide +kernel
theorem dX9_find_36 : decode cX9_find 36 = .ok (.invokevirtual 98, 3) := by decide +kernel
theorem dX9_find_39 : decode cX9_find 39 = .ok (.ireturn, 1) := by decide +kernel
theorem dX9_tagged_0 : decode cX9_tagged 0 = .ok (.iload_n 1, 1) := by decide +kernel
theorem dX9_tagged_1 : decode cX9_tagged 1 = .ok (.ifCond .ge 5, 3) := by decide +kernel
theorem dX9_tagged_4 : decode cX9_tagged 4 = .ok (.iconst (-1), 1) := by decide +kernel
theorem dX9_tagged_5 : decode cX9_tagged 5 = .ok (.ireturn, 1) := by decide +kernel
theorem dX9_tagged_6 : decode cX9_tagged 6 = .ok (.aload_n 0, 1) := by decide +kernel
theorem dX9_tagged_7 : decode cX9_tagged 7 = .ok (.getfield 10, 3) := by decide +kernel
theorem dX9_tagged_10 : decode cX9_tagged 10 = .ok (.getfield 197, 3) := by decide +kernel
theorem dX9_tagged_13 : decode cX9_tagged 13 = .ok (.iload_n 1, 1) := by decide +kernel
theorem dX9_tagged_14 : decode cX9_tagged 14 = .ok (.invokevirtual 206, 3) := by decide +kernel
theorem dX9_tagged_17 : decode cX9_tagged 17 = .ok (.istore_n 2, 1) := by decide +kernel
theorem dX9_tagged_18 : decode cX9_tagged 18 = .ok (.iload_n 2, 1) := by decide +kernel
theorem dX9_tagged_19 : decode cX9_tagged 19 = .ok (.iconst (-1), 1) := by decide +kernel
theorem dX9_tagged_20 : decode cX9_tagged 20 = .ok (.if_icmp .ne 8, 3) := by decide +kernel
theorem dX9_tagged_23 : decode cX9_tagged 23 = .ok (.bipush (-2), 2) := by decide +kernel
theorem dX9_tagged_25 : decode cX9_tagged 25 = .ok (.goto 15, 3) := by decide +kernel
theorem dX9_tagged_28 : decode cX9_tagged 28 = .ok (.aload_n 0, 1) := by decide +kernel
theorem dX9_tagged_29 : decode cX9_tagged 29 = .ok (.getfield 10, 3) := by decide +kernel
theorem dX9_tagged_32 : decode cX9_tagged 32 = .ok (.getfield 81, 3) := by decide +kernel
theorem dX9_tagged_35 : decode cX9_tagged 35 = .ok (.getfield 157, 3) := by decide +kernel
theorem dX9_tagged_38 : decode cX9_tagged 38 = .ok (.iload_n 2, 1) := by decide +kernel
theorem dX9_tagged_39 : decode cX9_tagged 39 = .ok (.iaload, 1) := by decide +kernel
theorem dX9_tagged_40 : decode cX9_tagged 40 = .ok (.ireturn, 1) := by decide +kernel
theorem dX9_quota_0 : decode cX9_quota 0 = .ok (.iload_n 1, 1) := by decide +kernel
theorem dX9_quota_1 : decode cX9_quota 1 = .ok (.invokestatic 74, 3) := by decide +kernel
theorem dX9_quota_4 : decode cX9_quota 4 = .ok (.ifCond .eq 14, 3) := by decide +kernel
theorem dX9_quota_7 : decode cX9_quota 7 = .ok (.iload_n 2, 1) := by decide +kernel
theorem dX9_quota_8 : decode cX9_quota 8 = .ok (.ifCond .lt 10, 3) := by decide +kernel
theorem dX9_quota_11 : decode cX9_quota 11 = .ok (.iload_n 2, 1) := by decide +kernel
theorem dX9_quota_12 : decode cX9_quota 12 = .ok (.sipush 240, 3) := by decide +kernel
theorem dX9_quota_15 : decode cX9_quota 15 = .ok (.if_icmp .le 5, 3) := by decide +kernel
theorem dX9_quota_18 : decode cX9_quota 18 = .ok (.iconst (-1), 1) := by decide +kernel
theorem dX9_quota_19 : decode cX9_quota 19 = .ok (.ireturn, 1) := by decide +kernel
theorem dX9_quota_20 : decode cX9_quota 20 = .ok (.aload_n 0, 1) := by decide +kernel
theorem dX9_quota_21 : decode cX9_quota 21 = .ok (.getfield 10, 3) := by decide +kernel
theorem dX9_quota_24 : decode cX9_quota 24 = .ok (.getfield 81, 3) := by decide +kernel
theorem dX9_quota_27 : decode cX9_quota 27 = .ok (.iload_n 1, 1) := by decide +kernel
theorem dX9_quota_28 : decode cX9_quota 28 = .ok (.invokevirtual 208, 3) := by decide +kernel
theorem dX9_quota_31 : decode cX9_quota 31 = .ok (.iload_n 2, 1) := by decide +kernel
theorem dX9_quota_32 : decode cX9_quota 32 = .ok (.if_icmp .le 6, 3) := by decide +kernel
theorem dX9_quota_35 : decode cX9_quota 35 = .ok (.bipush (-5), 2) := by decide +kernel
theorem dX9_quota_37 : decode cX9_quota 37 = .ok (.ireturn, 1) := by decide +kernel
theorem dX9_quota_38 : decode cX9_quota 38 = .ok (.aload_n 0, 1) := by decide +kernel
theorem dX9_quota_39 : decode cX9_quota 39 = .ok (.getfield 10, 3) := by decide +kernel
theorem dX9_quota_42 : decode cX9_quota 42 = .ok (.getfield 211, 3) := by decide +kernel
theorem dX9_quota_45 : decode cX9_quota 45 = .ok (.iload_n 1, 1) := by decide +kernel
theorem dX9_quota_46 : decode cX9_quota 46 = .ok (.iaload, 1) := by decide +kernel
theorem dX9_quota_47 : decode cX9_quota 47 = .ok (.istore_n 3, 1) := by decide +kernel
theorem dX9_quota_48 : decode cX9_quota 48 = .ok (.aload_n 0, 1) := by decide +kernel
theorem dX9_quota_49 : decode cX9_quota 49 = .ok (.getfield 10, 3) := by decide +kernel
theorem dX9_quota_52 : decode cX9_quota 52 = .ok (.getfield 211, 3) := by decide +kernel
theorem dX9_quota_55 : decode cX9_quota 55 = .ok (.iload_n 1, 1) := by decide +kernel
theorem dX9_quota_56 : decode cX9_quota 56 = .ok (.iload_n 2, 1) := by decide +kernel
theorem dX9_quota_57 : decode cX9_quota 57 = .ok (.iastore, 1) := by decide +kernel
theorem dX9_quota_58 : decode cX9_quota 58 = .ok (.iload_n 3, 1) := by decide +kernel
theorem dX9_quota_59 : decode cX9_quota 59 = .ok (.ireturn, 1) := by decide +kernel
theorem dX9_owner_0 : decode cX9_owner 0 = .ok (.iload_n 1, 1) := by decide +kernel
theorem dX9_owner_1 : decode cX9_owner 1 = .ok (.invokestatic 74, 3) := by decide +kernel
theorem dX9_owner_4 : decode cX9_owner 4 = .ok (.ifCond .ne 5, 3) := by decide +kernel
theorem dX9_owner_7 : decode cX9_owner 7 = .ok (.iconst (-1), 1) := by decide +kernel
theorem dX9_owner_8 : decode cX9_owner 8 = .ok (.ireturn, 1) := by decide +kernel
theorem dX9_owner_9 : decode cX9_owner 9 = .ok (.iload_n 2, 1) := by decide +kernel
theorem dX9_owner_10 : decode cX9_owner 10 = .ok (.tableswitch 70 0 3 #[30, 42, 52, 58], 30) := by decide +kernel
theorem dX9_owner_40 : decode cX9_owner 40 = .ok (.aload_n 0, 1) := by decide +kernel
theorem dX9_owner_41 : decode cX9_owner 41 = .ok (.getfield 10, 3) := by decide +kernel
theorem dX9_owner_44 : decode cX9_owner 44 = .ok (.getfield 81, 3) := by decide +kernel
theorem dX9_owner_47 : decode cX9_owner 47 = .ok (.iload_n 1, 1) := by decide +kernel
theorem dX9_owner_48 : decode cX9_owner 48 = .ok (.invokevirtual 208, 3) := by decide +kernel
theorem dX9_owner_51 : decode cX9_owner 51 = .ok (.ireturn, 1) := by decide +kernel
theorem dX9_owner_52 : decode cX9_owner 52 = .ok (.aload_n 0, 1) := by decide +kernel
theorem dX9_owner_53 : decode cX9_owner 53 = .ok (.getfield 10, 3) := by decide +kernel
theorem dX9_owner_56 : decode cX9_owner 56 = .ok (.getfield 211, 3) := by decide +kernel
theorem dX9_owner_59 : decode cX9_owner 59 = .ok (.iload_n 1, 1) := by decide +kernel
theorem dX9_owner_60 : decode cX9_owner 60 = .ok (.iaload, 1) := by decide +kernel
theorem dX9_owner_61 : decode cX9_owner 61 = .ok (.ireturn, 1) := by decide +kernel
theorem dX9_owner_62 : decode cX9_owner 62 = .ok (.aload_n 0, 1) := by decide +kernel
theorem dX9_owner_63 : decode cX9_owner 63 = .ok (.iload_n 1, 1) := by decide +kernel
theorem dX9_owner_64 : decode cX9_owner 64 = .ok (.invokevirtual 214, 3) := by decide +kernel
theorem dX9_owner_67 : decode cX9_owner 67 = .ok (.ireturn, 1) := by decide +kernel
theorem dX9_owner_68 : decode cX9_owner 68 = .ok (.aload_n 0, 1) := by decide +kernel
theorem dX9_owner_69 : decode cX9_owner 69 = .ok (.getfield 10, 3) := by decide +kernel
theorem dX9_owner_72 : decode cX9_owner 72 = .ok (.getfield 81, 3) := by decide +kernel
theorem dX9_owner_75 : decode cX9_owner 75 = .ok (.iload_n 1, 1) := by decide +kernel
theorem dX9_owner_76 : decode cX9_owner 76 = .ok (.invokevirtual 217, 3) := by decide +kernel
theorem dX9_owner_79 : decode cX9_owner 79 = .ok (.ireturn, 1) := by decide +kernel
theorem dX9_owner_80 : decode cX9_owner 80 = .ok (.iconst (-1), 1) := by decide +kernel
theorem dX9_owner_81 : decode cX9_owner 81 = .ok (.ireturn, 1) := by decide +kernel
theorem dX9_enter_0 : decode cX9_enter 0 = .ok (.iload_n 1, 1) := by decide +kernel
theorem dX9_enter_1 : decode cX9_enter 1 = .ok (.invokestatic 139, 3) := by decide +kernel
theorem dX9_enter_4 : decode cX9_enter 4 = .ok (.ifCond .ne 5, 3) := by decide +kernel
theorem dX9_enter_7 : decode cX9_enter 7 = .ok (.iconst (-1), 1) := by decide +kernel
theorem dX9_enter_8 : decode cX9_enter 8 = .ok (.ireturn, 1) := by decide +kernel
theorem dX9_enter_9 : decode cX9_enter 9 = .ok (.aload_n 0, 1) := by decide +kernel
theorem dX9_enter_10 : decode cX9_enter 10 = .ok (.getfield 10, 3) := by decide +kernel
theorem dX9_enter_13 : decode cX9_enter 13 = .ok (.getfield 142, 3) := by decide +kernel
theorem dX9_enter_16 : decode cX9_enter 16 = .ok (.iload_n 1, 1) := by decide +kernel
theorem dX9_enter_17 : decode cX9_enter 17 = .ok (.iaload, 1) := by decide +kernel
theorem dX9_enter_18 : decode cX9_enter 18 = .ok (.iconst (-1), 1) := by decide +kernel
theorem dX9_enter_19 : decode cX9_enter 19 = .ok (.if_icmp .eq 6, 3) := by decide +kernel
theorem dX9_enter_22 : decode cX9_enter 22 = .ok (.bipush (-5), 2) := by decide +kernel
theorem dX9_enter_24 : decode cX9_enter 24 = .ok (.ireturn, 1) := by decide +kernel
theorem dX9_enter_25 : decode cX9_enter 25 = .ok (.aload_n 0, 1) := by decide +kernel
theorem dX9_enter_26 : decode cX9_enter 26 = .ok (.getfield 10, 3) := by decide +kernel
theorem dX9_enter_29 : decode cX9_enter 29 = .ok (.getfield 142, 3) := by decide +kernel
theorem dX9_enter_32 : decode cX9_enter 32 = .ok (.iload_n 1, 1) := by decide +kernel
theorem dX9_enter_33 : decode cX9_enter 33 = .ok (.aload_n 0, 1) := by decide +kernel
theorem dX9_enter_34 : decode cX9_enter 34 = .ok (.getfield 10, 3) := by decide +kernel
theorem dX9_enter_37 : decode cX9_enter 37 = .ok (.getfield 113, 3) := by decide +kernel
theorem dX9_enter_40 : decode cX9_enter 40 = .ok (.iastore, 1) := by decide +kernel
theorem dX9_enter_41 : decode cX9_enter 41 = .ok (.aload_n 0, 1) := by decide +kernel
theorem dX9_enter_42 : decode cX9_enter 42 = .ok (.getfield 10, 3) := by decide +kernel
theorem dX9_enter_45 : decode cX9_enter 45 = .ok (.getfield 113, 3) := by decide +kernel
theorem dX9_enter_48 : decode cX9_enter 48 = .ok (.ireturn, 1) := by decide +kernel
theorem dX9_leave_0 : decode cX9_leave 0 = .ok (.iload_n 1, 1) := by decide +kernel
theorem dX9_leave_1 : decode cX9_leave 1 = .ok (.invokestatic 139, 3) := by decide +kernel
theorem dX9_leave_4 : decode cX9_leave 4 = .ok (.ifCond .ne 5, 3) := by decide +kernel
theorem dX9_leave_7 : decode cX9_leave 7 = .ok (.iconst (-1), 1) := by decide +kernel
theorem dX9_leave_8 : decode cX9_leave 8 = .ok (.ireturn, 1) := by decide +kernel
theorem dX9_leave_9 : decode cX9_leave 9 = .ok (.aload_n 0, 1) := by decide +kernel
theorem dX9_leave_10 : decode cX9_leave 10 = .ok (.getfield 10, 3) := by decide +kernel
theorem dX9_leave_13 : decode cX9_leave 13 = .ok (.getfield 142, 3) := by decide +kernel
theorem dX9_leave_16 : decode cX9_leave 16 = .ok (.iload_n 1, 1) := by decide +kernel
theorem dX9_leave_17 : decode cX9_leave 17 = .ok (.iaload, 1) := by decide +kernel
theorem dX9_leave_18 : decode cX9_leave 18 = .ok (.istore_n 2, 1) := by decide +kernel
theorem dX9_leave_19 : decode cX9_leave 19 = .ok (.iload_n 2, 1) := by decide +kernel
theorem dX9_leave_20 : decode cX9_leave 20 = .ok (.iconst (-1), 1) := by decide +kernel
theorem dX9_leave_21 : decode cX9_leave 21 = .ok (.if_icmp .ne 6, 3) := by decide +kernel
theorem dX9_leave_24 : decode cX9_leave 24 = .ok (.bipush (-5), 2) := by decide +kernel
theorem dX9_leave_26 : decode cX9_leave 26 = .ok (.ireturn, 1) := by decide +kernel
theorem dX9_leave_27 : decode cX9_leave 27 = .ok (.aload_n 0, 1) := by decide +kernel
theorem dX9_leave_28 : decode cX9_leave 28 = .ok (.getfield 10, 3) := by decide +kernel
theorem dX9_leave_31 : decode cX9_leave 31 = .ok (.getfield 142, 3) := by decide +kernel
theorem dX9_leave_34 : decode cX9_leave 34 = .ok (.iload_n 1, 1) := by decide +kernel
theorem dX9_leave_35 : decode cX9_leave 35 = .ok (.iconst (-1), 1) := by decide +kernel
theorem dX9_leave_36 : decode cX9_leave 36 = .ok (.iastore, 1) := by decide +kernel
theorem dX9_leave_37 : decode cX9_leave 37 = .ok (.iload_n 2, 1) := by decide +kernel
theorem dX9_leave_38 : decode cX9_leave 38 = .ok (.ireturn, 1) := by decide +kernel
theorem dX9_advance_0 : decode cX9_advance 0 = .ok (.aload_n 0, 1) := by decide +kernel
theorem dX9_advance_1 : decode cX9_advance 1 = .ok (.getfield 10, 3) := by decide +kernel
theorem dX9_advance_4 : decode cX9_advance 4 = .ok (.dup, 1) := by decide +kernel
theorem dX9_advance_5 : decode cX9_advance 5 = .ok (.getfield 113, 3) := by decide +kernel
theorem dX9_advance_8 : decode cX9_advance 8 = .ok (.iconst 1, 1) := by decide +kernel
theorem dX9_advance_9 : decode cX9_advance 9 = .ok (.iadd, 1) := by decide +kernel
theorem dX9_advance_10 : decode cX9_advance 10 = .ok (.putfield 113, 3) := by decide +kernel
theorem dX9_advance_13 : decode cX9_advance 13 = .ok (.aload_n 0, 1) := by decide +kernel
theorem dX9_advance_14 : decode cX9_advance 14 = .ok (.getfield 10, 3) := by decide +kernel
theorem dX9_advance_17 : decode cX9_advance 17 = .ok (.invokevirtual 220, 3) := by decide +kernel
theorem dX9_advance_20 : decode cX9_advance 20 = .ok (.ireturn, 1) := by decide +kernel
theorem dX9_would_0 : decode cX9_would 0 = .ok (.aload_n 0, 1) := by decide +kernel
theorem dX9_would_1 : decode cX9_would 1 = .ok (.getfield 10, 3) := by decide +kernel
theorem dX9_would_4 : decode cX9_would 4 = .ok (.getfield 57, 3) := by decide +kernel
theorem dX9_would_7 : decode cX9_would 7 = .ok (.iload_n 1, 1) := by decide +kernel
theorem dX9_would_8 : decode cX9_would 8 = .ok (.invokevirtual 67, 3) := by decide +kernel
theorem dX9_would_11 : decode cX9_would 11 = .ok (.ifCond .ne 5, 3) := by decide +kernel
theorem dX9_would_14 : decode cX9_would 14 = .ok (.iconst (-1), 1) := by decide +kernel
theorem dX9_would_15 : decode cX9_would 15 = .ok (.ireturn, 1) := by decide +kernel
theorem dX9_would_16 : decode cX9_would 16 = .ok (.aload_n 0, 1) := by decide +kernel
theorem dX9_would_17 : decode cX9_would 17 = .ok (.getfield 10, 3) := by decide +kernel
theorem dX9_would_20 : decode cX9_would 20 = .ok (.getfield 57, 3) := by decide +kernel
theorem dX9_would_23 : decode cX9_would 23 = .ok (.getfield 223, 3) := by decide +kernel
theorem dX9_would_26 : decode cX9_would 26 = .ok (.iload_n 1, 1) := by decide +kernel
theorem dX9_would_27 : decode cX9_would 27 = .ok (.iaload, 1) := by decide +kernel
theorem dX9_would_28 : decode cX9_would 28 = .ok (.istore 4, 2) := by decide +kernel
theorem dX9_would_30 : decode cX9_would 30 = .ok (.aload_n 0, 1) := by decide +kernel
theorem dX9_would_31 : decode cX9_would 31 = .ok (.getfield 10, 3) := by decide +kernel
theorem dX9_would_34 : decode cX9_would 34 = .ok (.getfield 57, 3) := by decide +kernel
theorem dX9_would_37 : decode cX9_would 37 = .ok (.iload_n 1, 1) := by decide +kernel
theorem dX9_would_38 : decode cX9_would 38 = .ok (.invokevirtual 224, 3) := by decide +kernel
theorem dX9_would_41 : decode cX9_would 41 = .ok (.istore 5, 2) := by decide +kernel
theorem dX9_would_43 : decode cX9_would 43 = .ok (.iload_n 3, 1) := by decide +kernel
theorem dX9_would_44 : decode cX9_would 44 = .ok (.tableswitch 101 0 3 #[32, 56, 71, 86], 32) := by decide +kernel
theorem dX9_would_76 : decode cX9_would 76 = .ok (.iload_n 2, 1) := by decide +kernel
theorem dX9_would_77 : decode cX9_would 77 = .ok (.invokestatic 71, 3) := by decide +kernel
theorem dX9_would_80 : decode cX9_would 80 = .ok (.ifCond .eq 18, 3) := by decide +kernel
theorem dX9_would_83 : decode cX9_would 83 = .ok (.aload_n 0, 1) := by decide +kernel
theorem dX9_would_84 : decode cX9_would 84 = .ok (.getfield 10, 3) := by decide +kernel
theorem dX9_would_87 : decode cX9_would 87 = .ok (.iload_n 1, 1) := by decide +kernel
theorem dX9_would_88 : decode cX9_would 88 = .ok (.iload_n 2, 1) := by decide +kernel
theorem dX9_would_89 : decode cX9_would 89 = .ok (.invokevirtual 91, 3) := by decide +kernel
theorem dX9_would_92 : decode cX9_would 92 = .ok (.invokestatic 160, 3) := by decide +kernel
theorem dX9_would_95 : decode cX9_would 95 = .ok (.goto 4, 3) := by decide +kernel
theorem dX9_would_98 : decode cX9_would 98 = .ok (.iconst (-1), 1) := by decide +kernel
theorem dX9_would_99 : decode cX9_would 99 = .ok (.ireturn, 1) := by decide +kernel
theorem dX9_would_100 : decode cX9_would 100 = .ok (.aload_n 0, 1) := by decide +kernel
theorem dX9_would_101 : decode cX9_would 101 = .ok (.getfield 10, 3) := by decide +kernel
theorem dX9_would_104 : decode cX9_would 104 = .ok (.getfield 175, 3) := by decide +kernel
theorem dX9_would_107 : decode cX9_would 107 = .ok (.iload 4, 2) := by decide +kernel
theorem dX9_would_109 : decode cX9_would 109 = .ok (.iload 5, 2) := by decide +kernel
theorem dX9_would_111 : decode cX9_would 111 = .ok (.invokevirtual 227, 3) := by decide +kernel
theorem dX9_would_114 : decode cX9_would 114 = .ok (.ireturn, 1) := by decide +kernel
theorem dX9_would_115 : decode cX9_would 115 = .ok (.aload_n 0, 1) := by decide +kernel
theorem dX9_would_116 : decode cX9_would 116 = .ok (.getfield 10, 3) := by decide +kernel
theorem dX9_would_119 : decode cX9_would 119 = .ok (.getfield 175, 3) := by decide +kernel
theorem dX9_would_122 : decode cX9_would 122 = .ok (.iload 4, 2) := by decide +kernel
theorem dX9_would_124 : decode cX9_would 124 = .ok (.iload 5, 2) := by decide +kernel
theorem dX9_would_126 : decode cX9_would 126 = .ok (.invokevirtual 230, 3) := by decide +kernel
theorem dX9_would_129 : decode cX9_would 129 = .ok (.ireturn, 1) := by decide +kernel
theorem dX9_would_130 : decode cX9_would 130 = .ok (.aload_n 0, 1) := by decide +kernel
theorem dX9_would_131 : decode cX9_would 131 = .ok (.getfield 10, 3) := by decide +kernel
theorem dX9_would_134 : decode cX9_would 134 = .ok (.getfield 175, 3) := by decide +kernel
theorem dX9_would_137 : decode cX9_would 137 = .ok (.iload 4, 2) := by decide +kernel
theorem dX9_would_139 : decode cX9_would 139 = .ok (.iload 5, 2) := by decide +kernel
theorem dX9_would_141 : decode cX9_would 141 = .ok (.invokevirtual 233, 3) := by decide +kernel
theorem dX9_would_144 : decode cX9_would 144 = .ok (.ireturn, 1) := by decide +kernel
theorem dX9_would_145 : decode cX9_would 145 = .ok (.iconst (-1), 1) := by decide +kernel
theorem dX9_would_146 : decode cX9_would 146 = .ok (.ireturn, 1) := by decide +kernel
theorem dX9_least_0 : decode cX9_least 0 = .ok (.aload_n 0, 1) := by decide +kernel
theorem dX9_least_1 : decode cX9_least 1 = .ok (.getfield 10, 3) := by decide +kernel
theorem dX9_least_4 : decode cX9_least 4 = .ok (.getfield 57, 3) := by decide +kernel
theorem dX9_least_7 : decode cX9_least 7 = .ok (.iload_n 1, 1) := by decide +kernel
theorem dX9_least_8 : decode cX9_least 8 = .ok (.invokevirtual 67, 3) := by decide +kernel
theorem dX9_least_11 : decode cX9_least 11 = .ok (.ifCond .eq 10, 3) := by decide +kernel
theorem dX9_least_14 : decode cX9_least 14 = .ok (.iload_n 2, 1) := by decide +kernel
theorem dX9_least_15 : decode cX9_least 15 = .ok (.invokestatic 71, 3) := by decide +kernel
theorem dX9_least_18 : decode cX9_least 18 = .ok (.ifCond .ne 5, 3) := by decide +kernel
theorem dX9_least_21 : decode cX9_least 21 = .ok (.iconst (-1), 1) := by decide +kernel
theorem dX9_least_22 : decode cX9_least 22 = .ok (.ireturn, 1) := by decide +kernel
theorem dX9_least_23 : decode cX9_least 23 = .ok (.aload_n 0, 1) := by decide +kernel
theorem dX9_least_24 : decode cX9_least 24 = .ok (.getfield 22, 3) := by decide +kernel
theorem dX9_least_27 : decode cX9_least 27 = .ok (.aload_n 0, 1) := by decide +kernel
theorem dX9_least_28 : decode cX9_least 28 = .ok (.getfield 10, 3) := by decide +kernel
theorem dX9_least_31 : decode cX9_least 31 = .ok (.invokevirtual 236, 3) := by decide +kernel
theorem dX9_least_34 : decode cX9_least 34 = .ok (.aload_n 0, 1) := by decide +kernel
theorem dX9_least_35 : decode cX9_least 35 = .ok (.getfield 22, 3) := by decide +kernel
theorem dX9_least_38 : decode cX9_least 38 = .ok (.iload_n 1, 1) := by decide +kernel
theorem dX9_least_39 : decode cX9_least 39 = .ok (.iload_n 2, 1) := by decide +kernel
theorem dX9_least_40 : decode cX9_least 40 = .ok (.invokevirtual 240, 3) := by decide +kernel
theorem dX9_least_43 : decode cX9_least 43 = .ok (.invokestatic 160, 3) := by decide +kernel
theorem dX9_least_46 : decode cX9_least 46 = .ok (.ireturn, 1) := by decide +kernel
theorem dX9_leaked_0 : decode cX9_leaked 0 = .ok (.iload_n 1, 1) := by decide +kernel
theorem dX9_leaked_1 : decode cX9_leaked 1 = .ok (.iconst (-1), 1) := by decide +kernel
theorem dX9_leaked_2 : decode cX9_leaked 2 = .ok (.if_icmp .ge 5, 3) := by decide +kernel
theorem dX9_leaked_5 : decode cX9_leaked 5 = .ok (.iconst (-1), 1) := by decide +kernel
theorem dX9_leaked_6 : decode cX9_leaked 6 = .ok (.ireturn, 1) := by decide +kernel
theorem dX9_leaked_7 : decode cX9_leaked 7 = .ok (.aload_n 0, 1) := by decide +kernel
theorem dX9_leaked_8 : decode cX9_leaked 8 = .ok (.getfield 28, 3) := by decide +kernel
theorem dX9_leaked_11 : decode cX9_leaked 11 = .ok (.aload_n 0, 1) := by decide +kernel
theorem dX9_leaked_12 : decode cX9_leaked 12 = .ok (.getfield 10, 3) := by decide +kernel
theorem dX9_leaked_15 : decode cX9_leaked 15 = .ok (.invokevirtual 243, 3) := by decide +kernel
theorem dX9_leaked_18 : decode cX9_leaked 18 = .ok (.iconst 0, 1) := by decide +kernel
theorem dX9_leaked_19 : decode cX9_leaked 19 = .ok (.istore_n 2, 1) := by decide +kernel
theorem dX9_leaked_20 : decode cX9_leaked 20 = .ok (.iconst 0, 1) := by decide +kernel
theorem dX9_leaked_21 : decode cX9_leaked 21 = .ok (.istore_n 3, 1) := by decide +kernel
theorem dX9_leaked_22 : decode cX9_leaked 22 = .ok (.iload_n 3, 1) := by decide +kernel
theorem dX9_leaked_23 : decode cX9_leaked 23 = .ok (.bipush 30, 2) := by decide +kernel
theorem dX9_leaked_25 : decode cX9_leaked 25 = .ok (.if_icmp .ge 30, 3) := by decide +kernel
theorem dX9_leaked_28 : decode cX9_leaked 28 = .ok (.aload_n 0, 1) := by decide +kernel
theorem dX9_leaked_29 : decode cX9_leaked 29 = .ok (.iload_n 3, 1) := by decide +kernel
theorem dX9_leaked_30 : decode cX9_leaked 30 = .ok (.invokevirtual 246, 3) := by decide +kernel
theorem dX9_leaked_33 : decode cX9_leaked 33 = .ok (.ifCond .ne 6, 3) := by decide +kernel
theorem dX9_leaked_36 : decode cX9_leaked 36 = .ok (.goto 13, 3) := by decide +kernel
theorem dX9_leaked_39 : decode cX9_leaked 39 = .ok (.iload_n 2, 1) := by decide +kernel
theorem dX9_leaked_40 : decode cX9_leaked 40 = .ok (.iload_n 1, 1) := by decide +kernel
theorem dX9_leaked_41 : decode cX9_leaked 41 = .ok (.if_icmp .ne 5, 3) := by decide +kernel
theorem dX9_leaked_44 : decode cX9_leaked 44 = .ok (.iload_n 3, 1) := by decide +kernel
theorem dX9_leaked_45 : decode cX9_leaked 45 = .ok (.ireturn, 1) := by decide +kernel
theorem dX9_leaked_46 : decode cX9_leaked 46 = .ok (.iinc 2 1, 3) := by decide +kernel
theorem dX9_leaked_49 : decode cX9_leaked 49 = .ok (.iinc 3 1, 3) := by decide +kernel
theorem dX9_leaked_52 : decode cX9_leaked 52 = .ok (.goto (-30), 3) := by decide +kernel
theorem dX9_leaked_55 : decode cX9_leaked 55 = .ok (.iload_n 1, 1) := by decide +kernel
theorem dX9_leaked_56 : decode cX9_leaked 56 = .ok (.iconst (-1), 1) := by decide +kernel
theorem dX9_leaked_57 : decode cX9_leaked 57 = .ok (.if_icmp .ne 7, 3) := by decide +kernel
theorem dX9_leaked_60 : decode cX9_leaked 60 = .ok (.iload_n 2, 1) := by decide +kernel
theorem dX9_leaked_61 : decode cX9_leaked 61 = .ok (.goto 5, 3) := by decide +kernel
theorem dX9_leaked_64 : decode cX9_leaked 64 = .ok (.bipush (-2), 2) := by decide +kernel
theorem dX9_leaked_66 : decode cX9_leaked 66 = .ok (.ireturn, 1) := by decide +kernel
theorem dX9_path_0 : decode cX9_path 0 = .ok (.aload_n 0, 1) := by decide +kernel
theorem dX9_path_1 : decode cX9_path 1 = .ok (.getfield 10, 3) := by decide +kernel
theorem dX9_path_4 : decode cX9_path 4 = .ok (.getfield 81, 3) := by decide +kernel
theorem dX9_path_7 : decode cX9_path 7 = .ok (.iload_n 1, 1) := by decide +kernel
theorem dX9_path_8 : decode cX9_path 8 = .ok (.invokevirtual 102, 3) := by decide +kernel
theorem dX9_path_11 : decode cX9_path 11 = .ok (.istore_n 3, 1) := by decide +kernel
theorem dX9_path_12 : decode cX9_path 12 = .ok (.aload_n 0, 1) := by decide +kernel
theorem dX9_path_13 : decode cX9_path 13 = .ok (.getfield 10, 3) := by decide +kernel
theorem dX9_path_16 : decode cX9_path 16 = .ok (.getfield 81, 3) := by decide +kernel
theorem dX9_path_19 : decode cX9_path 19 = .ok (.iload_n 2, 1) := by decide +kernel
theorem dX9_path_20 : decode cX9_path 20 = .ok (.invokevirtual 102, 3) := by decide +kernel
theorem dX9_path_23 : decode cX9_path 23 = .ok (.istore 4, 2) := by decide +kernel
theorem dX9_path_25 : decode cX9_path 25 = .ok (.iload_n 3, 1) := by decide +kernel
theorem dX9_path_26 : decode cX9_path 26 = .ok (.iconst (-1), 1) := by decide +kernel
theorem dX9_path_27 : decode cX9_path 27 = .ok (.if_icmp .eq 9, 3) := by decide +kernel
theorem dX9_path_30 : decode cX9_path 30 = .ok (.iload 4, 2) := by decide +kernel
theorem dX9_path_32 : decode cX9_path 32 = .ok (.iconst (-1), 1) := by decide +kernel
theorem dX9_path_33 : decode cX9_path 33 = .ok (.if_icmp .ne 6, 3) := by decide +kernel
theorem dX9_path_36 : decode cX9_path 36 = .ok (.bipush (-4), 2) := by decide +kernel
theorem dX9_path_38 : decode cX9_path 38 = .ok (.ireturn, 1) := by decide +kernel
theorem dX9_path_39 : decode cX9_path 39 = .ok (.aload_n 0, 1) := by decide +kernel
theorem dX9_path_40 : decode cX9_path 40 = .ok (.getfield 28, 3) := by decide +kernel
theorem dX9_path_43 : decode cX9_path 43 = .ok (.aload_n 0, 1) := by decide +kernel
theorem dX9_path_44 : decode cX9_path 44 = .ok (.getfield 10, 3) := by decide +kernel
theorem dX9_path_47 : decode cX9_path 47 = .ok (.iload_n 3, 1) := by decide +kernel
theorem dX9_path_48 : decode cX9_path 48 = .ok (.invokevirtual 249, 3) := by decide +kernel
theorem dX9_path_51 : decode cX9_path 51 = .ok (.aload_n 0, 1) := by decide +kernel
theorem dX9_path_52 : decode cX9_path 52 = .ok (.getfield 28, 3) := by decide +kernel
theorem dX9_path_55 : decode cX9_path 55 = .ok (.getfield 253, 3) := by decide +kernel
theorem dX9_path_58 : decode cX9_path 58 = .ok (.iload 4, 2) := by decide +kernel
theorem dX9_path_60 : decode cX9_path 60 = .ok (.iaload, 1) := by decide +kernel
theorem dX9_path_61 : decode cX9_path 61 = .ok (.invokestatic 160, 3) := by decide +kernel
theorem dX9_path_64 : decode cX9_path 64 = .ok (.ireturn, 1) := by decide +kernel
theorem dX9_epochs_0 : decode cX9_epochs 0 = .ok (.iload_n 1, 1) := by decide +kernel
theorem dX9_epochs_1 : decode cX9_epochs 1 = .ok (.tableswitch 54 0 2 #[27, 35, 46], 27) := by decide +kernel
theorem dX9_epochs_28 : decode cX9_epochs 28 = .ok (.aload_n 0, 1) := by decide +kernel
theorem dX9_epochs_29 : decode cX9_epochs 29 = .ok (.getfield 10, 3) := by decide +kernel
theorem dX9_epochs_32 : decode cX9_epochs 32 = .ok (.invokevirtual 256, 3) := by decide +kernel
theorem dX9_epochs_35 : decode cX9_epochs 35 = .ok (.ireturn, 1) := by decide +kernel
theorem dX9_epochs_36 : decode cX9_epochs 36 = .ok (.aload_n 0, 1) := by decide +kernel
theorem dX9_epochs_37 : decode cX9_epochs 37 = .ok (.getfield 10, 3) := by decide +kernel
theorem dX9_epochs_40 : decode cX9_epochs 40 = .ok (.invokevirtual 259, 3) := by decide +kernel
theorem dX9_epochs_43 : decode cX9_epochs 43 = .ok (.invokestatic 160, 3) := by decide +kernel
theorem dX9_epochs_46 : decode cX9_epochs 46 = .ok (.ireturn, 1) := by decide +kernel
theorem dX9_epochs_47 : decode cX9_epochs 47 = .ok (.aload_n 0, 1) := by decide +kernel
theorem dX9_epochs_48 : decode cX9_epochs 48 = .ok (.getfield 10, 3) := by decide +kernel
theorem dX9_epochs_51 : decode cX9_epochs 51 = .ok (.invokevirtual 262, 3) := by decide +kernel
theorem dX9_epochs_54 : decode cX9_epochs 54 = .ok (.ireturn, 1) := by decide +kernel
theorem dX9_epochs_55 : decode cX9_epochs 55 = .ok (.iconst (-1), 1) := by decide +kernel
theorem dX9_epochs_56 : decode cX9_epochs 56 = .ok (.ireturn, 1) := by decide +kernel
theorem dX9_plan_0 : decode cX9_plan 0 = .ok (.iload_n 1, 1) := by decide +kernel
theorem dX9_plan_1 : decode cX9_plan 1 = .ok (.invokestatic 265, 3) := by decide +kernel
theorem dX9_plan_4 : decode cX9_plan 4 = .ok (.ifCond .eq 17, 3) := by decide +kernel
theorem dX9_plan_7 : decode cX9_plan 7 = .ok (.aload_n 0, 1) := by decide +kernel
theorem dX9_plan_8 : decode cX9_plan 8 = .ok (.getfield 10, 3) := by decide +kernel
theorem dX9_plan_11 : decode cX9_plan 11 = .ok (.getfield 57, 3) := by decide +kernel
theorem dX9_plan_14 : decode cX9_plan 14 = .ok (.iload_n 2, 1) := by decide +kernel
theorem dX9_plan_15 : decode cX9_plan 15 = .ok (.invokevirtual 67, 3) := by decide +kernel
theorem dX9_plan_18 : decode cX9_plan 18 = .ok (.ifCond .ne 5, 3) := by decide +kernel
theorem dX9_plan_21 : decode cX9_plan 21 = .ok (.iconst (-1), 1) := by decide +kernel
theorem dX9_plan_22 : decode cX9_plan 22 = .ok (.ireturn, 1) := by decide +kernel
theorem dX9_plan_23 : decode cX9_plan 23 = .ok (.aload_n 0, 1) := by decide +kernel
theorem dX9_plan_24 : decode cX9_plan 24 = .ok (.getfield 49, 3) := by decide +kernel
theorem dX9_plan_27 : decode cX9_plan 27 = .ok (.iload_n 1, 1) := by decide +kernel
theorem dX9_plan_28 : decode cX9_plan 28 = .ok (.invokevirtual 268, 3) := by decide +kernel
theorem dX9_plan_31 : decode cX9_plan 31 = .ok (.istore_n 3, 1) := by decide +kernel
theorem dX9_plan_32 : decode cX9_plan 32 = .ok (.iload_n 3, 1) := by decide +kernel
theorem dX9_plan_33 : decode cX9_plan 33 = .ok (.ifCond .eq 5, 3) := by decide +kernel
theorem dX9_plan_36 : decode cX9_plan 36 = .ok (.iload_n 3, 1) := by decide +kernel
theorem dX9_plan_37 : decode cX9_plan 37 = .ok (.ireturn, 1) := by decide +kernel
theorem dX9_plan_38 : decode cX9_plan 38 = .ok (.aload_n 0, 1) := by decide +kernel
theorem dX9_plan_39 : decode cX9_plan 39 = .ok (.getfield 22, 3) := by decide +kernel
theorem dX9_plan_42 : decode cX9_plan 42 = .ok (.getfield 175, 3) := by decide +kernel
theorem dX9_plan_45 : decode cX9_plan 45 = .ok (.aload_n 0, 1) := by decide +kernel
theorem dX9_plan_46 : decode cX9_plan 46 = .ok (.getfield 10, 3) := by decide +kernel
theorem dX9_plan_49 : decode cX9_plan 49 = .ok (.getfield 175, 3) := by decide +kernel
theorem dX9_plan_52 : decode cX9_plan 52 = .ok (.invokevirtual 271, 3) := by decide +kernel
theorem dX9_plan_55 : decode cX9_plan 55 = .ok (.aload_n 0, 1) := by decide +kernel
theorem dX9_plan_56 : decode cX9_plan 56 = .ok (.getfield 35, 3) := by decide +kernel
theorem dX9_plan_59 : decode cX9_plan 59 = .ok (.iconst 0, 1) := by decide +kernel
theorem dX9_plan_60 : decode cX9_plan 60 = .ok (.putfield 274, 3) := by decide +kernel
theorem dX9_plan_63 : decode cX9_plan 63 = .ok (.iconst 0, 1) := by decide +kernel
theorem dX9_plan_64 : decode cX9_plan 64 = .ok (.istore 4, 2) := by decide +kernel
theorem dX9_plan_66 : decode cX9_plan 66 = .ok (.iload 4, 2) := by decide +kernel
theorem dX9_plan_68 : decode cX9_plan 68 = .ok (.aload_n 0, 1) := by decide +kernel
theorem dX9_plan_69 : decode cX9_plan 69 = .ok (.getfield 49, 3) := by decide +kernel
theorem dX9_plan_72 : decode cX9_plan 72 = .ok (.getfield 275, 3) := by decide +kernel
theorem dX9_plan_75 : decode cX9_plan 75 = .ok (.iload_n 1, 1) := by decide +kernel
theorem dX9_plan_76 : decode cX9_plan 76 = .ok (.iaload, 1) := by decide +kernel
theorem dX9_plan_77 : decode cX9_plan 77 = .ok (.if_icmp .ge 30, 3) := by decide +kernel
theorem dX9_plan_80 : decode cX9_plan 80 = .ok (.aload_n 0, 1) := by decide +kernel
theorem dX9_plan_81 : decode cX9_plan 81 = .ok (.aload_n 0, 1) := by decide +kernel
theorem dX9_plan_82 : decode cX9_plan 82 = .ok (.getfield 49, 3) := by decide +kernel
theorem dX9_plan_85 : decode cX9_plan 85 = .ok (.iload_n 1, 1) := by decide +kernel
theorem dX9_plan_86 : decode cX9_plan 86 = .ok (.iload 4, 2) := by decide +kernel
theorem dX9_plan_88 : decode cX9_plan 88 = .ok (.invokevirtual 276, 3) := by decide +kernel
theorem dX9_plan_91 : decode cX9_plan 91 = .ok (.iload_n 2, 1) := by decide +kernel
theorem dX9_plan_92 : decode cX9_plan 92 = .ok (.invokevirtual 279, 3) := by decide +kernel
theorem dX9_plan_95 : decode cX9_plan 95 = .ok (.ifCond .ne 6, 3) := by decide +kernel
theorem dX9_plan_98 : decode cX9_plan 98 = .ok (.iload 4, 2) := by decide +kernel
theorem dX9_plan_100 : decode cX9_plan 100 = .ok (.ireturn, 1) := by decide +kernel
theorem dX9_plan_101 : decode cX9_plan 101 = .ok (.iinc 4 1, 3) := by decide +kernel
theorem dX9_plan_104 : decode cX9_plan 104 = .ok (.goto (-38), 3) := by decide +kernel
theorem dX9_plan_107 : decode cX9_plan 107 = .ok (.bipush (-2), 2) := by decide +kernel
theorem dX9_plan_109 : decode cX9_plan 109 = .ok (.ireturn, 1) := by decide +kernel
theorem dX9_told_0 : decode cX9_told 0 = .ok (.iload_n 1, 1) := by decide +kernel
theorem dX9_told_1 : decode cX9_told 1 = .ok (.invokestatic 265, 3) := by decide +kernel
theorem dX9_told_4 : decode cX9_told 4 = .ok (.ifCond .ne 5, 3) := by decide +kernel
theorem dX9_told_7 : decode cX9_told 7 = .ok (.iconst (-1), 1) := by decide +kernel
theorem dX9_told_8 : decode cX9_told 8 = .ok (.ireturn, 1) := by decide +kernel
theorem dX9_told_9 : decode cX9_told 9 = .ok (.aload_n 0, 1) := by decide +kernel
theorem dX9_told_10 : decode cX9_told 10 = .ok (.getfield 49, 3) := by decide +kernel
theorem dX9_told_13 : decode cX9_told 13 = .ok (.iload_n 1, 1) := by decide +kernel
theorem dX9_told_14 : decode cX9_told 14 = .ok (.invokevirtual 268, 3) := by decide +kernel
theorem dX9_told_17 : decode cX9_told 17 = .ok (.istore_n 3, 1) := by decide +kernel
theorem dX9_told_18 : decode cX9_told 18 = .ok (.iload_n 3, 1) := by decide +kernel
theorem dX9_told_19 : decode cX9_told 19 = .ok (.ifCond .eq 5, 3) := by decide +kernel
theorem dX9_told_22 : decode cX9_told 22 = .ok (.iload_n 3, 1) := by decide +kernel
theorem dX9_told_23 : decode cX9_told 23 = .ok (.ireturn, 1) := by decide +kernel
theorem dX9_told_24 : decode cX9_told 24 = .ok (.aload_n 0, 1) := by decide +kernel
theorem dX9_told_25 : decode cX9_told 25 = .ok (.getfield 10, 3) := by decide +kernel
theorem dX9_told_28 : decode cX9_told 28 = .ok (.getfield 81, 3) := by decide +kernel
theorem dX9_told_31 : decode cX9_told 31 = .ok (.iload_n 2, 1) := by decide +kernel
theorem dX9_told_32 : decode cX9_told 32 = .ok (.invokevirtual 102, 3) := by decide +kernel
theorem dX9_told_35 : decode cX9_told 35 = .ok (.istore 4, 2) := by decide +kernel
theorem dX9_told_37 : decode cX9_told 37 = .ok (.iload 4, 2) := by decide +kernel
theorem dX9_told_39 : decode cX9_told 39 = .ok (.iconst (-1), 1) := by decide +kernel
theorem dX9_told_40 : decode cX9_told 40 = .ok (.if_icmp .ne 6, 3) := by decide +kernel
theorem dX9_told_43 : decode cX9_told 43 = .ok (.bipush (-4), 2) := by decide +kernel
theorem dX9_told_45 : decode cX9_told 45 = .ok (.ireturn, 1) := by decide +kernel
theorem dX9_told_46 : decode cX9_told 46 = .ok (.aload_n 0, 1) := by decide +kernel
theorem dX9_told_47 : decode cX9_told 47 = .ok (.getfield 49, 3) := by decide +kernel
theorem dX9_told_50 : decode cX9_told 50 = .ok (.getfield 275, 3) := by decide +kernel
theorem dX9_told_53 : decode cX9_told 53 = .ok (.iload_n 1, 1) := by decide +kernel
theorem dX9_told_54 : decode cX9_told 54 = .ok (.iaload, 1) := by decide +kernel
theorem dX9_told_55 : decode cX9_told 55 = .ok (.istore 5, 2) := by decide +kernel
theorem dX9_told_57 : decode cX9_told 57 = .ok (.iconst 0, 1) := by decide +kernel
theorem dX9_told_58 : decode cX9_told 58 = .ok (.istore 6, 2) := by decide +kernel
theorem dX9_told_60 : decode cX9_told 60 = .ok (.iload 6, 2) := by decide +kernel
theorem dX9_told_62 : decode cX9_told 62 = .ok (.iload 5, 2) := by decide +kernel
theorem dX9_told_64 : decode cX9_told 64 = .ok (.if_icmp .ge 54, 3) := by decide +kernel
theorem dX9_told_67 : decode cX9_told 67 = .ok (.aload_n 0, 1) := by decide +kernel
theorem dX9_told_68 : decode cX9_told 68 = .ok (.getfield 10, 3) := by decide +kernel
theorem dX9_told_71 : decode cX9_told 71 = .ok (.iload 4, 2) := by decide +kernel
theorem dX9_told_73 : decode cX9_told 73 = .ok (.iload 6, 2) := by decide +kernel
theorem dX9_told_75 : decode cX9_told 75 = .ok (.invokevirtual 132, 3) := by decide +kernel
theorem dX9_told_78 : decode cX9_told 78 = .ok (.istore 7, 2) := by decide +kernel
theorem dX9_told_80 : decode cX9_told 80 = .ok (.iload 7, 2) := by decide +kernel
theorem dX9_told_82 : decode cX9_told 82 = .ok (.iconst (-1), 1) := by decide +kernel
theorem dX9_told_83 : decode cX9_told 83 = .ok (.if_icmp .eq 26, 3) := by decide +kernel
theorem dX9_told_86 : decode cX9_told 86 = .ok (.aload_n 0, 1) := by decide +kernel
theorem dX9_told_87 : decode cX9_told 87 = .ok (.getfield 10, 3) := by decide +kernel
theorem dX9_told_90 : decode cX9_told 90 = .ok (.getfield 136, 3) := by decide +kernel
theorem dX9_told_93 : decode cX9_told 93 = .ok (.iload 7, 2) := by decide +kernel
theorem dX9_told_95 : decode cX9_told 95 = .ok (.iaload, 1) := by decide +kernel
theorem dX9_told_96 : decode cX9_told 96 = .ok (.aload_n 0, 1) := by decide +kernel
theorem dX9_told_97 : decode cX9_told 97 = .ok (.getfield 49, 3) := by decide +kernel
theorem dX9_told_100 : decode cX9_told 100 = .ok (.iload_n 1, 1) := by decide +kernel
theorem dX9_told_101 : decode cX9_told 101 = .ok (.iload 6, 2) := by decide +kernel
theorem dX9_told_103 : decode cX9_told 103 = .ok (.invokevirtual 276, 3) := by decide +kernel
theorem dX9_told_106 : decode cX9_told 106 = .ok (.if_icmp .eq 6, 3) := by decide +kernel
theorem dX9_told_109 : decode cX9_told 109 = .ok (.iload 6, 2) := by decide +kernel
theorem dX9_told_111 : decode cX9_told 111 = .ok (.ireturn, 1) := by decide +kernel
theorem dX9_told_112 : decode cX9_told 112 = .ok (.iinc 6 1, 3) := by decide +kernel
theorem dX9_told_115 : decode cX9_told 115 = .ok (.goto (-55), 3) := by decide +kernel
theorem dX9_told_118 : decode cX9_told 118 = .ok (.iload 5, 2) := by decide +kernel
theorem dX9_told_120 : decode cX9_told 120 = .ok (.aload_n 0, 1) := by decide +kernel
theorem dX9_told_121 : decode cX9_told 121 = .ok (.getfield 10, 3) := by decide +kernel
theorem dX9_told_124 : decode cX9_told 124 = .ok (.getfield 81, 3) := by decide +kernel
theorem dX9_told_127 : decode cX9_told 127 = .ok (.getfield 120, 3) := by decide +kernel
theorem dX9_told_130 : decode cX9_told 130 = .ok (.iload 4, 2) := by decide +kernel
theorem dX9_told_132 : decode cX9_told 132 = .ok (.iaload, 1) := by decide +kernel
theorem dX9_told_133 : decode cX9_told 133 = .ok (.if_icmp .ge 8, 3) := by decide +kernel
theorem dX9_told_136 : decode cX9_told 136 = .ok (.iload 5, 2) := by decide +kernel
theorem dX9_told_138 : decode cX9_told 138 = .ok (.goto 5, 3) := by decide +kernel
theorem dX9_told_141 : decode cX9_told 141 = .ok (.bipush (-2), 2) := by decide +kernel
theorem dX9_told_143 : decode cX9_told 143 = .ok (.ireturn, 1) := by decide +kernel
theorem dX9_feed_0 : decode cX9_feed 0 = .ok (.iload_n 1, 1) := by decide +kernel
theorem dX9_feed_1 : decode cX9_feed 1 = .ok (.ifCond .lt 10, 3) := by decide +kernel
theorem dX9_feed_4 : decode cX9_feed 4 = .ok (.iload_n 1, 1) := by decide +kernel
theorem dX9_feed_5 : decode cX9_feed 5 = .ok (.sipush 255, 3) := by decide +kernel
theorem dX9_feed_8 : decode cX9_feed 8 = .ok (.if_icmp .le 5, 3) := by decide +kernel
theorem dX9_feed_11 : decode cX9_feed 11 = .ok (.iconst (-1), 1) := by decide +kernel
theorem dX9_feed_12 : decode cX9_feed 12 = .ok (.ireturn, 1) := by decide +kernel
theorem dX9_feed_13 : decode cX9_feed 13 = .ok (.aload_n 0, 1) := by decide +kernel
theorem dX9_feed_14 : decode cX9_feed 14 = .ok (.getfield 42, 3) := by decide +kernel
theorem dX9_feed_17 : decode cX9_feed 17 = .ok (.iload_n 1, 1) := by decide +kernel
theorem dX9_feed_18 : decode cX9_feed 18 = .ok (.invokevirtual 282, 3) := by decide +kernel
theorem dX9_feed_21 : decode cX9_feed 21 = .ok (.ifCond .eq 13, 3) := by decide +kernel
theorem dX9_feed_24 : decode cX9_feed 24 = .ok (.aload_n 0, 1) := by decide +kernel
theorem dX9_feed_25 : decode cX9_feed 25 = .ok (.getfield 42, 3) := by decide +kernel
theorem dX9_feed_28 : decode cX9_feed 28 = .ok (.getfield 285, 3) := by decide +kernel
theorem dX9_feed_31 : decode cX9_feed 31 = .ok (.goto 5, 3) := by decide +kernel
theorem dX9_feed_34 : decode cX9_feed 34 = .ok (.bipush (-3), 2) := by decide +kernel
theorem dX9_feed_36 : decode cX9_feed 36 = .ok (.ireturn, 1) := by decide +kernel
theorem dX9_script_0 : decode cX9_script 0 = .ok (.aload_n 0, 1) := by decide +kernel
theorem dX9_script_1 : decode cX9_script 1 = .ok (.getfield 42, 3) := by decide +kernel
theorem dX9_script_4 : decode cX9_script 4 = .ok (.invokevirtual 286, 3) := by decide +kernel
theorem dX9_script_7 : decode cX9_script 7 = .ok (.istore_n 1, 1) := by decide +kernel
theorem dX9_script_8 : decode cX9_script 8 = .ok (.aload_n 0, 1) := by decide +kernel
theorem dX9_script_9 : decode cX9_script 9 = .ok (.getfield 42, 3) := by decide +kernel
theorem dX9_script_12 : decode cX9_script 12 = .ok (.iconst 0, 1) := by decide +kernel
theorem dX9_script_13 : decode cX9_script 13 = .ok (.putfield 285, 3) := by decide +kernel
theorem dX9_script_16 : decode cX9_script 16 = .ok (.iload_n 1, 1) := by decide +kernel
theorem dX9_script_17 : decode cX9_script 17 = .ok (.ifCond .ne 15, 3) := by decide +kernel
theorem dX9_script_20 : decode cX9_script 20 = .ok (.sipush (-1000), 3) := by decide +kernel
theorem dX9_script_23 : decode cX9_script 23 = .ok (.aload_n 0, 1) := by decide +kernel
theorem dX9_script_24 : decode cX9_script 24 = .ok (.getfield 42, 3) := by decide +kernel
theorem dX9_script_27 : decode cX9_script 27 = .ok (.getfield 290, 3) := by decide +kernel
theorem dX9_script_30 : decode cX9_script 30 = .ok (.isub, 1) := by decide +kernel
theorem dX9_script_31 : decode cX9_script 31 = .ok (.ireturn, 1) := by decide +kernel
theorem dX9_script_32 : decode cX9_script 32 = .ok (.aload_n 0, 1) := by decide +kernel
theorem dX9_script_33 : decode cX9_script 33 = .ok (.getfield 19, 3) := by decide +kernel
theorem dX9_script_36 : decode cX9_script 36 = .ok (.aload_n 0, 1) := by decide +kernel
theorem dX9_script_37 : decode cX9_script 37 = .ok (.getfield 10, 3) := by decide +kernel
theorem dX9_script_40 : decode cX9_script 40 = .ok (.invokevirtual 236, 3) := by decide +kernel
theorem dX9_script_43 : decode cX9_script 43 = .ok (.iconst 0, 1) := by decide +kernel
theorem dX9_script_44 : decode cX9_script 44 = .ok (.istore_n 2, 1) := by decide +kernel
theorem dX9_script_45 : decode cX9_script 45 = .ok (.iload_n 2, 1) := by decide +kernel
theorem dX9_script_46 : decode cX9_script 46 = .ok (.aload_n 0, 1) := by decide +kernel
theorem dX9_script_47 : decode cX9_script 47 = .ok (.getfield 42, 3) := by decide +kernel
theorem dX9_script_50 : decode cX9_script 50 = .ok (.getfield 293, 3) := by decide +kernel
theorem dX9_script_53 : decode cX9_script 53 = .ok (.if_icmp .ge 34, 3) := by decide +kernel
theorem dX9_script_56 : decode cX9_script 56 = .ok (.aload_n 0, 1) := by decide +kernel
theorem dX9_script_57 : decode cX9_script 57 = .ok (.iload_n 2, 1) := by decide +kernel
theorem dX9_script_58 : decode cX9_script 58 = .ok (.invokevirtual 296, 3) := by decide +kernel
theorem dX9_script_61 : decode cX9_script 61 = .ok (.ifCond .ge 20, 3) := by decide +kernel
theorem dX9_script_64 : decode cX9_script 64 = .ok (.aload_n 0, 1) := by decide +kernel
theorem dX9_script_65 : decode cX9_script 65 = .ok (.getfield 10, 3) := by decide +kernel
theorem dX9_script_68 : decode cX9_script 68 = .ok (.aload_n 0, 1) := by decide +kernel
theorem dX9_script_69 : decode cX9_script 69 = .ok (.getfield 19, 3) := by decide +kernel
theorem dX9_script_72 : decode cX9_script 72 = .ok (.invokevirtual 236, 3) := by decide +kernel
theorem dX9_script_75 : decode cX9_script 75 = .ok (.sipush (-2000), 3) := by decide +kernel
theorem dX9_script_78 : decode cX9_script 78 = .ok (.iload_n 2, 1) := by decide +kernel
theorem dX9_script_79 : decode cX9_script 79 = .ok (.isub, 1) := by decide +kernel
theorem dX9_script_80 : decode cX9_script 80 = .ok (.ireturn, 1) := by decide +kernel
theorem dX9_script_81 : decode cX9_script 81 = .ok (.iinc 2 1, 3) := by decide +kernel
theorem dX9_script_84 : decode cX9_script 84 = .ok (.goto (-39), 3) := by decide +kernel
theorem dX9_script_87 : decode cX9_script 87 = .ok (.aload_n 0, 1) := by decide +kernel
theorem dX9_script_88 : decode cX9_script 88 = .ok (.getfield 42, 3) := by decide +kernel
theorem dX9_script_91 : decode cX9_script 91 = .ok (.getfield 293, 3) := by decide +kernel
theorem dX9_script_94 : decode cX9_script 94 = .ok (.ireturn, 1) := by decide +kernel
theorem dX9_image_0 : decode cX9_image 0 = .ok (.aload_n 0, 1) := by decide +kernel
theorem dX9_image_1 : decode cX9_image 1 = .ok (.getfield 16, 3) := by decide +kernel
theorem dX9_image_4 : decode cX9_image 4 = .ok (.aload_n 0, 1) := by decide +kernel
theorem dX9_image_5 : decode cX9_image 5 = .ok (.getfield 10, 3) := by decide +kernel
theorem dX9_image_8 : decode cX9_image 8 = .ok (.invokevirtual 236, 3) := by decide +kernel
theorem dX9_image_11 : decode cX9_image 11 = .ok (.aload_n 0, 1) := by decide +kernel
theorem dX9_image_12 : decode cX9_image 12 = .ok (.iconst 1, 1) := by decide +kernel
theorem dX9_image_13 : decode cX9_image 13 = .ok (.putfield 53, 3) := by decide +kernel
theorem dX9_image_16 : decode cX9_image 16 = .ok (.aload_n 0, 1) := by decide +kernel
theorem dX9_image_17 : decode cX9_image 17 = .ok (.getfield 10, 3) := by decide +kernel
theorem dX9_image_20 : decode cX9_image 20 = .ok (.getfield 81, 3) := by decide +kernel
theorem dX9_image_23 : decode cX9_image 23 = .ok (.iconst 1, 1) := by decide +kernel
theorem dX9_image_24 : decode cX9_image 24 = .ok (.invokevirtual 299, 3) := by decide +kernel
theorem dX9_image_27 : decode cX9_image 27 = .ok (.ireturn, 1) := by decide +kernel
theorem dX9_back_0 : decode cX9_back 0 = .ok (.aload_n 0, 1) := by decide +kernel
theorem dX9_back_1 : decode cX9_back 1 = .ok (.getfield 53, 3) := by decide +kernel
theorem dX9_back_4 : decode cX9_back 4 = .ok (.ifCond .ne 6, 3) := by decide +kernel
theorem dX9_back_7 : decode cX9_back 7 = .ok (.bipush (-5), 2) := by decide +kernel
theorem dX9_back_9 : decode cX9_back 9 = .ok (.ireturn, 1) := by decide +kernel
theorem dX9_back_10 : decode cX9_back 10 = .ok (.aload_n 0, 1) := by decide +kernel
theorem dX9_back_11 : decode cX9_back 11 = .ok (.getfield 10, 3) := by decide +kernel
theorem dX9_back_14 : decode cX9_back 14 = .ok (.aload_n 0, 1) := by decide +kernel
theorem dX9_back_15 : decode cX9_back 15 = .ok (.getfield 16, 3) := by decide +kernel
theorem dX9_back_18 : decode cX9_back 18 = .ok (.invokevirtual 236, 3) := by decide +kernel
theorem dX9_back_21 : decode cX9_back 21 = .ok (.aload_n 0, 1) := by decide +kernel
theorem dX9_back_22 : decode cX9_back 22 = .ok (.getfield 10, 3) := by decide +kernel
theorem dX9_back_25 : decode cX9_back 25 = .ok (.getfield 81, 3) := by decide +kernel
theorem dX9_back_28 : decode cX9_back 28 = .ok (.iconst 1, 1) := by decide +kernel
theorem dX9_back_29 : decode cX9_back 29 = .ok (.invokevirtual 299, 3) := by decide +kernel
theorem dX9_back_32 : decode cX9_back 32 = .ok (.ireturn, 1) := by decide +kernel
theorem dX9_hold_0 : decode cX9_hold 0 = .ok (.iload_n 1, 1) := by decide +kernel
theorem dX9_hold_1 : decode cX9_hold 1 = .ok (.invokestatic 265, 3) := by decide +kernel
theorem dX9_hold_4 : decode cX9_hold 4 = .ok (.ifCond .ne 5, 3) := by decide +kernel
theorem dX9_hold_7 : decode cX9_hold 7 = .ok (.iconst (-1), 1) := by decide +kernel
theorem dX9_hold_8 : decode cX9_hold 8 = .ok (.ireturn, 1) := by decide +kernel
theorem dX9_hold_9 : decode cX9_hold 9 = .ok (.iload_n 2, 1) := by decide +kernel
theorem dX9_hold_10 : decode cX9_hold 10 = .ok (.iconst (-1), 1) := by decide +kernel
theorem dX9_hold_11 : decode cX9_hold 11 = .ok (.if_icmp .ne 15, 3) := by decide +kernel
theorem dX9_hold_14 : decode cX9_hold 14 = .ok (.aload_n 0, 1) := by decide +kernel
theorem dX9_hold_15 : decode cX9_hold 15 = .ok (.getfield 49, 3) := by decide +kernel
theorem dX9_hold_18 : decode cX9_hold 18 = .ok (.getfield 302, 3) := by decide +kernel
theorem dX9_hold_21 : decode cX9_hold 21 = .ok (.iload_n 1, 1) := by decide +kernel
theorem dX9_hold_22 : decode cX9_hold 22 = .ok (.iconst 0, 1) := by decide +kernel
theorem dX9_hold_23 : decode cX9_hold 23 = .ok (.iastore, 1) := by decide +kernel
theorem dX9_hold_24 : decode cX9_hold 24 = .ok (.iconst 1, 1) := by decide +kernel
theorem dX9_hold_25 : decode cX9_hold 25 = .ok (.ireturn, 1) := by decide +kernel
theorem dX9_hold_26 : decode cX9_hold 26 = .ok (.aload_n 0, 1) := by decide +kernel
theorem dX9_hold_27 : decode cX9_hold 27 = .ok (.getfield 10, 3) := by decide +kernel
theorem dX9_hold_30 : decode cX9_hold 30 = .ok (.getfield 81, 3) := by decide +kernel
theorem dX9_hold_33 : decode cX9_hold 33 = .ok (.iload_n 2, 1) := by decide +kernel
theorem dX9_hold_34 : decode cX9_hold 34 = .ok (.invokevirtual 102, 3) := by decide +kernel
theorem dX9_hold_37 : decode cX9_hold 37 = .ok (.iconst (-1), 1) := by decide +kernel
theorem dX9_hold_38 : decode cX9_hold 38 = .ok (.if_icmp .ne 6, 3) := by decide +kernel
theorem dX9_hold_41 : decode cX9_hold 41 = .ok (.bipush (-4), 2) := by decide +kernel
theorem dX9_hold_43 : decode cX9_hold 43 = .ok (.ireturn, 1) := by decide +kernel
theorem dX9_hold_44 : decode cX9_hold 44 = .ok (.aload_n 0, 1) := by decide +kernel
theorem dX9_hold_45 : decode cX9_hold 45 = .ok (.getfield 49, 3) := by decide +kernel
theorem dX9_hold_48 : decode cX9_hold 48 = .ok (.getfield 302, 3) := by decide +kernel
theorem dX9_hold_51 : decode cX9_hold 51 = .ok (.iload_n 1, 1) := by decide +kernel
theorem dX9_hold_52 : decode cX9_hold 52 = .ok (.iconst 1, 1) := by decide +kernel
theorem dX9_hold_53 : decode cX9_hold 53 = .ok (.iastore, 1) := by decide +kernel
theorem dX9_hold_54 : decode cX9_hold 54 = .ok (.aload_n 0, 1) := by decide +kernel
theorem dX9_hold_55 : decode cX9_hold 55 = .ok (.getfield 49, 3) := by decide +kernel
theorem dX9_hold_58 : decode cX9_hold 58 = .ok (.getfield 305, 3) := by decide +kernel
theorem dX9_hold_61 : decode cX9_hold 61 = .ok (.iload_n 1, 1) := by decide +kernel
theorem dX9_hold_62 : decode cX9_hold 62 = .ok (.iload_n 2, 1) := by decide +kernel
theorem dX9_hold_63 : decode cX9_hold 63 = .ok (.iastore, 1) := by decide +kernel
theorem dX9_hold_64 : decode cX9_hold 64 = .ok (.iconst 1, 1) := by decide +kernel
theorem dX9_hold_65 : decode cX9_hold 65 = .ok (.ireturn, 1) := by decide +kernel
theorem dX9_row_0 : decode cX9_row 0 = .ok (.iload_n 1, 1) := by decide +kernel
theorem dX9_row_1 : decode cX9_row 1 = .ok (.invokestatic 265, 3) := by decide +kernel
theorem dX9_row_4 : decode cX9_row 4 = .ok (.ifCond .eq 9, 3) := by decide +kernel
theorem dX9_row_7 : decode cX9_row 7 = .ok (.iload_n 2, 1) := by decide +kernel
theorem dX9_row_8 : decode cX9_row 8 = .ok (.bipush 60, 2) := by decide +kernel
theorem dX9_row_10 : decode cX9_row 10 = .ok (.if_icmp .le 5, 3) := by decide +kernel
theorem dX9_row_13 : decode cX9_row 13 = .ok (.iconst (-1), 1) := by decide +kernel
theorem dX9_row_14 : decode cX9_row 14 = .ok (.ireturn, 1) := by decide +kernel
theorem dX9_row_15 : decode cX9_row 15 = .ok (.iload_n 2, 1) := by decide +kernel
theorem dX9_row_16 : decode cX9_row 16 = .ok (.ifCond .ge 6, 3) := by decide +kernel
theorem dX9_row_19 : decode cX9_row 19 = .ok (.bipush (-14), 2) := by decide +kernel
theorem dX9_row_21 : decode cX9_row 21 = .ok (.ireturn, 1) := by decide +kernel
theorem dX9_row_22 : decode cX9_row 22 = .ok (.aload_n 0, 1) := by decide +kernel
theorem dX9_row_23 : decode cX9_row 23 = .ok (.getfield 49, 3) := by decide +kernel
theorem dX9_row_26 : decode cX9_row 26 = .ok (.iload_n 1, 1) := by decide +kernel
theorem dX9_row_27 : decode cX9_row 27 = .ok (.iload_n 2, 1) := by decide +kernel
theorem dX9_row_28 : decode cX9_row 28 = .ok (.invokevirtual 308, 3) := by decide +kernel
theorem dX9_row_31 : decode cX9_row 31 = .ok (.iconst 1, 1) := by decide +kernel
theorem dX9_row_32 : decode cX9_row 32 = .ok (.ireturn, 1) := by decide +kernel
theorem dX9_put_0 : decode cX9_put 0 = .ok (.iload_n 1, 1) := by decide +kernel
theorem dX9_put_1 : decode cX9_put 1 = .ok (.invokestatic 265, 3) := by decide +kernel
theorem dX9_put_4 : decode cX9_put 4 = .ok (.ifCond .eq 15, 3) := by decide +kernel
theorem dX9_put_7 : decode cX9_put 7 = .ok (.aload_n 0, 1) := by decide +kernel
theorem dX9_put_8 : decode cX9_put 8 = .ok (.getfield 49, 3) := by decide +kernel
theorem dX9_put_11 : decode cX9_put 11 = .ok (.iload_n 1, 1) := by decide +kernel
theorem dX9_put_12 : decode cX9_put 12 = .ok (.iload_n 2, 1) := by decide +kernel
theorem dX9_put_13 : decode cX9_put 13 = .ok (.invokevirtual 311, 3) := by decide +kernel
theorem dX9_put_16 : decode cX9_put 16 = .ok (.ifCond .ne 6, 3) := by decide +kernel
theorem dX9_put_19 : decode cX9_put 19 = .ok (.ldc 135, 2) := by decide +kernel
theorem dX9_put_21 : decode cX9_put 21 = .ok (.ireturn, 1) := by decide +kernel
theorem dX9_put_22 : decode cX9_put 22 = .ok (.aload_n 0, 1) := by decide +kernel
theorem dX9_put_23 : decode cX9_put 23 = .ok (.getfield 49, 3) := by decide +kernel
theorem dX9_put_26 : decode cX9_put 26 = .ok (.iload_n 1, 1) := by decide +kernel
theorem dX9_put_27 : decode cX9_put 27 = .ok (.iload_n 2, 1) := by decide +kernel
theorem dX9_put_28 : decode cX9_put 28 = .ok (.invokevirtual 276, 3) := by decide +kernel
theorem dX9_put_31 : decode cX9_put 31 = .ok (.istore 4, 2) := by decide +kernel
theorem dX9_put_33 : decode cX9_put 33 = .ok (.aload_n 0, 1) := by decide +kernel
theorem dX9_put_34 : decode cX9_put 34 = .ok (.getfield 49, 3) := by decide +kernel
theorem dX9_put_37 : decode cX9_put 37 = .ok (.iload_n 1, 1) := by decide +kernel
theorem dX9_put_38 : decode cX9_put 38 = .ok (.iload_n 2, 1) := by decide +kernel
theorem dX9_put_39 : decode cX9_put 39 = .ok (.iload_n 3, 1) := by decide +kernel
theorem dX9_put_40 : decode cX9_put 40 = .ok (.invokevirtual 314, 3) := by decide +kernel
theorem dX9_put_43 : decode cX9_put 43 = .ok (.iload 4, 2) := by decide +kernel
theorem dX9_put_45 : decode cX9_put 45 = .ok (.ireturn, 1) := by decide +kernel
theorem dX9_tells_0 : decode cX9_tells 0 = .ok (.iload_n 1, 1) := by decide +kernel
theorem dX9_tells_1 : decode cX9_tells 1 = .ok (.invokestatic 265, 3) := by decide +kernel
theorem dX9_tells_4 : decode cX9_tells 4 = .ok (.ifCond .eq 12, 3) := by decide +kernel
theorem dX9_tells_7 : decode cX9_tells 7 = .ok (.iload_n 2, 1) := by decide +kernel
theorem dX9_tells_8 : decode cX9_tells 8 = .ok (.ifCond .lt 8, 3) := by decide +kernel
theorem dX9_tells_11 : decode cX9_tells 11 = .ok (.iload_n 2, 1) := by decide +kernel
theorem dX9_tells_12 : decode cX9_tells 12 = .ok (.iconst 3, 1) := by decide +kernel
theorem dX9_tells_13 : decode cX9_tells 13 = .ok (.if_icmp .le 5, 3) := by decide +kernel
theorem dX9_tells_16 : decode cX9_tells 16 = .ok (.iconst (-1), 1) := by decide +kernel
theorem dX9_tells_17 : decode cX9_tells 17 = .ok (.ireturn, 1) := by decide +kernel
theorem dX9_tells_18 : decode cX9_tells 18 = .ok (.aload_n 0, 1) := by decide +kernel
theorem dX9_tells_19 : decode cX9_tells 19 = .ok (.getfield 49, 3) := by decide +kernel
theorem dX9_tells_22 : decode cX9_tells 22 = .ok (.getfield 302, 3) := by decide +kernel
theorem dX9_tells_25 : decode cX9_tells 25 = .ok (.iload_n 1, 1) := by decide +kernel
theorem dX9_tells_26 : decode cX9_tells 26 = .ok (.iaload, 1) := by decide +kernel
theorem dX9_tells_27 : decode cX9_tells 27 = .ok (.ifCond .ne 6, 3) := by decide +kernel
theorem dX9_tells_30 : decode cX9_tells 30 = .ok (.bipush (-11), 2) := by decide +kernel
theorem dX9_tells_32 : decode cX9_tells 32 = .ok (.ireturn, 1) := by decide +kernel
theorem dX9_tells_33 : decode cX9_tells 33 = .ok (.aload_n 0, 1) := by decide +kernel
theorem dX9_tells_34 : decode cX9_tells 34 = .ok (.getfield 49, 3) := by decide +kernel
theorem dX9_tells_37 : decode cX9_tells 37 = .ok (.getfield 302, 3) := by decide +kernel
theorem dX9_tells_40 : decode cX9_tells 40 = .ok (.iload_n 1, 1) := by decide +kernel
theorem dX9_tells_41 : decode cX9_tells 41 = .ok (.iaload, 1) := by decide +kernel
theorem dX9_tells_42 : decode cX9_tells 42 = .ok (.iconst 2, 1) := by decide +kernel
theorem dX9_tells_43 : decode cX9_tells 43 = .ok (.if_icmp .ne 6, 3) := by decide +kernel
theorem dX9_tells_46 : decode cX9_tells 46 = .ok (.bipush (-12), 2) := by decide +kernel
theorem dX9_tells_48 : decode cX9_tells 48 = .ok (.ireturn, 1) := by decide +kernel
theorem dX9_tells_49 : decode cX9_tells 49 = .ok (.aload_n 0, 1) := by decide +kernel
theorem dX9_tells_50 : decode cX9_tells 50 = .ok (.aload_n 0, 1) := by decide +kernel
theorem dX9_tells_51 : decode cX9_tells 51 = .ok (.getfield 49, 3) := by decide +kernel
theorem dX9_tells_54 : decode cX9_tells 54 = .ok (.getfield 305, 3) := by decide +kernel
theorem dX9_tells_57 : decode cX9_tells 57 = .ok (.iload_n 1, 1) := by decide +kernel
theorem dX9_tells_58 : decode cX9_tells 58 = .ok (.iaload, 1) := by decide +kernel
theorem dX9_tells_59 : decode cX9_tells 59 = .ok (.iload_n 2, 1) := by decide +kernel
theorem dX9_tells_60 : decode cX9_tells 60 = .ok (.invokevirtual 318, 3) := by decide +kernel
theorem dX9_tells_63 : decode cX9_tells 63 = .ok (.ireturn, 1) := by decide +kernel
theorem dX9_count_0 : decode cX9_count 0 = .ok (.iload_n 1, 1) := by decide +kernel
theorem dX9_count_1 : decode cX9_count 1 = .ok (.tableswitch 128 0 7 #[47, 58, 70, 82, 93, 101, 112, 120], 47) := by decide +kernel
theorem dX9_count_48 : decode cX9_count 48 = .ok (.aload_n 0, 1) := by decide +kernel
theorem dX9_count_49 : decode cX9_count 49 = .ok (.getfield 10, 3) := by decide +kernel
theorem dX9_count_52 : decode cX9_count 52 = .ok (.getfield 57, 3) := by decide +kernel
theorem dX9_count_55 : decode cX9_count 55 = .ok (.getfield 321, 3) := by decide +kernel
theorem dX9_count_58 : decode cX9_count 58 = .ok (.ireturn, 1) := by decide +kernel
theorem dX9_count_59 : decode cX9_count 59 = .ok (.aload_n 0, 1) := by decide +kernel
theorem dX9_count_60 : decode cX9_count 60 = .ok (.getfield 10, 3) := by decide +kernel
theorem dX9_count_63 : decode cX9_count 63 = .ok (.getfield 81, 3) := by decide +kernel
theorem dX9_count_66 : decode cX9_count 66 = .ok (.iconst 1, 1) := by decide +kernel
theorem dX9_count_67 : decode cX9_count 67 = .ok (.invokevirtual 299, 3) := by decide +kernel
theorem dX9_count_70 : decode cX9_count 70 = .ok (.ireturn, 1) := by decide +kernel
theorem dX9_count_71 : decode cX9_count 71 = .ok (.aload_n 0, 1) := by decide +kernel
theorem dX9_count_72 : decode cX9_count 72 = .ok (.getfield 10, 3) := by decide +kernel
theorem dX9_count_75 : decode cX9_count 75 = .ok (.getfield 81, 3) := by decide +kernel
theorem dX9_count_78 : decode cX9_count 78 = .ok (.iconst 2, 1) := by decide +kernel
theorem dX9_count_79 : decode cX9_count 79 = .ok (.invokevirtual 299, 3) := by decide +kernel
theorem dX9_count_82 : decode cX9_count 82 = .ok (.ireturn, 1) := by decide +kernel
theorem dX9_count_83 : decode cX9_count 83 = .ok (.aload_n 0, 1) := by decide +kernel
theorem dX9_count_84 : decode cX9_count 84 = .ok (.getfield 10, 3) := by decide +kernel
theorem dX9_count_87 : decode cX9_count 87 = .ok (.getfield 197, 3) := by decide +kernel
theorem dX9_count_90 : decode cX9_count 90 = .ok (.getfield 201, 3) := by decide +kernel
theorem dX9_count_93 : decode cX9_count 93 = .ok (.ireturn, 1) := by decide +kernel
theorem dX9_count_94 : decode cX9_count 94 = .ok (.aload_n 0, 1) := by decide +kernel
theorem dX9_count_95 : decode cX9_count 95 = .ok (.getfield 10, 3) := by decide +kernel
theorem dX9_count_98 : decode cX9_count 98 = .ok (.getfield 113, 3) := by decide +kernel
theorem dX9_count_101 : decode cX9_count 101 = .ok (.ireturn, 1) := by decide +kernel
theorem dX9_count_102 : decode cX9_count 102 = .ok (.aload_n 0, 1) := by decide +kernel
theorem dX9_count_103 : decode cX9_count 103 = .ok (.getfield 10, 3) := by decide +kernel
theorem dX9_count_106 : decode cX9_count 106 = .ok (.getfield 81, 3) := by decide +kernel
theorem dX9_count_109 : decode cX9_count 109 = .ok (.invokevirtual 322, 3) := by decide +kernel
theorem dX9_count_112 : decode cX9_count 112 = .ok (.ireturn, 1) := by decide +kernel
theorem dX9_count_113 : decode cX9_count 113 = .ok (.aload_n 0, 1) := by decide +kernel
theorem dX9_count_114 : decode cX9_count 114 = .ok (.getfield 42, 3) := by decide +kernel
theorem dX9_count_117 : decode cX9_count 117 = .ok (.getfield 285, 3) := by decide +kernel
theorem dX9_count_120 : decode cX9_count 120 = .ok (.ireturn, 1) := by decide +kernel
theorem dX9_count_121 : decode cX9_count 121 = .ok (.aload_n 0, 1) := by decide +kernel
theorem dX9_count_122 : decode cX9_count 122 = .ok (.getfield 49, 3) := by decide +kernel
theorem dX9_count_125 : decode cX9_count 125 = .ok (.invokevirtual 325, 3) := by decide +kernel
theorem dX9_count_128 : decode cX9_count 128 = .ok (.ireturn, 1) := by decide +kernel
theorem dX9_count_129 : decode cX9_count 129 = .ok (.iconst (-1), 1) := by decide +kernel
theorem dX9_count_130 : decode cX9_count 130 = .ok (.ireturn, 1) := by decide +kernel
theorem dX9_isBlockLength_0 : decode cX9_isBlockLength 0 = .ok (.iload_n 0, 1) := by decide +kernel
theorem dX9_isBlockLength_1 : decode cX9_isBlockLength 1 = .ok (.iconst 1, 1) := by decide +kernel
theorem dX9_isBlockLength_2 : decode cX9_isBlockLength 2 = .ok (.if_icmp .lt 13, 3) := by decide +kernel
theorem dX9_isBlockLength_5 : decode cX9_isBlockLength 5 = .ok (.iload_n 0, 1) := by decide +kernel
theorem dX9_isBlockLength_6 : decode cX9_isBlockLength 6 = .ok (.bipush 40, 2) := by decide +kernel
theorem dX9_isBlockLength_8 : decode cX9_isBlockLength 8 = .ok (.if_icmp .gt 7, 3) := by decide +kernel
theorem dX9_isBlockLength_11 : decode cX9_isBlockLength 11 = .ok (.iconst 1, 1) := by decide +kernel
theorem dX9_isBlockLength_12 : decode cX9_isBlockLength 12 = .ok (.goto 4, 3) := by decide +kernel
theorem dX9_isBlockLength_15 : decode cX9_isBlockLength 15 = .ok (.iconst 0, 1) := by decide +kernel
theorem dX9_isBlockLength_16 : decode cX9_isBlockLength 16 = .ok (.ireturn, 1) := by decide +kernel
theorem dX9_isOwner_0 : decode cX9_isOwner 0 = .ok (.iload_n 0, 1) := by decide +kernel
theorem dX9_isOwner_1 : decode cX9_isOwner 1 = .ok (.ifCond .lt 13, 3) := by decide +kernel
theorem dX9_isOwner_4 : decode cX9_isOwner 4 = .ok (.iload_n 0, 1) := by decide +kernel
theorem dX9_isOwner_5 : decode cX9_isOwner 5 = .ok (.bipush 10, 2) := by decide +kernel
theorem dX9_isOwner_7 : decode cX9_isOwner 7 = .ok (.if_icmp .ge 7, 3) := by decide +kernel
theorem dX9_isOwner_10 : decode cX9_isOwner 10 = .ok (.iconst 1, 1) := by decide +kernel
theorem dX9_isOwner_11 : decode cX9_isOwner 11 = .ok (.goto 4, 3) := by decide +kernel
theorem dX9_isOwner_14 : decode cX9_isOwner 14 = .ok (.iconst 0, 1) := by decide +kernel
theorem dX9_isOwner_15 : decode cX9_isOwner 15 = .ok (.ireturn, 1) := by decide +kernel
theorem dX9_isReader_0 : decode cX9_isReader 0 = .ok (.iload_n 0, 1) := by decide +kernel
theorem dX9_isReader_1 : decode cX9_isReader 1 = .ok (.ifCond .lt 13, 3) := by decide +kernel
theorem dX9_isReader_4 : decode cX9_isReader 4 = .ok (.iload_n 0, 1) := by decide +kernel
theorem dX9_isReader_5 : decode cX9_isReader 5 = .ok (.bipush 6, 2) := by decide +kernel
theorem dX9_isReader_7 : decode cX9_isReader 7 = .ok (.if_icmp .ge 7, 3) := by decide +kernel
theorem dX9_isReader_10 : decode cX9_isReader 10 = .ok (.iconst 1, 1) := by decide +kernel
theorem dX9_isReader_11 : decode cX9_isReader 11 = .ok (.goto 4, 3) := by decide +kernel
theorem dX9_isReader_14 : decode cX9_isReader 14 = .ok (.iconst 0, 1) := by decide +kernel
theorem dX9_isReader_15 : decode cX9_isReader 15 = .ok (.ireturn, 1) := by decide +kernel
theorem dX9_isHolder_0 : decode cX9_isHolder 0 = .ok (.iload_n 0, 1) := by decide +kernel
theorem dX9_isHolder_1 : decode cX9_isHolder 1 = .ok (.ifCond .lt 13, 3) := by decide +kernel
theorem dX9_isHolder_4 : decode cX9_isHolder 4 = .ok (.iload_n 0, 1) := by decide +kernel
theorem dX9_isHolder_5 : decode cX9_isHolder 5 = .ok (.bipush 6, 2) := by decide +kernel
theorem dX9_isHolder_7 : decode cX9_isHolder 7 = .ok (.if_icmp .ge 7, 3) := by decide +kernel
theorem dX9_isHolder_10 : decode cX9_isHolder 10 = .ok (.iconst 1, 1) := by decide +kernel
theorem dX9_isHolder_11 : decode cX9_isHolder 11 = .ok (.goto 4, 3) := by decide +kernel
theorem dX9_isHolder_14 : decode cX9_isHolder 14 = .ok (.iconst 0, 1) := by decide +kernel
theorem dX9_isHolder_15 : decode cX9_isHolder 15 = .ok (.ireturn, 1) := by decide +kernel
theorem dX9_isTag_0 : decode cX9_isTag 0 = .ok (.iload_n 0, 1) := by decide +kernel
theorem dX9_isTag_1 : decode cX9_isTag 1 = .ok (.ifCond .lt 14, 3) := by decide +kernel
theorem dX9_isTag_4 : decode cX9_isTag 4 = .ok (.iload_n 0, 1) := by decide +kernel
theorem dX9_isTag_5 : decode cX9_isTag 5 = .ok (.sipush 500, 3) := by decide +kernel
theorem dX9_isTag_8 : decode cX9_isTag 8 = .ok (.if_icmp .ge 7, 3) := by decide +kernel
theorem dX9_isTag_11 : decode cX9_isTag 11 = .ok (.iconst 1, 1) := by decide +kernel
theorem dX9_isTag_12 : decode cX9_isTag 12 = .ok (.goto 4, 3) := by decide +kernel
theorem dX9_isTag_15 : decode cX9_isTag 15 = .ok (.iconst 0, 1) := by decide +kernel
theorem dX9_isTag_16 : decode cX9_isTag 16 = .ok (.ireturn, 1) := by decide +kernel
theorem dX9_notIfNone_0 : decode cX9_notIfNone 0 = .ok (.iload_n 0, 1) := by decide +kernel
theorem dX9_notIfNone_1 : decode cX9_notIfNone 1 = .ok (.iconst (-1), 1) := by decide +kernel
theorem dX9_notIfNone_2 : decode cX9_notIfNone 2 = .ok (.if_icmp .ne 8, 3) := by decide +kernel
theorem dX9_notIfNone_5 : decode cX9_notIfNone 5 = .ok (.bipush (-2), 2) := by decide +kernel
theorem dX9_notIfNone_7 : decode cX9_notIfNone 7 = .ok (.goto 4, 3) := by decide +kernel
theorem dX9_notIfNone_10 : decode cX9_notIfNone 10 = .ok (.iload_n 0, 1) := by decide +kernel
theorem dX9_notIfNone_11 : decode cX9_notIfNone 11 = .ok (.ireturn, 1) := by decide +kernel
theorem dX9_copyAll_0 : decode cX9_copyAll 0 = .ok (.aload_n 0, 1) := by decide +kernel
theorem dX9_copyAll_1 : decode cX9_copyAll 1 = .ok (.iconst 0, 1) := by decide +kernel
theorem dX9_copyAll_2 : decode cX9_copyAll 2 = .ok (.aload_n 1, 1) := by decide +kernel
theorem dX9_copyAll_3 : decode cX9_copyAll 3 = .ok (.iconst 0, 1) := by decide +kernel
theorem dX9_copyAll_4 : decode cX9_copyAll 4 = .ok (.aload_n 0, 1) := by decide +kernel
theorem dX9_copyAll_5 : decode cX9_copyAll 5 = .ok (.arraylength, 1) := by decide +kernel
theorem dX9_copyAll_6 : decode cX9_copyAll 6 = .ok (.aload_n 1, 1) := by decide +kernel
theorem dX9_copyAll_7 : decode cX9_copyAll 7 = .ok (.arraylength, 1) := by decide +kernel
theorem dX9_copyAll_8 : decode cX9_copyAll 8 = .ok (.invokestatic 328, 3) := by decide +kernel
theorem dX9_copyAll_11 : decode cX9_copyAll 11 = .ok (.invokestatic 333, 3) := by decide +kernel
theorem dX9_copyAll_14 : decode cX9_copyAll 14 = .ok (.return_, 1) := by decide +kernel
theorem dX9_fill_0 : decode cX9_fill 0 = .ok (.iload_n 1, 1) := by decide +kernel
theorem dX9_fill_1 : decode cX9_fill 1 = .ok (.ifCond .ge 4, 3) := by decide +kernel
theorem dX9_fill_4 : decode cX9_fill 4 = .ok (.return_, 1) := by decide +kernel
theorem dX9_fill_5 : decode cX9_fill 5 = .ok (.iload_n 1, 1) := by decide +kernel
theorem dX9_fill_6 : decode cX9_fill 6 = .ok (.istore 4, 2) := by decide +kernel
theorem dX9_fill_8 : decode cX9_fill 8 = .ok (.iload 4, 2) := by decide +kernel
theorem dX9_fill_10 : decode cX9_fill 10 = .ok (.iload_n 1, 1) := by decide +kernel
theorem dX9_fill_11 : decode cX9_fill 11 = .ok (.iload_n 2, 1) := by decide +kernel
theorem dX9_fill_12 : decode cX9_fill 12 = .ok (.iadd, 1) := by decide +kernel
theorem dX9_fill_13 : decode cX9_fill 13 = .ok (.if_icmp .ge 21, 3) := by decide +kernel
theorem dX9_fill_16 : decode cX9_fill 16 = .ok (.iload 4, 2) := by decide +kernel
theorem dX9_fill_18 : decode cX9_fill 18 = .ok (.aload_n 0, 1) := by decide +kernel
theorem dX9_fill_19 : decode cX9_fill 19 = .ok (.arraylength, 1) := by decide +kernel
theorem dX9_fill_20 : decode cX9_fill 20 = .ok (.if_icmp .ge 14, 3) := by decide +kernel
theorem dX9_fill_23 : decode cX9_fill 23 = .ok (.aload_n 0, 1) := by decide +kernel
theorem dX9_fill_24 : decode cX9_fill 24 = .ok (.iload 4, 2) := by decide +kernel
theorem dX9_fill_26 : decode cX9_fill 26 = .ok (.iload_n 3, 1) := by decide +kernel
theorem dX9_fill_27 : decode cX9_fill 27 = .ok (.iastore, 1) := by decide +kernel
theorem dX9_fill_28 : decode cX9_fill 28 = .ok (.iinc 4 1, 3) := by decide +kernel
theorem dX9_fill_31 : decode cX9_fill 31 = .ok (.goto (-23), 3) := by decide +kernel
theorem dX9_fill_34 : decode cX9_fill 34 = .ok (.return_, 1) := by decide +kernel
theorem dX9_isLeaked_0 : decode cX9_isLeaked 0 = .ok (.aload_n 0, 1) := by decide +kernel
theorem dX9_isLeaked_1 : decode cX9_isLeaked 1 = .ok (.getfield 10, 3) := by decide +kernel
theorem dX9_isLeaked_4 : decode cX9_isLeaked 4 = .ok (.getfield 81, 3) := by decide +kernel
theorem dX9_isLeaked_7 : decode cX9_isLeaked 7 = .ok (.getfield 163, 3) := by decide +kernel
theorem dX9_isLeaked_10 : decode cX9_isLeaked 10 = .ok (.iload_n 1, 1) := by decide +kernel
theorem dX9_isLeaked_11 : decode cX9_isLeaked 11 = .ok (.iaload, 1) := by decide +kernel
theorem dX9_isLeaked_12 : decode cX9_isLeaked 12 = .ok (.iconst 1, 1) := by decide +kernel
theorem dX9_isLeaked_13 : decode cX9_isLeaked 13 = .ok (.if_icmp .ne 20, 3) := by decide +kernel
theorem dX9_isLeaked_16 : decode cX9_isLeaked 16 = .ok (.aload_n 0, 1) := by decide +kernel
theorem dX9_isLeaked_17 : decode cX9_isLeaked 17 = .ok (.getfield 28, 3) := by decide +kernel
theorem dX9_isLeaked_20 : decode cX9_isLeaked 20 = .ok (.getfield 253, 3) := by decide +kernel
theorem dX9_isLeaked_23 : decode cX9_isLeaked 23 = .ok (.iload_n 1, 1) := by decide +kernel
theorem dX9_isLeaked_24 : decode cX9_isLeaked 24 = .ok (.iaload, 1) := by decide +kernel
theorem dX9_isLeaked_25 : decode cX9_isLeaked 25 = .ok (.iconst (-1), 1) := by decide +kernel
theorem dX9_isLeaked_26 : decode cX9_isLeaked 26 = .ok (.if_icmp .ne 7, 3) := by decide +kernel
theorem dX9_isLeaked_29 : decode cX9_isLeaked 29 = .ok (.iconst 1, 1) := by decide +kernel
theorem dX9_isLeaked_30 : decode cX9_isLeaked 30 = .ok (.goto 4, 3) := by decide +kernel
theorem dX9_isLeaked_33 : decode cX9_isLeaked 33 = .ok (.iconst 0, 1) := by decide +kernel
theorem dX9_isLeaked_34 : decode cX9_isLeaked 34 = .ok (.ireturn, 1) := by decide +kernel
theorem dX9_leakedCellsOf_0 : decode cX9_leakedCellsOf 0 = .ok (.aload_n 0, 1) := by decide +kernel
theorem dX9_leakedCellsOf_1 : decode cX9_leakedCellsOf 1 = .ok (.getfield 28, 3) := by decide +kernel
theorem dX9_leakedCellsOf_4 : decode cX9_leakedCellsOf 4 = .ok (.aload_n 0, 1) := by decide +kernel
theorem dX9_leakedCellsOf_5 : decode cX9_leakedCellsOf 5 = .ok (.getfield 10, 3) := by decide +kernel
theorem dX9_leakedCellsOf_8 : decode cX9_leakedCellsOf 8 = .ok (.invokevirtual 243, 3) := by decide +kernel
theorem dX9_leakedCellsOf_11 : decode cX9_leakedCellsOf 11 = .ok (.iconst 0, 1) := by decide +kernel
theorem dX9_leakedCellsOf_12 : decode cX9_leakedCellsOf 12 = .ok (.istore_n 2, 1) := by decide +kernel
theorem dX9_leakedCellsOf_13 : decode cX9_leakedCellsOf 13 = .ok (.iconst 0, 1) := by decide +kernel
theorem dX9_leakedCellsOf_14 : decode cX9_leakedCellsOf 14 = .ok (.istore_n 3, 1) := by decide +kernel
theorem dX9_leakedCellsOf_15 : decode cX9_leakedCellsOf 15 = .ok (.iload_n 3, 1) := by decide +kernel
theorem dX9_leakedCellsOf_16 : decode cX9_leakedCellsOf 16 = .ok (.bipush 30, 2) := by decide +kernel
theorem dX9_leakedCellsOf_18 : decode cX9_leakedCellsOf 18 = .ok (.if_icmp .ge 48, 3) := by decide +kernel
theorem dX9_leakedCellsOf_21 : decode cX9_leakedCellsOf 21 = .ok (.aload_n 0, 1) := by decide +kernel
theorem dX9_leakedCellsOf_22 : decode cX9_leakedCellsOf 22 = .ok (.getfield 10, 3) := by decide +kernel
theorem dX9_leakedCellsOf_25 : decode cX9_leakedCellsOf 25 = .ok (.getfield 81, 3) := by decide +kernel
theorem dX9_leakedCellsOf_28 : decode cX9_leakedCellsOf 28 = .ok (.getfield 117, 3) := by decide +kernel
theorem dX9_leakedCellsOf_31 : decode cX9_leakedCellsOf 31 = .ok (.iload_n 3, 1) := by decide +kernel
theorem dX9_leakedCellsOf_32 : decode cX9_leakedCellsOf 32 = .ok (.iaload, 1) := by decide +kernel
theorem dX9_leakedCellsOf_33 : decode cX9_leakedCellsOf 33 = .ok (.iload_n 1, 1) := by decide +kernel
theorem dX9_leakedCellsOf_34 : decode cX9_leakedCellsOf 34 = .ok (.if_icmp .ne 26, 3) := by decide +kernel
theorem dX9_leakedCellsOf_37 : decode cX9_leakedCellsOf 37 = .ok (.aload_n 0, 1) := by decide +kernel
theorem dX9_leakedCellsOf_38 : decode cX9_leakedCellsOf 38 = .ok (.iload_n 3, 1) := by decide +kernel
theorem dX9_leakedCellsOf_39 : decode cX9_leakedCellsOf 39 = .ok (.invokevirtual 246, 3) := by decide +kernel
theorem dX9_leakedCellsOf_42 : decode cX9_leakedCellsOf 42 = .ok (.ifCond .eq 18, 3) := by decide +kernel
theorem dX9_leakedCellsOf_45 : decode cX9_leakedCellsOf 45 = .ok (.iload_n 2, 1) := by decide +kernel
theorem dX9_leakedCellsOf_46 : decode cX9_leakedCellsOf 46 = .ok (.aload_n 0, 1) := by decide +kernel
theorem dX9_leakedCellsOf_47 : decode cX9_leakedCellsOf 47 = .ok (.getfield 10, 3) := by decide +kernel
theorem dX9_leakedCellsOf_50 : decode cX9_leakedCellsOf 50 = .ok (.getfield 81, 3) := by decide +kernel
theorem dX9_leakedCellsOf_53 : decode cX9_leakedCellsOf 53 = .ok (.getfield 120, 3) := by decide +kernel
theorem dX9_leakedCellsOf_56 : decode cX9_leakedCellsOf 56 = .ok (.iload_n 3, 1) := by decide +kernel
theorem dX9_leakedCellsOf_57 : decode cX9_leakedCellsOf 57 = .ok (.iaload, 1) := by decide +kernel
theorem dX9_leakedCellsOf_58 : decode cX9_leakedCellsOf 58 = .ok (.iadd, 1) := by decide +kernel
theorem dX9_leakedCellsOf_59 : decode cX9_leakedCellsOf 59 = .ok (.istore_n 2, 1) := by decide +kernel
theorem dX9_leakedCellsOf_60 : decode cX9_leakedCellsOf 60 = .ok (.iinc 3 1, 3) := by decide +kernel
theorem dX9_leakedCellsOf_63 : decode cX9_leakedCellsOf 63 = .ok (.goto (-48), 3) := by decide +kernel
theorem dX9_leakedCellsOf_66 : decode cX9_leakedCellsOf 66 = .ok (.iload_n 2, 1) := by decide +kernel
theorem dX9_leakedCellsOf_67 : decode cX9_leakedCellsOf 67 = .ok (.ireturn, 1) := by decide +kernel
theorem dX9_takenFor_0 : decode cX9_takenFor 0 = .ok (.iload_n 2, 1) := by decide +kernel
theorem dX9_takenFor_1 : decode cX9_takenFor 1 = .ok (.ifCond .ne 8, 3) := by decide +kernel
theorem dX9_takenFor_4 : decode cX9_takenFor 4 = .ok (.iload_n 1, 1) := by decide +kernel
theorem dX9_takenFor_5 : decode cX9_takenFor 5 = .ok (.bipush 100, 2) := by decide +kernel
theorem dX9_takenFor_7 : decode cX9_takenFor 7 = .ok (.idiv, 1) := by decide +kernel
theorem dX9_takenFor_8 : decode cX9_takenFor 8 = .ok (.ireturn, 1) := by decide +kernel
theorem dX9_takenFor_9 : decode cX9_takenFor 9 = .ok (.aload_n 0, 1) := by decide +kernel
theorem dX9_takenFor_10 : decode cX9_takenFor 10 = .ok (.getfield 10, 3) := by decide +kernel
theorem dX9_takenFor_13 : decode cX9_takenFor 13 = .ok (.getfield 81, 3) := by decide +kernel
theorem dX9_takenFor_16 : decode cX9_takenFor 16 = .ok (.iload_n 1, 1) := by decide +kernel
theorem dX9_takenFor_17 : decode cX9_takenFor 17 = .ok (.invokevirtual 102, 3) := by decide +kernel
theorem dX9_takenFor_20 : decode cX9_takenFor 20 = .ok (.istore_n 3, 1) := by decide +kernel
theorem dX9_takenFor_21 : decode cX9_takenFor 21 = .ok (.iload_n 3, 1) := by decide +kernel
theorem dX9_takenFor_22 : decode cX9_takenFor 22 = .ok (.iconst (-1), 1) := by decide +kernel
theorem dX9_takenFor_23 : decode cX9_takenFor 23 = .ok (.if_icmp .ne 6, 3) := by decide +kernel
theorem dX9_takenFor_26 : decode cX9_takenFor 26 = .ok (.bipush (-12), 2) := by decide +kernel
theorem dX9_takenFor_28 : decode cX9_takenFor 28 = .ok (.ireturn, 1) := by decide +kernel
theorem dX9_takenFor_29 : decode cX9_takenFor 29 = .ok (.iload_n 2, 1) := by decide +kernel
theorem dX9_takenFor_30 : decode cX9_takenFor 30 = .ok (.iconst 1, 1) := by decide +kernel
theorem dX9_takenFor_31 : decode cX9_takenFor 31 = .ok (.if_icmp .ne 16, 3) := by decide +kernel
theorem dX9_takenFor_34 : decode cX9_takenFor 34 = .ok (.aload_n 0, 1) := by decide +kernel
theorem dX9_takenFor_35 : decode cX9_takenFor 35 = .ok (.getfield 10, 3) := by decide +kernel
theorem dX9_takenFor_38 : decode cX9_takenFor 38 = .ok (.getfield 81, 3) := by decide +kernel
theorem dX9_takenFor_41 : decode cX9_takenFor 41 = .ok (.getfield 120, 3) := by decide +kernel
theorem dX9_takenFor_44 : decode cX9_takenFor 44 = .ok (.iload_n 3, 1) := by decide +kernel
theorem dX9_takenFor_45 : decode cX9_takenFor 45 = .ok (.iaload, 1) := by decide +kernel
theorem dX9_takenFor_46 : decode cX9_takenFor 46 = .ok (.ireturn, 1) := by decide +kernel
theorem dX9_takenFor_47 : decode cX9_takenFor 47 = .ok (.iload_n 2, 1) := by decide +kernel
theorem dX9_takenFor_48 : decode cX9_takenFor 48 = .ok (.iconst 2, 1) := by decide +kernel
theorem dX9_takenFor_49 : decode cX9_takenFor 49 = .ok (.if_icmp .ne 36, 3) := by decide +kernel
theorem dX9_takenFor_52 : decode cX9_takenFor 52 = .ok (.aload_n 0, 1) := by decide +kernel
theorem dX9_takenFor_53 : decode cX9_takenFor 53 = .ok (.getfield 10, 3) := by decide +kernel
theorem dX9_takenFor_56 : decode cX9_takenFor 56 = .ok (.getfield 81, 3) := by decide +kernel
theorem dX9_takenFor_59 : decode cX9_takenFor 59 = .ok (.getfield 105, 3) := by decide +kernel
theorem dX9_takenFor_62 : decode cX9_takenFor 62 = .ok (.iload_n 3, 1) := by decide +kernel
theorem dX9_takenFor_63 : decode cX9_takenFor 63 = .ok (.iaload, 1) := by decide +kernel
theorem dX9_takenFor_64 : decode cX9_takenFor 64 = .ok (.ifCond .le 18, 3) := by decide +kernel
theorem dX9_takenFor_67 : decode cX9_takenFor 67 = .ok (.aload_n 0, 1) := by decide +kernel
theorem dX9_takenFor_68 : decode cX9_takenFor 68 = .ok (.getfield 10, 3) := by decide +kernel
theorem dX9_takenFor_71 : decode cX9_takenFor 71 = .ok (.getfield 81, 3) := by decide +kernel
theorem dX9_takenFor_74 : decode cX9_takenFor 74 = .ok (.getfield 105, 3) := by decide +kernel
theorem dX9_takenFor_77 : decode cX9_takenFor 77 = .ok (.iload_n 3, 1) := by decide +kernel
theorem dX9_takenFor_78 : decode cX9_takenFor 78 = .ok (.iaload, 1) := by decide +kernel
theorem dX9_takenFor_79 : decode cX9_takenFor 79 = .ok (.goto 5, 3) := by decide +kernel
theorem dX9_takenFor_82 : decode cX9_takenFor 82 = .ok (.bipush (-12), 2) := by decide +kernel
theorem dX9_takenFor_84 : decode cX9_takenFor 84 = .ok (.ireturn, 1) := by decide +kernel
theorem dX9_takenFor_85 : decode cX9_takenFor 85 = .ok (.aload_n 0, 1) := by decide +kernel
theorem dX9_takenFor_86 : decode cX9_takenFor 86 = .ok (.getfield 10, 3) := by decide +kernel
theorem dX9_takenFor_89 : decode cX9_takenFor 89 = .ok (.getfield 81, 3) := by decide +kernel
theorem dX9_takenFor_92 : decode cX9_takenFor 92 = .ok (.getfield 157, 3) := by decide +kernel
theorem dX9_takenFor_95 : decode cX9_takenFor 95 = .ok (.iload_n 3, 1) := by decide +kernel
theorem dX9_takenFor_96 : decode cX9_takenFor 96 = .ok (.iaload, 1) := by decide +kernel
theorem dX9_takenFor_97 : decode cX9_takenFor 97 = .ok (.iconst (-1), 1) := by decide +kernel
theorem dX9_takenFor_98 : decode cX9_takenFor 98 = .ok (.if_icmp .ne 8, 3) := by decide +kernel
theorem dX9_takenFor_101 : decode cX9_takenFor 101 = .ok (.bipush (-12), 2) := by decide +kernel
theorem dX9_takenFor_103 : decode cX9_takenFor 103 = .ok (.goto 15, 3) := by decide +kernel
theorem dX9_takenFor_106 : decode cX9_takenFor 106 = .ok (.aload_n 0, 1) := by decide +kernel
theorem dX9_takenFor_107 : decode cX9_takenFor 107 = .ok (.getfield 10, 3) := by decide +kernel
theorem dX9_takenFor_110 : decode cX9_takenFor 110 = .ok (.getfield 81, 3) := by decide +kernel
theorem dX9_takenFor_113 : decode cX9_takenFor 113 = .ok (.getfield 157, 3) := by decide +kernel
theorem dX9_takenFor_116 : decode cX9_takenFor 116 = .ok (.iload_n 3, 1) := by decide +kernel
theorem dX9_takenFor_117 : decode cX9_takenFor 117 = .ok (.iaload, 1) := by decide +kernel
theorem dX9_takenFor_118 : decode cX9_takenFor 118 = .ok (.ireturn, 1) := by decide +kernel
theorem dX9_planElement_0 : decode cX9_planElement 0 = .ok (.iload_n 1, 1) := by decide +kernel
theorem dX9_planElement_1 : decode cX9_planElement 1 = .ok (.ifCond .ge 19, 3) := by decide +kernel
theorem dX9_planElement_4 : decode cX9_planElement 4 = .ok (.aload_n 0, 1) := by decide +kernel
theorem dX9_planElement_5 : decode cX9_planElement 5 = .ok (.getfield 35, 3) := by decide +kernel
theorem dX9_planElement_8 : decode cX9_planElement 8 = .ok (.aload_n 0, 1) := by decide +kernel
theorem dX9_planElement_9 : decode cX9_planElement 9 = .ok (.getfield 22, 3) := by decide +kernel
theorem dX9_planElement_12 : decode cX9_planElement 12 = .ok (.getfield 175, 3) := by decide +kernel
theorem dX9_planElement_15 : decode cX9_planElement 15 = .ok (.iload_n 1, 1) := by decide +kernel
theorem dX9_planElement_16 : decode cX9_planElement 16 = .ok (.invokevirtual 339, 3) := by decide +kernel
theorem dX9_planElement_19 : decode cX9_planElement 19 = .ok (.ireturn, 1) := by decide +kernel
theorem dX9_planElement_20 : decode cX9_planElement 20 = .ok (.iload_n 1, 1) := by decide +kernel
theorem dX9_planElement_21 : decode cX9_planElement 21 = .ok (.invokestatic 71, 3) := by decide +kernel
theorem dX9_planElement_24 : decode cX9_planElement 24 = .ok (.ifCond .ne 5, 3) := by decide +kernel
theorem dX9_planElement_27 : decode cX9_planElement 27 = .ok (.iconst 0, 1) := by decide +kernel
theorem dX9_planElement_28 : decode cX9_planElement 28 = .ok (.ireturn, 1) := by decide +kernel
theorem dX9_planElement_29 : decode cX9_planElement 29 = .ok (.aload_n 0, 1) := by decide +kernel
theorem dX9_planElement_30 : decode cX9_planElement 30 = .ok (.getfield 22, 3) := by decide +kernel
theorem dX9_planElement_33 : decode cX9_planElement 33 = .ok (.getfield 175, 3) := by decide +kernel
theorem dX9_planElement_36 : decode cX9_planElement 36 = .ok (.aload_n 0, 1) := by decide +kernel
theorem dX9_planElement_37 : decode cX9_planElement 37 = .ok (.getfield 10, 3) := by decide +kernel
theorem dX9_planElement_40 : decode cX9_planElement 40 = .ok (.getfield 57, 3) := by decide +kernel
theorem dX9_planElement_43 : decode cX9_planElement 43 = .ok (.iload_n 2, 1) := by decide +kernel
theorem dX9_planElement_44 : decode cX9_planElement 44 = .ok (.iload_n 1, 1) := by decide +kernel
theorem dX9_planElement_45 : decode cX9_planElement 45 = .ok (.invokevirtual 343, 3) := by decide +kernel
theorem dX9_planElement_48 : decode cX9_planElement 48 = .ok (.istore_n 3, 1) := by decide +kernel
theorem dX9_planElement_49 : decode cX9_planElement 49 = .ok (.iload_n 3, 1) := by decide +kernel
theorem dX9_planElement_50 : decode cX9_planElement 50 = .ok (.iconst (-1), 1) := by decide +kernel
theorem dX9_planElement_51 : decode cX9_planElement 51 = .ok (.if_icmp .eq 26, 3) := by decide +kernel
theorem dX9_planElement_54 : decode cX9_planElement 54 = .ok (.aload_n 0, 1) := by decide +kernel
theorem dX9_planElement_55 : decode cX9_planElement 55 = .ok (.getfield 35, 3) := by decide +kernel
theorem dX9_planElement_58 : decode cX9_planElement 58 = .ok (.aload_n 0, 1) := by decide +kernel
theorem dX9_planElement_59 : decode cX9_planElement 59 = .ok (.getfield 22, 3) := by decide +kernel
theorem dX9_planElement_62 : decode cX9_planElement 62 = .ok (.getfield 175, 3) := by decide +kernel
theorem dX9_planElement_65 : decode cX9_planElement 65 = .ok (.iload_n 3, 1) := by decide +kernel
theorem dX9_planElement_66 : decode cX9_planElement 66 = .ok (.iload_n 1, 1) := by decide +kernel
theorem dX9_planElement_67 : decode cX9_planElement 67 = .ok (.invokevirtual 347, 3) := by decide +kernel
theorem dX9_planElement_70 : decode cX9_planElement 70 = .ok (.ifCond .eq 7, 3) := by decide +kernel
theorem dX9_planElement_73 : decode cX9_planElement 73 = .ok (.iconst 1, 1) := by decide +kernel
theorem dX9_planElement_74 : decode cX9_planElement 74 = .ok (.goto 4, 3) := by decide +kernel
theorem dX9_planElement_77 : decode cX9_planElement 77 = .ok (.iconst 0, 1) := by decide +kernel
theorem dX9_planElement_78 : decode cX9_planElement 78 = .ok (.ireturn, 1) := by decide +kernel
theorem dX9_doLine_0 : decode cX9_doLine 0 = .ok (.aload_n 0, 1) := by decide +kernel
theorem dX9_doLine_1 : decode cX9_doLine 1 = .ok (.getfield 42, 3) := by decide +kernel
theorem dX9_doLine_4 : decode cX9_doLine 4 = .ok (.iload_n 1, 1) := by decide +kernel
theorem dX9_doLine_5 : decode cX9_doLine 5 = .ok (.iconst 0, 1) := by decide +kernel
theorem dX9_doLine_6 : decode cX9_doLine 6 = .ok (.invokevirtual 351, 3) := by decide +kernel
theorem dX9_doLine_9 : decode cX9_doLine 9 = .ok (.istore_n 2, 1) := by decide +kernel
theorem dX9_doLine_10 : decode cX9_doLine 10 = .ok (.aload_n 0, 1) := by decide +kernel
theorem dX9_doLine_11 : decode cX9_doLine 11 = .ok (.getfield 42, 3) := by decide +kernel
theorem dX9_doLine_14 : decode cX9_doLine 14 = .ok (.iload_n 1, 1) := by decide +kernel
theorem dX9_doLine_15 : decode cX9_doLine 15 = .ok (.iconst 1, 1) := by decide +kernel
theorem dX9_doLine_16 : decode cX9_doLine 16 = .ok (.invokevirtual 351, 3) := by decide +kernel
theorem dX9_doLine_19 : decode cX9_doLine 19 = .ok (.istore_n 3, 1) := by decide +kernel
theorem dX9_doLine_20 : decode cX9_doLine 20 = .ok (.aload_n 0, 1) := by decide +kernel
theorem dX9_doLine_21 : decode cX9_doLine 21 = .ok (.getfield 42, 3) := by decide +kernel
theorem dX9_doLine_24 : decode cX9_doLine 24 = .ok (.iload_n 1, 1) := by decide +kernel
theorem dX9_doLine_25 : decode cX9_doLine 25 = .ok (.iconst 2, 1) := by decide +kernel
theorem dX9_doLine_26 : decode cX9_doLine 26 = .ok (.invokevirtual 351, 3) := by decide +kernel
theorem dX9_doLine_29 : decode cX9_doLine 29 = .ok (.istore 4, 2) := by decide +kernel
theorem dX9_doLine_31 : decode cX9_doLine 31 = .ok (.aload_n 0, 1) := by decide +kernel
theorem dX9_doLine_32 : decode cX9_doLine 32 = .ok (.getfield 42, 3) := by decide +kernel
theorem dX9_doLine_35 : decode cX9_doLine 35 = .ok (.getfield 354, 3) := by decide +kernel
theorem dX9_doLine_38 : decode cX9_doLine 38 = .ok (.iload_n 1, 1) := by decide +kernel
theorem dX9_doLine_39 : decode cX9_doLine 39 = .ok (.iaload, 1) := by decide +kernel
theorem dX9_doLine_40 : decode cX9_doLine 40 = .ok (.tableswitch 200 98 117 #[103, 200, 200, 200, 112, 200, 200, 188, 200, 200, 200, 181, 200, 194, 128, 200, 96, 200, 162, 145], 96) := by decide +kernel
theorem dX9_doLine_136 : decode cX9_doLine 136 = .ok (.aload_n 0, 1) := by decide +kernel
theorem dX9_doLine_137 : decode cX9_doLine 137 = .ok (.iload_n 2, 1) := by decide +kernel
theorem dX9_doLine_138 : decode cX9_doLine 138 = .ok (.iload_n 3, 1) := by decide +kernel
theorem dX9_doLine_139 : decode cX9_doLine 139 = .ok (.invokevirtual 357, 3) := by decide +kernel
theorem dX9_doLine_142 : decode cX9_doLine 142 = .ok (.ireturn, 1) := by decide +kernel
theorem dX9_doLine_143 : decode cX9_doLine 143 = .ok (.aload_n 0, 1) := by decide +kernel
theorem dX9_doLine_144 : decode cX9_doLine 144 = .ok (.iload_n 2, 1) := by decide +kernel
theorem dX9_doLine_145 : decode cX9_doLine 145 = .ok (.iload_n 3, 1) := by decide +kernel
theorem dX9_doLine_146 : decode cX9_doLine 146 = .ok (.iload 4, 2) := by decide +kernel
theorem dX9_doLine_148 : decode cX9_doLine 148 = .ok (.invokevirtual 359, 3) := by decide +kernel
theorem dX9_doLine_151 : decode cX9_doLine 151 = .ok (.ireturn, 1) := by decide +kernel
theorem dX9_doLine_152 : decode cX9_doLine 152 = .ok (.aload_n 0, 1) := by decide +kernel
theorem dX9_doLine_153 : decode cX9_doLine 153 = .ok (.aload_n 0, 1) := by decide +kernel
theorem dX9_doLine_154 : decode cX9_doLine 154 = .ok (.getfield 10, 3) := by decide +kernel
theorem dX9_doLine_157 : decode cX9_doLine 157 = .ok (.getfield 81, 3) := by decide +kernel
theorem dX9_doLine_160 : decode cX9_doLine 160 = .ok (.iload_n 2, 1) := by decide +kernel
theorem dX9_doLine_161 : decode cX9_doLine 161 = .ok (.invokevirtual 166, 3) := by decide +kernel
theorem dX9_doLine_164 : decode cX9_doLine 164 = .ok (.invokevirtual 363, 3) := by decide +kernel
theorem dX9_doLine_167 : decode cX9_doLine 167 = .ok (.ireturn, 1) := by decide +kernel
theorem dX9_doLine_168 : decode cX9_doLine 168 = .ok (.aload_n 0, 1) := by decide +kernel
theorem dX9_doLine_169 : decode cX9_doLine 169 = .ok (.aload_n 0, 1) := by decide +kernel
theorem dX9_doLine_170 : decode cX9_doLine 170 = .ok (.getfield 10, 3) := by decide +kernel
theorem dX9_doLine_173 : decode cX9_doLine 173 = .ok (.getfield 81, 3) := by decide +kernel
theorem dX9_doLine_176 : decode cX9_doLine 176 = .ok (.iload_n 2, 1) := by decide +kernel
theorem dX9_doLine_177 : decode cX9_doLine 177 = .ok (.invokevirtual 166, 3) := by decide +kernel
theorem dX9_doLine_180 : decode cX9_doLine 180 = .ok (.iconst 1, 1) := by decide +kernel
theorem dX9_doLine_181 : decode cX9_doLine 181 = .ok (.invokevirtual 366, 3) := by decide +kernel
theorem dX9_doLine_184 : decode cX9_doLine 184 = .ok (.ireturn, 1) := by decide +kernel
theorem dX9_doLine_185 : decode cX9_doLine 185 = .ok (.aload_n 0, 1) := by decide +kernel
theorem dX9_doLine_186 : decode cX9_doLine 186 = .ok (.aload_n 0, 1) := by decide +kernel
theorem dX9_doLine_187 : decode cX9_doLine 187 = .ok (.getfield 10, 3) := by decide +kernel
theorem dX9_doLine_190 : decode cX9_doLine 190 = .ok (.getfield 81, 3) := by decide +kernel
theorem dX9_doLine_193 : decode cX9_doLine 193 = .ok (.iload_n 2, 1) := by decide +kernel
theorem dX9_doLine_194 : decode cX9_doLine 194 = .ok (.invokevirtual 166, 3) := by decide +kernel
theorem dX9_doLine_197 : decode cX9_doLine 197 = .ok (.iconst (-1), 1) := by decide +kernel
theorem dX9_doLine_198 : decode cX9_doLine 198 = .ok (.invokevirtual 366, 3) := by decide +kernel
theorem dX9_doLine_201 : decode cX9_doLine 201 = .ok (.ireturn, 1) := by decide +kernel
theorem dX9_doLine_202 : decode cX9_doLine 202 = .ok (.aload_n 0, 1) := by decide +kernel
theorem dX9_doLine_203 : decode cX9_doLine 203 = .ok (.aload_n 0, 1) := by decide +kernel
theorem dX9_doLine_204 : decode cX9_doLine 204 = .ok (.getfield 10, 3) := by decide +kernel
theorem dX9_doLine_207 : decode cX9_doLine 207 = .ok (.getfield 81, 3) := by decide +kernel
theorem dX9_doLine_210 : decode cX9_doLine 210 = .ok (.iload_n 2, 1) := by decide +kernel
theorem dX9_doLine_211 : decode cX9_doLine 211 = .ok (.invokevirtual 166, 3) := by decide +kernel
theorem dX9_doLine_214 : decode cX9_doLine 214 = .ok (.iload_n 3, 1) := by decide +kernel
theorem dX9_doLine_215 : decode cX9_doLine 215 = .ok (.iload 4, 2) := by decide +kernel
theorem dX9_doLine_217 : decode cX9_doLine 217 = .ok (.invokevirtual 369, 3) := by decide +kernel
theorem dX9_doLine_220 : decode cX9_doLine 220 = .ok (.ireturn, 1) := by decide +kernel
theorem dX9_doLine_221 : decode cX9_doLine 221 = .ok (.aload_n 0, 1) := by decide +kernel
theorem dX9_doLine_222 : decode cX9_doLine 222 = .ok (.iload_n 2, 1) := by decide +kernel
theorem dX9_doLine_223 : decode cX9_doLine 223 = .ok (.iload_n 3, 1) := by decide +kernel
theorem dX9_doLine_224 : decode cX9_doLine 224 = .ok (.invokevirtual 372, 3) := by decide +kernel
theorem dX9_doLine_227 : decode cX9_doLine 227 = .ok (.ireturn, 1) := by decide +kernel
theorem dX9_doLine_228 : decode cX9_doLine 228 = .ok (.aload_n 0, 1) := by decide +kernel
theorem dX9_doLine_229 : decode cX9_doLine 229 = .ok (.iload_n 2, 1) := by decide +kernel
theorem dX9_doLine_230 : decode cX9_doLine 230 = .ok (.invokevirtual 375, 3) := by decide +kernel
theorem dX9_doLine_233 : decode cX9_doLine 233 = .ok (.ireturn, 1) := by decide +kernel
theorem dX9_doLine_234 : decode cX9_doLine 234 = .ok (.aload_n 0, 1) := by decide +kernel
theorem dX9_doLine_235 : decode cX9_doLine 235 = .ok (.iload_n 2, 1) := by decide +kernel
theorem dX9_doLine_236 : decode cX9_doLine 236 = .ok (.invokevirtual 378, 3) := by decide +kernel
theorem dX9_doLine_239 : decode cX9_doLine 239 = .ok (.ireturn, 1) := by decide +kernel
theorem dX9_doLine_240 : decode cX9_doLine 240 = .ok (.aload_n 0, 1) := by decide +kernel
theorem dX9_doLine_241 : decode cX9_doLine 241 = .ok (.invokevirtual 381, 3) := by decide +kernel
theorem dX9_doLine_244 : decode cX9_doLine 244 = .ok (.ireturn, 1) := by decide +kernel
theorem dX9_tagByLine_0 : decode cX9_tagByLine 0 = .ok (.iload_n 2, 1) := by decide +kernel
theorem dX9_tagByLine_1 : decode cX9_tagByLine 1 = .ok (.iconst 5, 1) := by decide +kernel
theorem dX9_tagByLine_2 : decode cX9_tagByLine 2 = .ok (.if_icmp .ge 9, 3) := by decide +kernel
theorem dX9_tagByLine_5 : decode cX9_tagByLine 5 = .ok (.iload_n 3, 1) := by decide +kernel
theorem dX9_tagByLine_6 : decode cX9_tagByLine 6 = .ok (.bipush 100, 2) := by decide +kernel
theorem dX9_tagByLine_8 : decode cX9_tagByLine 8 = .ok (.if_icmp .lt 5, 3) := by decide +kernel
theorem dX9_tagByLine_11 : decode cX9_tagByLine 11 = .ok (.iconst (-1), 1) := by decide +kernel
theorem dX9_tagByLine_12 : decode cX9_tagByLine 12 = .ok (.ireturn, 1) := by decide +kernel
theorem dX9_tagByLine_13 : decode cX9_tagByLine 13 = .ok (.aload_n 0, 1) := by decide +kernel
theorem dX9_tagByLine_14 : decode cX9_tagByLine 14 = .ok (.iload_n 1, 1) := by decide +kernel
theorem dX9_tagByLine_15 : decode cX9_tagByLine 15 = .ok (.bipush 100, 2) := by decide +kernel
theorem dX9_tagByLine_17 : decode cX9_tagByLine 17 = .ok (.iload_n 2, 1) := by decide +kernel
theorem dX9_tagByLine_18 : decode cX9_tagByLine 18 = .ok (.imul, 1) := by decide +kernel
theorem dX9_tagByLine_19 : decode cX9_tagByLine 19 = .ok (.iload_n 3, 1) := by decide +kernel
theorem dX9_tagByLine_20 : decode cX9_tagByLine 20 = .ok (.iadd, 1) := by decide +kernel
theorem dX9_tagByLine_21 : decode cX9_tagByLine 21 = .ok (.invokevirtual 384, 3) := by decide +kernel
theorem dX9_tagByLine_24 : decode cX9_tagByLine 24 = .ok (.ireturn, 1) := by decide +kernel
theorem dX10_init_0 : decode cX10_init 0 = .ok (.aload_n 0, 1) := by decide +kernel
theorem dX10_init_1 : decode cX10_init 1 = .ok (.invokespecial 3, 3) := by decide +kernel
theorem dX10_init_4 : decode cX10_init 4 = .ok (.aload_n 0, 1) := by decide +kernel
theorem dX10_init_5 : decode cX10_init 5 = .ok (.sipush 607, 3) := by decide +kernel
theorem dX10_init_8 : decode cX10_init 8 = .ok (.newarray .int, 2) := by decide +kernel
theorem dX10_init_10 : decode cX10_init 10 = .ok (.putfield 9, 3) := by decide +kernel
theorem dX10_init_13 : decode cX10_init 13 = .ok (.aload_n 0, 1) := by decide +kernel
theorem dX10_init_14 : decode cX10_init 14 = .ok (.sipush 607, 3) := by decide +kernel
theorem dX10_init_17 : decode cX10_init 17 = .ok (.newarray .int, 2) := by decide +kernel
theorem dX10_init_19 : decode cX10_init 19 = .ok (.putfield 13, 3) := by decide +kernel
theorem dX10_init_22 : decode cX10_init 22 = .ok (.aload_n 0, 1) := by decide +kernel
theorem dX10_init_23 : decode cX10_init 23 = .ok (.sipush 607, 3) := by decide +kernel
theorem dX10_init_26 : decode cX10_init 26 = .ok (.newarray .int, 2) := by decide +kernel
theorem dX10_init_28 : decode cX10_init 28 = .ok (.putfield 16, 3) := by decide +kernel
theorem dX10_init_31 : decode cX10_init 31 = .ok (.aload_n 0, 1) := by decide +kernel
theorem dX10_init_32 : decode cX10_init 32 = .ok (.sipush 607, 3) := by decide +kernel
theorem dX10_init_35 : decode cX10_init 35 = .ok (.newarray .int, 2) := by decide +kernel
theorem dX10_init_37 : decode cX10_init 37 = .ok (.putfield 19, 3) := by decide +kernel
theorem dX10_init_40 : decode cX10_init 40 = .ok (.aload_n 0, 1) := by decide +kernel
theorem dX10_init_41 : decode cX10_init 41 = .ok (.sipush 240, 3) := by decide +kernel
theorem dX10_init_44 : decode cX10_init 44 = .ok (.newarray .int, 2) := by decide +kernel
theorem dX10_init_46 : decode cX10_init 46 = .ok (.putfield 22, 3) := by decide +kernel
theorem dX10_init_49 : decode cX10_init 49 = .ok (.aload_n 0, 1) := by decide +kernel
theorem dX10_init_50 : decode cX10_init 50 = .ok (.sipush 240, 3) := by decide +kernel
theorem dX10_init_53 : decode cX10_init 53 = .ok (.newarray .int, 2) := by decide +kernel
theorem dX10_init_55 : decode cX10_init 55 = .ok (.putfield 25, 3) := by decide +kernel
theorem dX10_init_58 : decode cX10_init 58 = .ok (.aload_n 0, 1) := by decide +kernel
theorem dX10_init_59 : decode cX10_init 59 = .ok (.bipush 60, 2) := by decide +kernel
theorem dX10_init_61 : decode cX10_init 61 = .ok (.newarray .int, 2) := by decide +kernel
theorem dX10_init_63 : decode cX10_init 63 = .ok (.putfield 28, 3) := by decide +kernel
theorem dX10_init_66 : decode cX10_init 66 = .ok (.aload_n 0, 1) := by decide +kernel
theorem dX10_init_67 : decode cX10_init 67 = .ok (.bipush 30, 2) := by decide +kernel
theorem dX10_init_69 : decode cX10_init 69 = .ok (.newarray .int, 2) := by decide +kernel
theorem dX10_init_71 : decode cX10_init 71 = .ok (.putfield 31, 3) := by decide +kernel
theorem dX10_init_74 : decode cX10_init 74 = .ok (.aload_n 0, 1) := by decide +kernel
theorem dX10_init_75 : decode cX10_init 75 = .ok (.bipush 30, 2) := by decide +kernel
theorem dX10_init_77 : decode cX10_init 77 = .ok (.newarray .int, 2) := by decide +kernel
theorem dX10_init_79 : decode cX10_init 79 = .ok (.putfield 34, 3) := by decide +kernel
theorem dX10_init_82 : decode cX10_init 82 = .ok (.aload_n 0, 1) := by decide +kernel
theorem dX10_init_83 : decode cX10_init 83 = .ok (.bipush 120, 2) := by decide +kernel
theorem dX10_init_85 : decode cX10_init 85 = .ok (.newarray .int, 2) := by decide +kernel
theorem dX10_init_87 : decode cX10_init 87 = .ok (.putfield 37, 3) := by decide +kernel
theorem dX10_init_90 : decode cX10_init 90 = .ok (.aload_n 0, 1) := by decide +kernel
theorem dX10_init_91 : decode cX10_init 91 = .ok (.bipush 6, 2) := by decide +kernel
theorem dX10_init_93 : decode cX10_init 93 = .ok (.newarray .int, 2) := by decide +kernel
theorem dX10_init_95 : decode cX10_init 95 = .ok (.putfield 40, 3) := by decide +kernel
theorem dX10_init_98 : decode cX10_init 98 = .ok (.aload_n 0, 1) := by decide +kernel
theorem dX10_init_99 : decode cX10_init 99 = .ok (.bipush 6, 2) := by decide +kernel
theorem dX10_init_101 : decode cX10_init 101 = .ok (.newarray .int, 2) := by decide +kernel
theorem dX10_init_103 : decode cX10_init 103 = .ok (.putfield 43, 3) := by decide +kernel
theorem dX10_init_106 : decode cX10_init 106 = .ok (.aload_n 0, 1) := by decide +kernel
theorem dX10_init_107 : decode cX10_init 107 = .ok (.bipush 6, 2) := by decide +kernel
theorem dX10_init_109 : decode cX10_init 109 = .ok (.newarray .int, 2) := by decide +kernel
theorem dX10_init_111 : decode cX10_init 111 = .ok (.putfield 46, 3) := by decide +kernel
theorem dX10_init_114 : decode cX10_init 114 = .ok (.aload_n 0, 1) := by decide +kernel
theorem dX10_init_115 : decode cX10_init 115 = .ok (.bipush 6, 2) := by decide +kernel
theorem dX10_init_117 : decode cX10_init 117 = .ok (.bipush 60, 2) := by decide +kernel
theorem dX10_init_119 : decode cX10_init 119 = .ok (.multianewarray 49 2, 4) := by decide +kernel
theorem dX10_init_123 : decode cX10_init 123 = .ok (.putfield 51, 3) := by decide +kernel
theorem dX10_init_126 : decode cX10_init 126 = .ok (.aload_n 0, 1) := by decide +kernel
theorem dX10_init_127 : decode cX10_init 127 = .ok (.iconst 3, 1) := by decide +kernel
theorem dX10_init_128 : decode cX10_init 128 = .ok (.newarray .int, 2) := by decide +kernel
theorem dX10_init_130 : decode cX10_init 130 = .ok (.putfield 54, 3) := by decide +kernel
theorem dX10_init_133 : decode cX10_init 133 = .ok (.iconst 0, 1) := by decide +kernel
theorem dX10_init_134 : decode cX10_init 134 = .ok (.istore_n 1, 1) := by decide +kernel
theorem dX10_init_135 : decode cX10_init 135 = .ok (.iload_n 1, 1) := by decide +kernel
theorem dX10_init_136 : decode cX10_init 136 = .ok (.bipush 10, 2) := by decide +kernel
theorem dX10_init_138 : decode cX10_init 138 = .ok (.if_icmp .ge 22, 3) := by decide +kernel
theorem dX10_init_141 : decode cX10_init 141 = .ok (.aload_n 0, 1) := by decide +kernel
theorem dX10_init_142 : decode cX10_init 142 = .ok (.getfield 9, 3) := by decide +kernel
theorem dX10_init_145 : decode cX10_init 145 = .ok (.sipush 589, 3) := by decide +kernel
theorem dX10_init_148 : decode cX10_init 148 = .ok (.iload_n 1, 1) := by decide +kernel
theorem dX10_init_149 : decode cX10_init 149 = .ok (.iadd, 1) := by decide +kernel
theorem dX10_init_150 : decode cX10_init 150 = .ok (.sipush 240, 3) := by decide +kernel
theorem dX10_init_153 : decode cX10_init 153 = .ok (.iastore, 1) := by decide +kernel
theorem dX10_init_154 : decode cX10_init 154 = .ok (.iinc 1 1, 3) := by decide +kernel
theorem dX10_init_157 : decode cX10_init 157 = .ok (.goto (-22), 3) := by decide +kernel
theorem dX10_init_160 : decode cX10_init 160 = .ok (.iconst 0, 1) := by decide +kernel
theorem dX10_init_161 : decode cX10_init 161 = .ok (.istore_n 1, 1) := by decide +kernel
theorem dX10_init_162 : decode cX10_init 162 = .ok (.iload_n 1, 1) := by decide +kernel
theorem dX10_init_163 : decode cX10_init 163 = .ok (.bipush 6, 2) := by decide +kernel
theorem dX10_init_165 : decode cX10_init 165 = .ok (.if_icmp .ge 20, 3) := by decide +kernel
theorem dX10_init_168 : decode cX10_init 168 = .ok (.aload_n 0, 1) := by decide +kernel
theorem dX10_init_169 : decode cX10_init 169 = .ok (.getfield 9, 3) := by decide +kernel
theorem dX10_init_172 : decode cX10_init 172 = .ok (.sipush 599, 3) := by decide +kernel
theorem dX10_init_175 : decode cX10_init 175 = .ok (.iload_n 1, 1) := by decide +kernel
theorem dX10_init_176 : decode cX10_init 176 = .ok (.iadd, 1) := by decide +kernel
theorem dX10_init_177 : decode cX10_init 177 = .ok (.iconst (-1), 1) := by decide +kernel
theorem dX10_init_178 : decode cX10_init 178 = .ok (.iastore, 1) := by decide +kernel
theorem dX10_init_179 : decode cX10_init 179 = .ok (.iinc 1 1, 3) := by decide +kernel
theorem dX10_init_182 : decode cX10_init 182 = .ok (.goto (-20), 3) := by decide +kernel
theorem dX10_init_185 : decode cX10_init 185 = .ok (.return_, 1) := by decide +kernel
theorem dX10_in_0 : decode cX10_in 0 = .ok (.iload_n 0, 1) := by decide +kernel
theorem dX10_in_1 : decode cX10_in 1 = .ok (.iload_n 1, 1) := by decide +kernel
theorem dX10_in_2 : decode cX10_in 2 = .ok (.if_icmp .lt 12, 3) := by decide +kernel
theorem dX10_in_5 : decode cX10_in 5 = .ok (.iload_n 0, 1) := by decide +kernel
theorem dX10_in_6 : decode cX10_in 6 = .ok (.iload_n 2, 1) := by decide +kernel
theorem dX10_in_7 : decode cX10_in 7 = .ok (.if_icmp .gt 7, 3) := by decide +kernel
theorem dX10_in_10 : decode cX10_in 10 = .ok (.iconst 1, 1) := by decide +kernel
theorem dX10_in_11 : decode cX10_in 11 = .ok (.goto 4, 3) := by decide +kernel
theorem dX10_in_14 : decode cX10_in 14 = .ok (.iconst 0, 1) := by decide +kernel
theorem dX10_in_15 : decode cX10_in 15 = .ok (.ireturn, 1) := by decide +kernel
theorem dX10_take_0 : decode cX10_take 0 = .ok (.iconst 0, 1) := by decide +kernel
theorem dX10_take_1 : decode cX10_take 1 = .ok (.istore_n 2, 1) := by decide +kernel
theorem dX10_take_2 : decode cX10_take 2 = .ok (.iload_n 2, 1) := by decide +kernel
theorem dX10_take_3 : decode cX10_take 3 = .ok (.sipush 607, 3) := by decide +kernel
theorem dX10_take_6 : decode cX10_take 6 = .ok (.if_icmp .ge 15, 3) := by decide +kernel
theorem dX10_take_9 : decode cX10_take 9 = .ok (.aload_n 1, 1) := by decide +kernel
theorem dX10_take_10 : decode cX10_take 10 = .ok (.iload_n 2, 1) := by decide +kernel
theorem dX10_take_11 : decode cX10_take 11 = .ok (.aload_n 0, 1) := by decide +kernel
theorem dX10_take_12 : decode cX10_take 12 = .ok (.iload_n 2, 1) := by decide +kernel
theorem dX10_take_13 : decode cX10_take 13 = .ok (.iaload, 1) := by decide +kernel
theorem dX10_take_14 : decode cX10_take 14 = .ok (.iastore, 1) := by decide +kernel
theorem dX10_take_15 : decode cX10_take 15 = .ok (.iinc 2 1, 3) := by decide +kernel
theorem dX10_take_18 : decode cX10_take 18 = .ok (.goto (-16), 3) := by decide +kernel
theorem dX10_take_21 : decode cX10_take 21 = .ok (.return_, 1) := by decide +kernel
theorem dX10_at_0 : decode cX10_at 0 = .ok (.aload_n 0, 1) := by decide +kernel
theorem dX10_at_1 : decode cX10_at 1 = .ok (.getfield 9, 3) := by decide +kernel
theorem dX10_at_4 : decode cX10_at 4 = .ok (.iload_n 1, 1) := by decide +kernel
theorem dX10_at_5 : decode cX10_at 5 = .ok (.bipush 11, 2) := by decide +kernel
theorem dX10_at_7 : decode cX10_at 7 = .ok (.imul, 1) := by decide +kernel
theorem dX10_at_8 : decode cX10_at 8 = .ok (.iload_n 2, 1) := by decide +kernel
theorem dX10_at_9 : decode cX10_at 9 = .ok (.iadd, 1) := by decide +kernel
theorem dX10_at_10 : decode cX10_at 10 = .ok (.iaload, 1) := by decide +kernel
theorem dX10_at_11 : decode cX10_at 11 = .ok (.ireturn, 1) := by decide +kernel
theorem dX10_sets_0 : decode cX10_sets 0 = .ok (.aload_n 0, 1) := by decide +kernel
theorem dX10_sets_1 : decode cX10_sets 1 = .ok (.getfield 9, 3) := by decide +kernel
theorem dX10_sets_4 : decode cX10_sets 4 = .ok (.iload_n 1, 1) := by decide +kernel
theorem dX10_sets_5 : decode cX10_sets 5 = .ok (.bipush 11, 2) := by decide +kernel
theorem dX10_sets_7 : decode cX10_sets 7 = .ok (.imul, 1) := by decide +kernel
theorem dX10_sets_8 : decode cX10_sets 8 = .ok (.iload_n 2, 1) := by decide +kernel
theorem dX10_sets_9 : decode cX10_sets 9 = .ok (.iadd, 1) := by decide +kernel
theorem dX10_sets_10 : decode cX10_sets 10 = .ok (.iload_n 3, 1) := by decide +kernel
theorem dX10_sets_11 : decode cX10_sets 11 = .ok (.iastore, 1) := by decide +kernel
theorem dX10_sets_12 : decode cX10_sets 12 = .ok (.return_, 1) := by decide +kernel
theorem dX10_isLive_0 : decode cX10_isLive 0 = .ok (.aload_n 0, 1) := by decide +kernel
theorem dX10_isLive_1 : decode cX10_isLive 1 = .ok (.iload_n 1, 1) := by decide +kernel
theorem dX10_isLive_2 : decode cX10_isLive 2 = .ok (.iconst 0, 1) := by decide +kernel
theorem dX10_isLive_3 : decode cX10_isLive 3 = .ok (.invokevirtual 57, 3) := by decide +kernel
theorem dX10_isLive_6 : decode cX10_isLive 6 = .ok (.iconst 1, 1) := by decide +kernel
theorem dX10_isLive_7 : decode cX10_isLive 7 = .ok (.if_icmp .ne 7, 3) := by decide +kernel
theorem dX10_isLive_10 : decode cX10_isLive 10 = .ok (.iconst 1, 1) := by decide +kernel
theorem dX10_isLive_11 : decode cX10_isLive 11 = .ok (.goto 4, 3) := by decide +kernel
theorem dX10_isLive_14 : decode cX10_isLive 14 = .ok (.iconst 0, 1) := by decide +kernel
theorem dX10_isLive_15 : decode cX10_isLive 15 = .ok (.ireturn, 1) := by decide +kernel
theorem dX10_handleOf_0 : decode cX10_handleOf 0 = .ok (.bipush 100, 2) := by decide +kernel
theorem dX10_handleOf_2 : decode cX10_handleOf 2 = .ok (.aload_n 0, 1) := by decide +kernel
theorem dX10_handleOf_3 : decode cX10_handleOf 3 = .ok (.iload_n 1, 1) := by decide +kernel
theorem dX10_handleOf_4 : decode cX10_handleOf 4 = .ok (.iconst 1, 1) := by decide +kernel
theorem dX10_handleOf_5 : decode cX10_handleOf 5 = .ok (.invokevirtual 57, 3) := by decide +kernel
theorem dX10_handleOf_8 : decode cX10_handleOf 8 = .ok (.imul, 1) := by decide +kernel
theorem dX10_handleOf_9 : decode cX10_handleOf 9 = .ok (.iload_n 1, 1) := by decide +kernel
theorem dX10_handleOf_10 : decode cX10_handleOf 10 = .ok (.iadd, 1) := by decide +kernel
theorem dX10_handleOf_11 : decode cX10_handleOf 11 = .ok (.ireturn, 1) := by decide +kernel
theorem dX10_good_0 : decode cX10_good 0 = .ok (.iload_n 1, 1) := by decide +kernel
theorem dX10_good_1 : decode cX10_good 1 = .ok (.ifCond .ge 8, 3) := by decide +kernel
theorem dX10_good_4 : decode cX10_good 4 = .ok (.bipush 30, 2) := by decide +kernel
theorem dX10_good_6 : decode cX10_good 6 = .ok (.goto 7, 3) := by decide +kernel
theorem dX10_good_9 : decode cX10_good 9 = .ok (.iload_n 1, 1) := by decide +kernel
theorem dX10_good_10 : decode cX10_good 10 = .ok (.bipush 100, 2) := by decide +kernel
theorem dX10_good_12 : decode cX10_good 12 = .ok (.irem, 1) := by decide +kernel
theorem dX10_good_13 : decode cX10_good 13 = .ok (.istore_n 2, 1) := by decide +kernel
theorem dX10_good_14 : decode cX10_good 14 = .ok (.iload_n 2, 1) := by decide +kernel
theorem dX10_good_15 : decode cX10_good 15 = .ok (.bipush 30, 2) := by decide +kernel
theorem dX10_good_17 : decode cX10_good 17 = .ok (.if_icmp .ge 28, 3) := by decide +kernel
theorem dX10_good_20 : decode cX10_good 20 = .ok (.aload_n 0, 1) := by decide +kernel
theorem dX10_good_21 : decode cX10_good 21 = .ok (.iload_n 2, 1) := by decide +kernel
theorem dX10_good_22 : decode cX10_good 22 = .ok (.invokevirtual 61, 3) := by decide +kernel
theorem dX10_good_25 : decode cX10_good 25 = .ok (.ifCond .eq 20, 3) := by decide +kernel
theorem dX10_good_28 : decode cX10_good 28 = .ok (.aload_n 0, 1) := by decide +kernel
theorem dX10_good_29 : decode cX10_good 29 = .ok (.iload_n 2, 1) := by decide +kernel
theorem dX10_good_30 : decode cX10_good 30 = .ok (.iconst 1, 1) := by decide +kernel
theorem dX10_good_31 : decode cX10_good 31 = .ok (.invokevirtual 57, 3) := by decide +kernel
theorem dX10_good_34 : decode cX10_good 34 = .ok (.iload_n 1, 1) := by decide +kernel
theorem dX10_good_35 : decode cX10_good 35 = .ok (.bipush 100, 2) := by decide +kernel
theorem dX10_good_37 : decode cX10_good 37 = .ok (.idiv, 1) := by decide +kernel
theorem dX10_good_38 : decode cX10_good 38 = .ok (.if_icmp .ne 7, 3) := by decide +kernel
theorem dX10_good_41 : decode cX10_good 41 = .ok (.iload_n 2, 1) := by decide +kernel
theorem dX10_good_42 : decode cX10_good 42 = .ok (.goto 5, 3) := by decide +kernel
theorem dX10_good_45 : decode cX10_good 45 = .ok (.bipush (-2), 2) := by decide +kernel
theorem dX10_good_47 : decode cX10_good 47 = .ok (.ireturn, 1) := by decide +kernel
theorem dX10_isRegion_0 : decode cX10_isRegion 0 = .ok (.iload_n 1, 1) := by decide +kernel
theorem dX10_isRegion_1 : decode cX10_isRegion 1 = .ok (.iconst 0, 1) := by decide +kernel
theorem dX10_isRegion_2 : decode cX10_isRegion 2 = .ok (.aload_n 0, 1) := by decide +kernel
theorem dX10_isRegion_3 : decode cX10_isRegion 3 = .ok (.getfield 9, 3) := by decide +kernel
theorem dX10_isRegion_6 : decode cX10_isRegion 6 = .ok (.sipush 570, 3) := by decide +kernel
theorem dX10_isRegion_9 : decode cX10_isRegion 9 = .ok (.iaload, 1) := by decide +kernel
theorem dX10_isRegion_10 : decode cX10_isRegion 10 = .ok (.iconst 1, 1) := by decide +kernel
theorem dX10_isRegion_11 : decode cX10_isRegion 11 = .ok (.isub, 1) := by decide +kernel
theorem dX10_isRegion_12 : decode cX10_isRegion 12 = .ok (.invokestatic 65, 3) := by decide +kernel
theorem dX10_isRegion_15 : decode cX10_isRegion 15 = .ok (.ireturn, 1) := by decide +kernel
theorem dX10_laid_0 : decode cX10_laid 0 = .ok (.iconst 0, 1) := by decide +kernel
