theorem d_C_byteBefore_0 : decode M_C_byteBefore.2.1 0 = .ok (.iload_n 1, 1) := by decide +kernel
theorem d_C_byteBefore_1 : decode M_C_byteBefore.2.1 1 = .ok (.ifCond .lt 20, 3) := by decide +kernel
theorem d_C_byteBefore_4 : decode M_C_byteBefore.2.1 4 = .ok (.iload_n 1, 1) := by decide +kernel
theorem d_C_byteBefore_5 : decode M_C_byteBefore.2.1 5 = .ok (.iload_n 2, 1) := by decide +kernel
theorem d_C_byteBefore_6 : decode M_C_byteBefore.2.1 6 = .ok (.if_icmp .ge 15, 3) := by decide +kernel
theorem d_C_byteBefore_9 : decode M_C_byteBefore.2.1 9 = .ok (.iload_n 1, 1) := by decide +kernel
theorem d_C_byteBefore_10 : decode M_C_byteBefore.2.1 10 = .ok (.aload_n 0, 1) := by decide +kernel
theorem d_C_byteBefore_11 : decode M_C_byteBefore.2.1 11 = .ok (.arraylength, 1) := by decide +kernel
theorem d_C_byteBefore_12 : decode M_C_byteBefore.2.1 12 = .ok (.if_icmp .ge 9, 3) := by decide +kernel
theorem d_C_byteBefore_15 : decode M_C_byteBefore.2.1 15 = .ok (.aload_n 0, 1) := by decide +kernel
theorem d_C_byteBefore_16 : decode M_C_byteBefore.2.1 16 = .ok (.iload_n 1, 1) := by decide +kernel
theorem d_C_byteBefore_17 : decode M_C_byteBefore.2.1 17 = .ok (.iaload, 1) := by decide +kernel
theorem d_C_byteBefore_18 : decode M_C_byteBefore.2.1 18 = .ok (.goto 4, 3) := by decide +kernel
theorem d_C_byteBefore_21 : decode M_C_byteBefore.2.1 21 = .ok (.iconst 0, 1) := by decide +kernel
theorem d_C_byteBefore_22 : decode M_C_byteBefore.2.1 22 = .ok (.ireturn, 1) := by decide +kernel
theorem d_C_clearColumn_0 : decode M_C_clearColumn.2.1 0 = .ok (.iconst 0, 1) := by decide +kernel
theorem d_C_clearColumn_1 : decode M_C_clearColumn.2.1 1 = .ok (.istore_n 3, 1) := by decide +kernel
theorem d_C_clearColumn_2 : decode M_C_clearColumn.2.1 2 = .ok (.iload_n 3, 1) := by decide +kernel
theorem d_C_clearColumn_3 : decode M_C_clearColumn.2.1 3 = .ok (.iload_n 2, 1) := by decide +kernel
theorem d_C_clearColumn_4 : decode M_C_clearColumn.2.1 4 = .ok (.if_icmp .ge 108, 3) := by decide +kernel
theorem d_C_clearColumn_7 : decode M_C_clearColumn.2.1 7 = .ok (.iload_n 3, 1) := by decide +kernel
theorem d_C_clearColumn_8 : decode M_C_clearColumn.2.1 8 = .ok (.iload_n 1, 1) := by decide +kernel
theorem d_C_clearColumn_9 : decode M_C_clearColumn.2.1 9 = .ok (.if_icmp .ne 7, 3) := by decide +kernel
theorem d_C_clearColumn_12 : decode M_C_clearColumn.2.1 12 = .ok (.iconst 0, 1) := by decide +kernel
theorem d_C_clearColumn_13 : decode M_C_clearColumn.2.1 13 = .ok (.goto 11, 3) := by decide +kernel
theorem d_C_clearColumn_16 : decode M_C_clearColumn.2.1 16 = .ok (.aload_n 0, 1) := by decide +kernel
theorem d_C_clearColumn_17 : decode M_C_clearColumn.2.1 17 = .ok (.getfield 29, 3) := by decide +kernel
theorem d_C_clearColumn_20 : decode M_C_clearColumn.2.1 20 = .ok (.iload_n 3, 1) := by decide +kernel
theorem d_C_clearColumn_21 : decode M_C_clearColumn.2.1 21 = .ok (.aaload, 1) := by decide +kernel
theorem d_C_clearColumn_22 : decode M_C_clearColumn.2.1 22 = .ok (.iload_n 1, 1) := by decide +kernel
theorem d_C_clearColumn_23 : decode M_C_clearColumn.2.1 23 = .ok (.iaload, 1) := by decide +kernel
theorem d_C_clearColumn_24 : decode M_C_clearColumn.2.1 24 = .ok (.istore 4, 2) := by decide +kernel
theorem d_C_clearColumn_26 : decode M_C_clearColumn.2.1 26 = .ok (.iconst 0, 1) := by decide +kernel
theorem d_C_clearColumn_27 : decode M_C_clearColumn.2.1 27 = .ok (.istore 5, 2) := by decide +kernel
theorem d_C_clearColumn_29 : decode M_C_clearColumn.2.1 29 = .ok (.iload 5, 2) := by decide +kernel
theorem d_C_clearColumn_31 : decode M_C_clearColumn.2.1 31 = .ok (.iload_n 2, 1) := by decide +kernel
theorem d_C_clearColumn_32 : decode M_C_clearColumn.2.1 32 = .ok (.if_icmp .ge 74, 3) := by decide +kernel
theorem d_C_clearColumn_35 : decode M_C_clearColumn.2.1 35 = .ok (.iload 4, 2) := by decide +kernel
theorem d_C_clearColumn_37 : decode M_C_clearColumn.2.1 37 = .ok (.ifCond .eq 69, 3) := by decide +kernel
theorem d_C_clearColumn_40 : decode M_C_clearColumn.2.1 40 = .ok (.aload_n 0, 1) := by decide +kernel
theorem d_C_clearColumn_41 : decode M_C_clearColumn.2.1 41 = .ok (.getfield 29, 3) := by decide +kernel
theorem d_C_clearColumn_44 : decode M_C_clearColumn.2.1 44 = .ok (.iload_n 3, 1) := by decide +kernel
theorem d_C_clearColumn_45 : decode M_C_clearColumn.2.1 45 = .ok (.aaload, 1) := by decide +kernel
theorem d_C_clearColumn_46 : decode M_C_clearColumn.2.1 46 = .ok (.iload 5, 2) := by decide +kernel
theorem d_C_clearColumn_48 : decode M_C_clearColumn.2.1 48 = .ok (.dup2, 1) := by decide +kernel
theorem d_C_clearColumn_49 : decode M_C_clearColumn.2.1 49 = .ok (.iaload, 1) := by decide +kernel
theorem d_C_clearColumn_50 : decode M_C_clearColumn.2.1 50 = .ok (.aload_n 0, 1) := by decide +kernel
theorem d_C_clearColumn_51 : decode M_C_clearColumn.2.1 51 = .ok (.getfield 12, 3) := by decide +kernel
theorem d_C_clearColumn_54 : decode M_C_clearColumn.2.1 54 = .ok (.iload 4, 2) := by decide +kernel
theorem d_C_clearColumn_56 : decode M_C_clearColumn.2.1 56 = .ok (.aload_n 0, 1) := by decide +kernel
theorem d_C_clearColumn_57 : decode M_C_clearColumn.2.1 57 = .ok (.getfield 29, 3) := by decide +kernel
theorem d_C_clearColumn_60 : decode M_C_clearColumn.2.1 60 = .ok (.iload_n 1, 1) := by decide +kernel
theorem d_C_clearColumn_61 : decode M_C_clearColumn.2.1 61 = .ok (.aaload, 1) := by decide +kernel
theorem d_C_clearColumn_62 : decode M_C_clearColumn.2.1 62 = .ok (.iload 5, 2) := by decide +kernel
theorem d_C_clearColumn_64 : decode M_C_clearColumn.2.1 64 = .ok (.iaload, 1) := by decide +kernel
theorem d_C_clearColumn_65 : decode M_C_clearColumn.2.1 65 = .ok (.invokevirtual 39, 3) := by decide +kernel
theorem d_C_clearColumn_68 : decode M_C_clearColumn.2.1 68 = .ok (.ixor, 1) := by decide +kernel
theorem d_C_clearColumn_69 : decode M_C_clearColumn.2.1 69 = .ok (.iastore, 1) := by decide +kernel
theorem d_C_clearColumn_70 : decode M_C_clearColumn.2.1 70 = .ok (.aload_n 0, 1) := by decide +kernel
theorem d_C_clearColumn_71 : decode M_C_clearColumn.2.1 71 = .ok (.getfield 32, 3) := by decide +kernel
theorem d_C_clearColumn_74 : decode M_C_clearColumn.2.1 74 = .ok (.iload_n 3, 1) := by decide +kernel
theorem d_C_clearColumn_75 : decode M_C_clearColumn.2.1 75 = .ok (.aaload, 1) := by decide +kernel
theorem d_C_clearColumn_76 : decode M_C_clearColumn.2.1 76 = .ok (.iload 5, 2) := by decide +kernel
theorem d_C_clearColumn_78 : decode M_C_clearColumn.2.1 78 = .ok (.dup2, 1) := by decide +kernel
theorem d_C_clearColumn_79 : decode M_C_clearColumn.2.1 79 = .ok (.iaload, 1) := by decide +kernel
theorem d_C_clearColumn_80 : decode M_C_clearColumn.2.1 80 = .ok (.aload_n 0, 1) := by decide +kernel
theorem d_C_clearColumn_81 : decode M_C_clearColumn.2.1 81 = .ok (.getfield 12, 3) := by decide +kernel
theorem d_C_clearColumn_84 : decode M_C_clearColumn.2.1 84 = .ok (.iload 4, 2) := by decide +kernel
theorem d_C_clearColumn_86 : decode M_C_clearColumn.2.1 86 = .ok (.aload_n 0, 1) := by decide +kernel
theorem d_C_clearColumn_87 : decode M_C_clearColumn.2.1 87 = .ok (.getfield 32, 3) := by decide +kernel
theorem d_C_clearColumn_90 : decode M_C_clearColumn.2.1 90 = .ok (.iload_n 1, 1) := by decide +kernel
theorem d_C_clearColumn_91 : decode M_C_clearColumn.2.1 91 = .ok (.aaload, 1) := by decide +kernel
theorem d_C_clearColumn_92 : decode M_C_clearColumn.2.1 92 = .ok (.iload 5, 2) := by decide +kernel
theorem d_C_clearColumn_94 : decode M_C_clearColumn.2.1 94 = .ok (.iaload, 1) := by decide +kernel
theorem d_C_clearColumn_95 : decode M_C_clearColumn.2.1 95 = .ok (.invokevirtual 39, 3) := by decide +kernel
theorem d_C_clearColumn_98 : decode M_C_clearColumn.2.1 98 = .ok (.ixor, 1) := by decide +kernel
theorem d_C_clearColumn_99 : decode M_C_clearColumn.2.1 99 = .ok (.iastore, 1) := by decide +kernel
theorem d_C_clearColumn_100 : decode M_C_clearColumn.2.1 100 = .ok (.iinc 5 1, 3) := by decide +kernel
theorem d_C_clearColumn_103 : decode M_C_clearColumn.2.1 103 = .ok (.goto (-74), 3) := by decide +kernel
theorem d_C_clearColumn_106 : decode M_C_clearColumn.2.1 106 = .ok (.iinc 3 1, 3) := by decide +kernel
theorem d_C_clearColumn_109 : decode M_C_clearColumn.2.1 109 = .ok (.goto (-107), 3) := by decide +kernel
theorem d_C_clearColumn_112 : decode M_C_clearColumn.2.1 112 = .ok (.return_, 1) := by decide +kernel
theorem d_C_give_0 : decode M_C_give.2.1 0 = .ok (.iload_n 1, 1) := by decide +kernel
theorem d_C_give_1 : decode M_C_give.2.1 1 = .ok (.ifCond .lt 29, 3) := by decide +kernel
theorem d_C_give_4 : decode M_C_give.2.1 4 = .ok (.iload_n 1, 1) := by decide +kernel
theorem d_C_give_5 : decode M_C_give.2.1 5 = .ok (.iconst 5, 1) := by decide +kernel
theorem d_C_give_6 : decode M_C_give.2.1 6 = .ok (.if_icmp .ge 24, 3) := by decide +kernel
theorem d_C_give_9 : decode M_C_give.2.1 9 = .ok (.aload_n 2, 1) := by decide +kernel
theorem d_C_give_10 : decode M_C_give.2.1 10 = .ok (.arraylength, 1) := by decide +kernel
theorem d_C_give_11 : decode M_C_give.2.1 11 = .ok (.bipush 8, 2) := by decide +kernel
theorem d_C_give_13 : decode M_C_give.2.1 13 = .ok (.if_icmp .lt 17, 3) := by decide +kernel
theorem d_C_give_16 : decode M_C_give.2.1 16 = .ok (.aload_n 2, 1) := by decide +kernel
theorem d_C_give_17 : decode M_C_give.2.1 17 = .ok (.iconst 0, 1) := by decide +kernel
theorem d_C_give_18 : decode M_C_give.2.1 18 = .ok (.aload_n 0, 1) := by decide +kernel
theorem d_C_give_19 : decode M_C_give.2.1 19 = .ok (.getfield 26, 3) := by decide +kernel
theorem d_C_give_22 : decode M_C_give.2.1 22 = .ok (.iload_n 1, 1) := by decide +kernel
theorem d_C_give_23 : decode M_C_give.2.1 23 = .ok (.aaload, 1) := by decide +kernel
theorem d_C_give_24 : decode M_C_give.2.1 24 = .ok (.iconst 0, 1) := by decide +kernel
theorem d_C_give_25 : decode M_C_give.2.1 25 = .ok (.bipush 8, 2) := by decide +kernel
theorem d_C_give_27 : decode M_C_give.2.1 27 = .ok (.invokestatic 69, 3) := by decide +kernel
theorem d_C_give_30 : decode M_C_give.2.1 30 = .ok (.return_, 1) := by decide +kernel
theorem d_C_init_0 : decode M_C_init.2.1 0 = .ok (.aload_n 0, 1) := by decide +kernel
theorem d_C_init_1 : decode M_C_init.2.1 1 = .ok (.invokespecial 3, 3) := by decide +kernel
theorem d_C_init_4 : decode M_C_init.2.1 4 = .ok (.aload_n 0, 1) := by decide +kernel
theorem d_C_init_5 : decode M_C_init.2.1 5 = .ok (.new 9, 3) := by decide +kernel
theorem d_C_init_8 : decode M_C_init.2.1 8 = .ok (.dup, 1) := by decide +kernel
theorem d_C_init_9 : decode M_C_init.2.1 9 = .ok (.invokespecial 11, 3) := by decide +kernel
theorem d_C_init_12 : decode M_C_init.2.1 12 = .ok (.putfield 12, 3) := by decide +kernel
theorem d_C_init_15 : decode M_C_init.2.1 15 = .ok (.aload_n 0, 1) := by decide +kernel
theorem d_C_init_16 : decode M_C_init.2.1 16 = .ok (.bipush 12, 2) := by decide +kernel
theorem d_C_init_18 : decode M_C_init.2.1 18 = .ok (.bipush 8, 2) := by decide +kernel
theorem d_C_init_20 : decode M_C_init.2.1 20 = .ok (.multianewarray 18 2, 4) := by decide +kernel
theorem d_C_init_24 : decode M_C_init.2.1 24 = .ok (.putfield 20, 3) := by decide +kernel
theorem d_C_init_27 : decode M_C_init.2.1 27 = .ok (.aload_n 0, 1) := by decide +kernel
theorem d_C_init_28 : decode M_C_init.2.1 28 = .ok (.bipush 8, 2) := by decide +kernel
theorem d_C_init_30 : decode M_C_init.2.1 30 = .ok (.bipush 8, 2) := by decide +kernel
theorem d_C_init_32 : decode M_C_init.2.1 32 = .ok (.multianewarray 18 2, 4) := by decide +kernel
theorem d_C_init_36 : decode M_C_init.2.1 36 = .ok (.putfield 23, 3) := by decide +kernel
theorem d_C_init_39 : decode M_C_init.2.1 39 = .ok (.aload_n 0, 1) := by decide +kernel
theorem d_C_init_40 : decode M_C_init.2.1 40 = .ok (.iconst 5, 1) := by decide +kernel
theorem d_C_init_41 : decode M_C_init.2.1 41 = .ok (.bipush 8, 2) := by decide +kernel
theorem d_C_init_43 : decode M_C_init.2.1 43 = .ok (.multianewarray 18 2, 4) := by decide +kernel
theorem d_C_init_47 : decode M_C_init.2.1 47 = .ok (.putfield 26, 3) := by decide +kernel
theorem d_C_init_50 : decode M_C_init.2.1 50 = .ok (.aload_n 0, 1) := by decide +kernel
theorem d_C_init_51 : decode M_C_init.2.1 51 = .ok (.bipush 8, 2) := by decide +kernel
theorem d_C_init_53 : decode M_C_init.2.1 53 = .ok (.bipush 8, 2) := by decide +kernel
theorem d_C_init_55 : decode M_C_init.2.1 55 = .ok (.multianewarray 18 2, 4) := by decide +kernel
theorem d_C_init_59 : decode M_C_init.2.1 59 = .ok (.putfield 29, 3) := by decide +kernel
theorem d_C_init_62 : decode M_C_init.2.1 62 = .ok (.aload_n 0, 1) := by decide +kernel
theorem d_C_init_63 : decode M_C_init.2.1 63 = .ok (.bipush 8, 2) := by decide +kernel
theorem d_C_init_65 : decode M_C_init.2.1 65 = .ok (.bipush 8, 2) := by decide +kernel
theorem d_C_init_67 : decode M_C_init.2.1 67 = .ok (.multianewarray 18 2, 4) := by decide +kernel
theorem d_C_init_71 : decode M_C_init.2.1 71 = .ok (.putfield 32, 3) := by decide +kernel
theorem d_C_init_74 : decode M_C_init.2.1 74 = .ok (.aload_n 0, 1) := by decide +kernel
theorem d_C_init_75 : decode M_C_init.2.1 75 = .ok (.bipush 8, 2) := by decide +kernel
theorem d_C_init_77 : decode M_C_init.2.1 77 = .ok (.newarray .int, 2) := by decide +kernel
theorem d_C_init_79 : decode M_C_init.2.1 79 = .ok (.putfield 35, 3) := by decide +kernel
theorem d_C_init_82 : decode M_C_init.2.1 82 = .ok (.iconst 0, 1) := by decide +kernel
theorem d_C_init_83 : decode M_C_init.2.1 83 = .ok (.istore_n 1, 1) := by decide +kernel
theorem d_C_init_84 : decode M_C_init.2.1 84 = .ok (.iload_n 1, 1) := by decide +kernel
theorem d_C_init_85 : decode M_C_init.2.1 85 = .ok (.bipush 12, 2) := by decide +kernel
theorem d_C_init_87 : decode M_C_init.2.1 87 = .ok (.if_icmp .ge 46, 3) := by decide +kernel
theorem d_C_init_90 : decode M_C_init.2.1 90 = .ok (.iconst 1, 1) := by decide +kernel
theorem d_C_init_91 : decode M_C_init.2.1 91 = .ok (.istore_n 2, 1) := by decide +kernel
theorem d_C_init_92 : decode M_C_init.2.1 92 = .ok (.iconst 0, 1) := by decide +kernel
theorem d_C_init_93 : decode M_C_init.2.1 93 = .ok (.istore_n 3, 1) := by decide +kernel
theorem d_C_init_94 : decode M_C_init.2.1 94 = .ok (.iload_n 3, 1) := by decide +kernel
theorem d_C_init_95 : decode M_C_init.2.1 95 = .ok (.bipush 8, 2) := by decide +kernel
theorem d_C_init_97 : decode M_C_init.2.1 97 = .ok (.if_icmp .ge 30, 3) := by decide +kernel
theorem d_C_init_100 : decode M_C_init.2.1 100 = .ok (.aload_n 0, 1) := by decide +kernel
theorem d_C_init_101 : decode M_C_init.2.1 101 = .ok (.getfield 20, 3) := by decide +kernel
theorem d_C_init_104 : decode M_C_init.2.1 104 = .ok (.iload_n 1, 1) := by decide +kernel
theorem d_C_init_105 : decode M_C_init.2.1 105 = .ok (.aaload, 1) := by decide +kernel
theorem d_C_init_106 : decode M_C_init.2.1 106 = .ok (.iload_n 3, 1) := by decide +kernel
theorem d_C_init_107 : decode M_C_init.2.1 107 = .ok (.iload_n 2, 1) := by decide +kernel
theorem d_C_init_108 : decode M_C_init.2.1 108 = .ok (.iastore, 1) := by decide +kernel
theorem d_C_init_109 : decode M_C_init.2.1 109 = .ok (.aload_n 0, 1) := by decide +kernel
theorem d_C_init_110 : decode M_C_init.2.1 110 = .ok (.getfield 12, 3) := by decide +kernel
theorem d_C_init_113 : decode M_C_init.2.1 113 = .ok (.iload_n 2, 1) := by decide +kernel
theorem d_C_init_114 : decode M_C_init.2.1 114 = .ok (.iload_n 1, 1) := by decide +kernel
theorem d_C_init_115 : decode M_C_init.2.1 115 = .ok (.iconst 1, 1) := by decide +kernel
theorem d_C_init_116 : decode M_C_init.2.1 116 = .ok (.iadd, 1) := by decide +kernel
theorem d_C_init_117 : decode M_C_init.2.1 117 = .ok (.invokevirtual 39, 3) := by decide +kernel
theorem d_C_init_120 : decode M_C_init.2.1 120 = .ok (.istore_n 2, 1) := by decide +kernel
theorem d_C_init_121 : decode M_C_init.2.1 121 = .ok (.iinc 3 1, 3) := by decide +kernel
theorem d_C_init_124 : decode M_C_init.2.1 124 = .ok (.goto (-30), 3) := by decide +kernel
theorem d_C_init_127 : decode M_C_init.2.1 127 = .ok (.iinc 1 1, 3) := by decide +kernel
theorem d_C_init_130 : decode M_C_init.2.1 130 = .ok (.goto (-46), 3) := by decide +kernel
theorem d_C_init_133 : decode M_C_init.2.1 133 = .ok (.return_, 1) := by decide +kernel
theorem d_C_invert_0 : decode M_C_invert.2.1 0 = .ok (.iload_n 2, 1) := by decide +kernel
theorem d_C_invert_1 : decode M_C_invert.2.1 1 = .ok (.bipush 8, 2) := by decide +kernel
theorem d_C_invert_3 : decode M_C_invert.2.1 3 = .ok (.if_icmp .gt 9, 3) := by decide +kernel
theorem d_C_invert_6 : decode M_C_invert.2.1 6 = .ok (.iload_n 2, 1) := by decide +kernel
theorem d_C_invert_7 : decode M_C_invert.2.1 7 = .ok (.aload_n 1, 1) := by decide +kernel
theorem d_C_invert_8 : decode M_C_invert.2.1 8 = .ok (.arraylength, 1) := by decide +kernel
theorem d_C_invert_9 : decode M_C_invert.2.1 9 = .ok (.if_icmp .le 4, 3) := by decide +kernel
theorem d_C_invert_12 : decode M_C_invert.2.1 12 = .ok (.return_, 1) := by decide +kernel
theorem d_C_invert_13 : decode M_C_invert.2.1 13 = .ok (.iconst 0, 1) := by decide +kernel
theorem d_C_invert_14 : decode M_C_invert.2.1 14 = .ok (.istore_n 3, 1) := by decide +kernel
theorem d_C_invert_15 : decode M_C_invert.2.1 15 = .ok (.iload_n 3, 1) := by decide +kernel
theorem d_C_invert_16 : decode M_C_invert.2.1 16 = .ok (.iload_n 2, 1) := by decide +kernel
theorem d_C_invert_17 : decode M_C_invert.2.1 17 = .ok (.if_icmp .ge 62, 3) := by decide +kernel
theorem d_C_invert_20 : decode M_C_invert.2.1 20 = .ok (.iconst 0, 1) := by decide +kernel
theorem d_C_invert_21 : decode M_C_invert.2.1 21 = .ok (.istore 4, 2) := by decide +kernel
theorem d_C_invert_23 : decode M_C_invert.2.1 23 = .ok (.iload 4, 2) := by decide +kernel
theorem d_C_invert_25 : decode M_C_invert.2.1 25 = .ok (.iload_n 2, 1) := by decide +kernel
theorem d_C_invert_26 : decode M_C_invert.2.1 26 = .ok (.if_icmp .ge 47, 3) := by decide +kernel
theorem d_C_invert_29 : decode M_C_invert.2.1 29 = .ok (.aload_n 0, 1) := by decide +kernel
theorem d_C_invert_30 : decode M_C_invert.2.1 30 = .ok (.getfield 29, 3) := by decide +kernel
theorem d_C_invert_33 : decode M_C_invert.2.1 33 = .ok (.iload_n 3, 1) := by decide +kernel
theorem d_C_invert_34 : decode M_C_invert.2.1 34 = .ok (.aaload, 1) := by decide +kernel
theorem d_C_invert_35 : decode M_C_invert.2.1 35 = .ok (.iload 4, 2) := by decide +kernel
theorem d_C_invert_37 : decode M_C_invert.2.1 37 = .ok (.aload_n 0, 1) := by decide +kernel
theorem d_C_invert_38 : decode M_C_invert.2.1 38 = .ok (.aload_n 1, 1) := by decide +kernel
theorem d_C_invert_39 : decode M_C_invert.2.1 39 = .ok (.iload_n 3, 1) := by decide +kernel
theorem d_C_invert_40 : decode M_C_invert.2.1 40 = .ok (.iaload, 1) := by decide +kernel
theorem d_C_invert_41 : decode M_C_invert.2.1 41 = .ok (.iload 4, 2) := by decide +kernel
theorem d_C_invert_43 : decode M_C_invert.2.1 43 = .ok (.invokevirtual 59, 3) := by decide +kernel
theorem d_C_invert_46 : decode M_C_invert.2.1 46 = .ok (.iastore, 1) := by decide +kernel
theorem d_C_invert_47 : decode M_C_invert.2.1 47 = .ok (.aload_n 0, 1) := by decide +kernel
theorem d_C_invert_48 : decode M_C_invert.2.1 48 = .ok (.getfield 32, 3) := by decide +kernel
theorem d_C_invert_51 : decode M_C_invert.2.1 51 = .ok (.iload_n 3, 1) := by decide +kernel
theorem d_C_invert_52 : decode M_C_invert.2.1 52 = .ok (.aaload, 1) := by decide +kernel
theorem d_C_invert_53 : decode M_C_invert.2.1 53 = .ok (.iload 4, 2) := by decide +kernel
theorem d_C_invert_55 : decode M_C_invert.2.1 55 = .ok (.iload_n 3, 1) := by decide +kernel
theorem d_C_invert_56 : decode M_C_invert.2.1 56 = .ok (.iload 4, 2) := by decide +kernel
theorem d_C_invert_58 : decode M_C_invert.2.1 58 = .ok (.if_icmp .ne 7, 3) := by decide +kernel
theorem d_C_invert_61 : decode M_C_invert.2.1 61 = .ok (.iconst 1, 1) := by decide +kernel
theorem d_C_invert_62 : decode M_C_invert.2.1 62 = .ok (.goto 4, 3) := by decide +kernel
theorem d_C_invert_65 : decode M_C_invert.2.1 65 = .ok (.iconst 0, 1) := by decide +kernel
theorem d_C_invert_66 : decode M_C_invert.2.1 66 = .ok (.iastore, 1) := by decide +kernel
theorem d_C_invert_67 : decode M_C_invert.2.1 67 = .ok (.iinc 4 1, 3) := by decide +kernel
theorem d_C_invert_70 : decode M_C_invert.2.1 70 = .ok (.goto (-47), 3) := by decide +kernel
theorem d_C_invert_73 : decode M_C_invert.2.1 73 = .ok (.iinc 3 1, 3) := by decide +kernel
theorem d_C_invert_76 : decode M_C_invert.2.1 76 = .ok (.goto (-61), 3) := by decide +kernel
theorem d_C_invert_79 : decode M_C_invert.2.1 79 = .ok (.iconst 0, 1) := by decide +kernel
theorem d_C_invert_80 : decode M_C_invert.2.1 80 = .ok (.istore_n 3, 1) := by decide +kernel
theorem d_C_invert_81 : decode M_C_invert.2.1 81 = .ok (.iload_n 3, 1) := by decide +kernel
theorem d_C_invert_82 : decode M_C_invert.2.1 82 = .ok (.iload_n 2, 1) := by decide +kernel
theorem d_C_invert_83 : decode M_C_invert.2.1 83 = .ok (.if_icmp .ge 94, 3) := by decide +kernel
theorem d_C_invert_86 : decode M_C_invert.2.1 86 = .ok (.aload_n 0, 1) := by decide +kernel
theorem d_C_invert_87 : decode M_C_invert.2.1 87 = .ok (.getfield 29, 3) := by decide +kernel
theorem d_C_invert_90 : decode M_C_invert.2.1 90 = .ok (.iload_n 3, 1) := by decide +kernel
theorem d_C_invert_91 : decode M_C_invert.2.1 91 = .ok (.aaload, 1) := by decide +kernel
theorem d_C_invert_92 : decode M_C_invert.2.1 92 = .ok (.iload_n 3, 1) := by decide +kernel
theorem d_C_invert_93 : decode M_C_invert.2.1 93 = .ok (.iaload, 1) := by decide +kernel
theorem d_C_invert_94 : decode M_C_invert.2.1 94 = .ok (.istore 4, 2) := by decide +kernel
theorem d_C_invert_96 : decode M_C_invert.2.1 96 = .ok (.iconst 0, 1) := by decide +kernel
theorem d_C_invert_97 : decode M_C_invert.2.1 97 = .ok (.istore 5, 2) := by decide +kernel
theorem d_C_invert_99 : decode M_C_invert.2.1 99 = .ok (.iload 5, 2) := by decide +kernel
theorem d_C_invert_101 : decode M_C_invert.2.1 101 = .ok (.iload_n 2, 1) := by decide +kernel
theorem d_C_invert_102 : decode M_C_invert.2.1 102 = .ok (.if_icmp .ge 63, 3) := by decide +kernel
theorem d_C_invert_105 : decode M_C_invert.2.1 105 = .ok (.aload_n 0, 1) := by decide +kernel
theorem d_C_invert_106 : decode M_C_invert.2.1 106 = .ok (.getfield 29, 3) := by decide +kernel
theorem d_C_invert_109 : decode M_C_invert.2.1 109 = .ok (.iload_n 3, 1) := by decide +kernel
theorem d_C_invert_110 : decode M_C_invert.2.1 110 = .ok (.aaload, 1) := by decide +kernel
theorem d_C_invert_111 : decode M_C_invert.2.1 111 = .ok (.iload 5, 2) := by decide +kernel
theorem d_C_invert_113 : decode M_C_invert.2.1 113 = .ok (.aload_n 0, 1) := by decide +kernel
theorem d_C_invert_114 : decode M_C_invert.2.1 114 = .ok (.getfield 12, 3) := by decide +kernel
theorem d_C_invert_117 : decode M_C_invert.2.1 117 = .ok (.aload_n 0, 1) := by decide +kernel
theorem d_C_invert_118 : decode M_C_invert.2.1 118 = .ok (.getfield 29, 3) := by decide +kernel
theorem d_C_invert_121 : decode M_C_invert.2.1 121 = .ok (.iload_n 3, 1) := by decide +kernel
theorem d_C_invert_122 : decode M_C_invert.2.1 122 = .ok (.aaload, 1) := by decide +kernel
theorem d_C_invert_123 : decode M_C_invert.2.1 123 = .ok (.iload 5, 2) := by decide +kernel
theorem d_C_invert_125 : decode M_C_invert.2.1 125 = .ok (.iaload, 1) := by decide +kernel
theorem d_C_invert_126 : decode M_C_invert.2.1 126 = .ok (.iload 4, 2) := by decide +kernel
theorem d_C_invert_128 : decode M_C_invert.2.1 128 = .ok (.invokevirtual 62, 3) := by decide +kernel
theorem d_C_invert_131 : decode M_C_invert.2.1 131 = .ok (.iastore, 1) := by decide +kernel
theorem d_C_invert_132 : decode M_C_invert.2.1 132 = .ok (.aload_n 0, 1) := by decide +kernel
theorem d_C_invert_133 : decode M_C_invert.2.1 133 = .ok (.getfield 32, 3) := by decide +kernel
theorem d_C_invert_136 : decode M_C_invert.2.1 136 = .ok (.iload_n 3, 1) := by decide +kernel
theorem d_C_invert_137 : decode M_C_invert.2.1 137 = .ok (.aaload, 1) := by decide +kernel
theorem d_C_invert_138 : decode M_C_invert.2.1 138 = .ok (.iload 5, 2) := by decide +kernel
theorem d_C_invert_140 : decode M_C_invert.2.1 140 = .ok (.aload_n 0, 1) := by decide +kernel
theorem d_C_invert_141 : decode M_C_invert.2.1 141 = .ok (.getfield 12, 3) := by decide +kernel
theorem d_C_invert_144 : decode M_C_invert.2.1 144 = .ok (.aload_n 0, 1) := by decide +kernel
theorem d_C_invert_145 : decode M_C_invert.2.1 145 = .ok (.getfield 32, 3) := by decide +kernel
theorem d_C_invert_148 : decode M_C_invert.2.1 148 = .ok (.iload_n 3, 1) := by decide +kernel
theorem d_C_invert_149 : decode M_C_invert.2.1 149 = .ok (.aaload, 1) := by decide +kernel
theorem d_C_invert_150 : decode M_C_invert.2.1 150 = .ok (.iload 5, 2) := by decide +kernel
theorem d_C_invert_152 : decode M_C_invert.2.1 152 = .ok (.iaload, 1) := by decide +kernel
theorem d_C_invert_153 : decode M_C_invert.2.1 153 = .ok (.iload 4, 2) := by decide +kernel
theorem d_C_invert_155 : decode M_C_invert.2.1 155 = .ok (.invokevirtual 62, 3) := by decide +kernel
theorem d_C_invert_158 : decode M_C_invert.2.1 158 = .ok (.iastore, 1) := by decide +kernel
theorem d_C_invert_159 : decode M_C_invert.2.1 159 = .ok (.iinc 5 1, 3) := by decide +kernel
theorem d_C_invert_162 : decode M_C_invert.2.1 162 = .ok (.goto (-63), 3) := by decide +kernel
theorem d_C_invert_165 : decode M_C_invert.2.1 165 = .ok (.aload_n 0, 1) := by decide +kernel
theorem d_C_invert_166 : decode M_C_invert.2.1 166 = .ok (.iload_n 3, 1) := by decide +kernel
theorem d_C_invert_167 : decode M_C_invert.2.1 167 = .ok (.iload_n 2, 1) := by decide +kernel
theorem d_C_invert_168 : decode M_C_invert.2.1 168 = .ok (.invokevirtual 65, 3) := by decide +kernel
theorem d_C_invert_171 : decode M_C_invert.2.1 171 = .ok (.iinc 3 1, 3) := by decide +kernel
theorem d_C_invert_174 : decode M_C_invert.2.1 174 = .ok (.goto (-93), 3) := by decide +kernel
theorem d_C_invert_177 : decode M_C_invert.2.1 177 = .ok (.return_, 1) := by decide +kernel
theorem d_C_load_0 : decode M_C_load.2.1 0 = .ok (.iload_n 2, 1) := by decide +kernel
theorem d_C_load_1 : decode M_C_load.2.1 1 = .ok (.istore 4, 2) := by decide +kernel
theorem d_C_load_3 : decode M_C_load.2.1 3 = .ok (.iconst 0, 1) := by decide +kernel
theorem d_C_load_4 : decode M_C_load.2.1 4 = .ok (.istore 5, 2) := by decide +kernel
theorem d_C_load_6 : decode M_C_load.2.1 6 = .ok (.iload 5, 2) := by decide +kernel
theorem d_C_load_8 : decode M_C_load.2.1 8 = .ok (.iconst 5, 1) := by decide +kernel
theorem d_C_load_9 : decode M_C_load.2.1 9 = .ok (.if_icmp .ge 43, 3) := by decide +kernel
theorem d_C_load_12 : decode M_C_load.2.1 12 = .ok (.iload 5, 2) := by decide +kernel
theorem d_C_load_14 : decode M_C_load.2.1 14 = .ok (.istore 6, 2) := by decide +kernel
theorem d_C_load_16 : decode M_C_load.2.1 16 = .ok (.iload 6, 2) := by decide +kernel
theorem d_C_load_18 : decode M_C_load.2.1 18 = .ok (.iconst 5, 1) := by decide +kernel
theorem d_C_load_19 : decode M_C_load.2.1 19 = .ok (.if_icmp .ge 27, 3) := by decide +kernel
theorem d_C_load_22 : decode M_C_load.2.1 22 = .ok (.aload_n 0, 1) := by decide +kernel
theorem d_C_load_23 : decode M_C_load.2.1 23 = .ok (.iload 5, 2) := by decide +kernel
theorem d_C_load_25 : decode M_C_load.2.1 25 = .ok (.iload 6, 2) := by decide +kernel
theorem d_C_load_27 : decode M_C_load.2.1 27 = .ok (.aload_n 1, 1) := by decide +kernel
theorem d_C_load_28 : decode M_C_load.2.1 28 = .ok (.iload 4, 2) := by decide +kernel
theorem d_C_load_30 : decode M_C_load.2.1 30 = .ok (.iload_n 3, 1) := by decide +kernel
theorem d_C_load_31 : decode M_C_load.2.1 31 = .ok (.invokestatic 47, 3) := by decide +kernel
theorem d_C_load_34 : decode M_C_load.2.1 34 = .ok (.invokevirtual 51, 3) := by decide +kernel
theorem d_C_load_37 : decode M_C_load.2.1 37 = .ok (.iinc 4 1, 3) := by decide +kernel
theorem d_C_load_40 : decode M_C_load.2.1 40 = .ok (.iinc 6 1, 3) := by decide +kernel
theorem d_C_load_43 : decode M_C_load.2.1 43 = .ok (.goto (-27), 3) := by decide +kernel
theorem d_C_load_46 : decode M_C_load.2.1 46 = .ok (.iinc 5 1, 3) := by decide +kernel
theorem d_C_load_49 : decode M_C_load.2.1 49 = .ok (.goto (-43), 3) := by decide +kernel
theorem d_C_load_52 : decode M_C_load.2.1 52 = .ok (.iconst 0, 1) := by decide +kernel
theorem d_C_load_53 : decode M_C_load.2.1 53 = .ok (.istore 5, 2) := by decide +kernel
theorem d_C_load_55 : decode M_C_load.2.1 55 = .ok (.iload 5, 2) := by decide +kernel
theorem d_C_load_57 : decode M_C_load.2.1 57 = .ok (.iconst 5, 1) := by decide +kernel
theorem d_C_load_58 : decode M_C_load.2.1 58 = .ok (.if_icmp .ge 43, 3) := by decide +kernel
theorem d_C_load_61 : decode M_C_load.2.1 61 = .ok (.iconst 5, 1) := by decide +kernel
theorem d_C_load_62 : decode M_C_load.2.1 62 = .ok (.istore 6, 2) := by decide +kernel
theorem d_C_load_64 : decode M_C_load.2.1 64 = .ok (.iload 6, 2) := by decide +kernel
theorem d_C_load_66 : decode M_C_load.2.1 66 = .ok (.bipush 8, 2) := by decide +kernel
theorem d_C_load_68 : decode M_C_load.2.1 68 = .ok (.if_icmp .ge 27, 3) := by decide +kernel
theorem d_C_load_71 : decode M_C_load.2.1 71 = .ok (.aload_n 0, 1) := by decide +kernel
theorem d_C_load_72 : decode M_C_load.2.1 72 = .ok (.iload 5, 2) := by decide +kernel
theorem d_C_load_74 : decode M_C_load.2.1 74 = .ok (.iload 6, 2) := by decide +kernel
theorem d_C_load_76 : decode M_C_load.2.1 76 = .ok (.aload_n 1, 1) := by decide +kernel
theorem d_C_load_77 : decode M_C_load.2.1 77 = .ok (.iload 4, 2) := by decide +kernel
theorem d_C_load_79 : decode M_C_load.2.1 79 = .ok (.iload_n 3, 1) := by decide +kernel
theorem d_C_load_80 : decode M_C_load.2.1 80 = .ok (.invokestatic 47, 3) := by decide +kernel
theorem d_C_load_83 : decode M_C_load.2.1 83 = .ok (.invokevirtual 51, 3) := by decide +kernel
theorem d_C_load_86 : decode M_C_load.2.1 86 = .ok (.iinc 4 1, 3) := by decide +kernel
theorem d_C_load_89 : decode M_C_load.2.1 89 = .ok (.iinc 6 1, 3) := by decide +kernel
theorem d_C_load_92 : decode M_C_load.2.1 92 = .ok (.goto (-28), 3) := by decide +kernel
theorem d_C_load_95 : decode M_C_load.2.1 95 = .ok (.iinc 5 1, 3) := by decide +kernel
theorem d_C_load_98 : decode M_C_load.2.1 98 = .ok (.goto (-43), 3) := by decide +kernel
theorem d_C_load_101 : decode M_C_load.2.1 101 = .ok (.return_, 1) := by decide +kernel
theorem d_C_mirror_0 : decode M_C_mirror.2.1 0 = .ok (.aload_n 0, 1) := by decide +kernel
theorem d_C_mirror_1 : decode M_C_mirror.2.1 1 = .ok (.getfield 23, 3) := by decide +kernel
theorem d_C_mirror_4 : decode M_C_mirror.2.1 4 = .ok (.iload_n 1, 1) := by decide +kernel
theorem d_C_mirror_5 : decode M_C_mirror.2.1 5 = .ok (.aaload, 1) := by decide +kernel
theorem d_C_mirror_6 : decode M_C_mirror.2.1 6 = .ok (.iload_n 2, 1) := by decide +kernel
theorem d_C_mirror_7 : decode M_C_mirror.2.1 7 = .ok (.iload_n 3, 1) := by decide +kernel
theorem d_C_mirror_8 : decode M_C_mirror.2.1 8 = .ok (.iastore, 1) := by decide +kernel
theorem d_C_mirror_9 : decode M_C_mirror.2.1 9 = .ok (.aload_n 0, 1) := by decide +kernel
theorem d_C_mirror_10 : decode M_C_mirror.2.1 10 = .ok (.getfield 23, 3) := by decide +kernel
theorem d_C_mirror_13 : decode M_C_mirror.2.1 13 = .ok (.iload_n 2, 1) := by decide +kernel
theorem d_C_mirror_14 : decode M_C_mirror.2.1 14 = .ok (.aaload, 1) := by decide +kernel
theorem d_C_mirror_15 : decode M_C_mirror.2.1 15 = .ok (.iload_n 1, 1) := by decide +kernel
theorem d_C_mirror_16 : decode M_C_mirror.2.1 16 = .ok (.iload_n 3, 1) := by decide +kernel
theorem d_C_mirror_17 : decode M_C_mirror.2.1 17 = .ok (.iastore, 1) := by decide +kernel
theorem d_C_mirror_18 : decode M_C_mirror.2.1 18 = .ok (.return_, 1) := by decide +kernel
theorem d_C_multiplyByInverse_0 : decode M_C_multiplyByInverse.2.1 0 = .ok (.aload_n 1, 1) := by decide +kernel
theorem d_C_multiplyByInverse_1 : decode M_C_multiplyByInverse.2.1 1 = .ok (.arraylength, 1) := by decide +kernel
theorem d_C_multiplyByInverse_2 : decode M_C_multiplyByInverse.2.1 2 = .ok (.bipush 8, 2) := by decide +kernel
theorem d_C_multiplyByInverse_4 : decode M_C_multiplyByInverse.2.1 4 = .ok (.if_icmp .ge 4, 3) := by decide +kernel
theorem d_C_multiplyByInverse_7 : decode M_C_multiplyByInverse.2.1 7 = .ok (.return_, 1) := by decide +kernel
theorem d_C_multiplyByInverse_8 : decode M_C_multiplyByInverse.2.1 8 = .ok (.iconst 0, 1) := by decide +kernel
theorem d_C_multiplyByInverse_9 : decode M_C_multiplyByInverse.2.1 9 = .ok (.istore_n 2, 1) := by decide +kernel
theorem d_C_multiplyByInverse_10 : decode M_C_multiplyByInverse.2.1 10 = .ok (.iload_n 2, 1) := by decide +kernel
theorem d_C_multiplyByInverse_11 : decode M_C_multiplyByInverse.2.1 11 = .ok (.bipush 8, 2) := by decide +kernel
theorem d_C_multiplyByInverse_13 : decode M_C_multiplyByInverse.2.1 13 = .ok (.if_icmp .ge 57, 3) := by decide +kernel
theorem d_C_multiplyByInverse_16 : decode M_C_multiplyByInverse.2.1 16 = .ok (.iconst 0, 1) := by decide +kernel
theorem d_C_multiplyByInverse_17 : decode M_C_multiplyByInverse.2.1 17 = .ok (.istore_n 3, 1) := by decide +kernel
theorem d_C_multiplyByInverse_18 : decode M_C_multiplyByInverse.2.1 18 = .ok (.iconst 0, 1) := by decide +kernel
theorem d_C_multiplyByInverse_19 : decode M_C_multiplyByInverse.2.1 19 = .ok (.istore 4, 2) := by decide +kernel
theorem d_C_multiplyByInverse_21 : decode M_C_multiplyByInverse.2.1 21 = .ok (.iload 4, 2) := by decide +kernel
theorem d_C_multiplyByInverse_23 : decode M_C_multiplyByInverse.2.1 23 = .ok (.bipush 8, 2) := by decide +kernel
theorem d_C_multiplyByInverse_25 : decode M_C_multiplyByInverse.2.1 25 = .ok (.if_icmp .ge 32, 3) := by decide +kernel
theorem d_C_multiplyByInverse_28 : decode M_C_multiplyByInverse.2.1 28 = .ok (.iload_n 3, 1) := by decide +kernel
theorem d_C_multiplyByInverse_29 : decode M_C_multiplyByInverse.2.1 29 = .ok (.aload_n 0, 1) := by decide +kernel
theorem d_C_multiplyByInverse_30 : decode M_C_multiplyByInverse.2.1 30 = .ok (.getfield 12, 3) := by decide +kernel
theorem d_C_multiplyByInverse_33 : decode M_C_multiplyByInverse.2.1 33 = .ok (.aload_n 0, 1) := by decide +kernel
theorem d_C_multiplyByInverse_34 : decode M_C_multiplyByInverse.2.1 34 = .ok (.getfield 32, 3) := by decide +kernel
theorem d_C_multiplyByInverse_37 : decode M_C_multiplyByInverse.2.1 37 = .ok (.iload_n 2, 1) := by decide +kernel
theorem d_C_multiplyByInverse_38 : decode M_C_multiplyByInverse.2.1 38 = .ok (.aaload, 1) := by decide +kernel
theorem d_C_multiplyByInverse_39 : decode M_C_multiplyByInverse.2.1 39 = .ok (.iload 4, 2) := by decide +kernel
theorem d_C_multiplyByInverse_41 : decode M_C_multiplyByInverse.2.1 41 = .ok (.iaload, 1) := by decide +kernel
theorem d_C_multiplyByInverse_42 : decode M_C_multiplyByInverse.2.1 42 = .ok (.aload_n 1, 1) := by decide +kernel
theorem d_C_multiplyByInverse_43 : decode M_C_multiplyByInverse.2.1 43 = .ok (.iload 4, 2) := by decide +kernel
theorem d_C_multiplyByInverse_45 : decode M_C_multiplyByInverse.2.1 45 = .ok (.iaload, 1) := by decide +kernel
theorem d_C_multiplyByInverse_46 : decode M_C_multiplyByInverse.2.1 46 = .ok (.invokevirtual 39, 3) := by decide +kernel
theorem d_C_multiplyByInverse_49 : decode M_C_multiplyByInverse.2.1 49 = .ok (.ixor, 1) := by decide +kernel
theorem d_C_multiplyByInverse_50 : decode M_C_multiplyByInverse.2.1 50 = .ok (.istore_n 3, 1) := by decide +kernel
theorem d_C_multiplyByInverse_51 : decode M_C_multiplyByInverse.2.1 51 = .ok (.iinc 4 1, 3) := by decide +kernel
theorem d_C_multiplyByInverse_54 : decode M_C_multiplyByInverse.2.1 54 = .ok (.goto (-33), 3) := by decide +kernel
theorem d_C_multiplyByInverse_57 : decode M_C_multiplyByInverse.2.1 57 = .ok (.aload_n 0, 1) := by decide +kernel
theorem d_C_multiplyByInverse_58 : decode M_C_multiplyByInverse.2.1 58 = .ok (.getfield 35, 3) := by decide +kernel
theorem d_C_multiplyByInverse_61 : decode M_C_multiplyByInverse.2.1 61 = .ok (.iload_n 2, 1) := by decide +kernel
theorem d_C_multiplyByInverse_62 : decode M_C_multiplyByInverse.2.1 62 = .ok (.iload_n 3, 1) := by decide +kernel
theorem d_C_multiplyByInverse_63 : decode M_C_multiplyByInverse.2.1 63 = .ok (.iastore, 1) := by decide +kernel
theorem d_C_multiplyByInverse_64 : decode M_C_multiplyByInverse.2.1 64 = .ok (.iinc 2 1, 3) := by decide +kernel
theorem d_C_multiplyByInverse_67 : decode M_C_multiplyByInverse.2.1 67 = .ok (.goto (-57), 3) := by decide +kernel
theorem d_C_multiplyByInverse_70 : decode M_C_multiplyByInverse.2.1 70 = .ok (.aload_n 0, 1) := by decide +kernel
theorem d_C_multiplyByInverse_71 : decode M_C_multiplyByInverse.2.1 71 = .ok (.getfield 35, 3) := by decide +kernel
theorem d_C_multiplyByInverse_74 : decode M_C_multiplyByInverse.2.1 74 = .ok (.iconst 0, 1) := by decide +kernel
theorem d_C_multiplyByInverse_75 : decode M_C_multiplyByInverse.2.1 75 = .ok (.aload_n 1, 1) := by decide +kernel
theorem d_C_multiplyByInverse_76 : decode M_C_multiplyByInverse.2.1 76 = .ok (.iconst 0, 1) := by decide +kernel
theorem d_C_multiplyByInverse_77 : decode M_C_multiplyByInverse.2.1 77 = .ok (.bipush 8, 2) := by decide +kernel
theorem d_C_multiplyByInverse_79 : decode M_C_multiplyByInverse.2.1 79 = .ok (.invokestatic 69, 3) := by decide +kernel
theorem d_C_multiplyByInverse_82 : decode M_C_multiplyByInverse.2.1 82 = .ok (.return_, 1) := by decide +kernel
theorem d_C_rowByte_0 : decode M_C_rowByte.2.1 0 = .ok (.iload_n 1, 1) := by decide +kernel
theorem d_C_rowByte_1 : decode M_C_rowByte.2.1 1 = .ok (.invokestatic 43, 3) := by decide +kernel
theorem d_C_rowByte_4 : decode M_C_rowByte.2.1 4 = .ok (.ifCond .eq 24, 3) := by decide +kernel
theorem d_C_rowByte_7 : decode M_C_rowByte.2.1 7 = .ok (.iload_n 2, 1) := by decide +kernel
theorem d_C_rowByte_8 : decode M_C_rowByte.2.1 8 = .ok (.ifCond .lt 20, 3) := by decide +kernel
theorem d_C_rowByte_11 : decode M_C_rowByte.2.1 11 = .ok (.iload_n 2, 1) := by decide +kernel
theorem d_C_rowByte_12 : decode M_C_rowByte.2.1 12 = .ok (.bipush 8, 2) := by decide +kernel
theorem d_C_rowByte_14 : decode M_C_rowByte.2.1 14 = .ok (.if_icmp .ge 14, 3) := by decide +kernel
theorem d_C_rowByte_17 : decode M_C_rowByte.2.1 17 = .ok (.aload_n 0, 1) := by decide +kernel
theorem d_C_rowByte_18 : decode M_C_rowByte.2.1 18 = .ok (.getfield 20, 3) := by decide +kernel
theorem d_C_rowByte_21 : decode M_C_rowByte.2.1 21 = .ok (.iload_n 1, 1) := by decide +kernel
theorem d_C_rowByte_22 : decode M_C_rowByte.2.1 22 = .ok (.aaload, 1) := by decide +kernel
theorem d_C_rowByte_23 : decode M_C_rowByte.2.1 23 = .ok (.iload_n 2, 1) := by decide +kernel
theorem d_C_rowByte_24 : decode M_C_rowByte.2.1 24 = .ok (.iaload, 1) := by decide +kernel
theorem d_C_rowByte_25 : decode M_C_rowByte.2.1 25 = .ok (.goto 4, 3) := by decide +kernel
theorem d_C_rowByte_28 : decode M_C_rowByte.2.1 28 = .ok (.iconst 0, 1) := by decide +kernel
theorem d_C_rowByte_29 : decode M_C_rowByte.2.1 29 = .ok (.ireturn, 1) := by decide +kernel
theorem d_C_share_0 : decode M_C_share.2.1 0 = .ok (.iconst 0, 1) := by decide +kernel
theorem d_C_share_1 : decode M_C_share.2.1 1 = .ok (.istore_n 3, 1) := by decide +kernel
theorem d_C_share_2 : decode M_C_share.2.1 2 = .ok (.iload_n 3, 1) := by decide +kernel
theorem d_C_share_3 : decode M_C_share.2.1 3 = .ok (.bipush 8, 2) := by decide +kernel
theorem d_C_share_5 : decode M_C_share.2.1 5 = .ok (.if_icmp .ge 67, 3) := by decide +kernel
theorem d_C_share_8 : decode M_C_share.2.1 8 = .ok (.iload_n 3, 1) := by decide +kernel
theorem d_C_share_9 : decode M_C_share.2.1 9 = .ok (.aload_n 2, 1) := by decide +kernel
theorem d_C_share_10 : decode M_C_share.2.1 10 = .ok (.arraylength, 1) := by decide +kernel
theorem d_C_share_11 : decode M_C_share.2.1 11 = .ok (.if_icmp .ge 61, 3) := by decide +kernel
theorem d_C_share_14 : decode M_C_share.2.1 14 = .ok (.iconst 0, 1) := by decide +kernel
theorem d_C_share_15 : decode M_C_share.2.1 15 = .ok (.istore 4, 2) := by decide +kernel
theorem d_C_share_17 : decode M_C_share.2.1 17 = .ok (.iconst 0, 1) := by decide +kernel
theorem d_C_share_18 : decode M_C_share.2.1 18 = .ok (.istore 5, 2) := by decide +kernel
theorem d_C_share_20 : decode M_C_share.2.1 20 = .ok (.iload 5, 2) := by decide +kernel
theorem d_C_share_22 : decode M_C_share.2.1 22 = .ok (.bipush 8, 2) := by decide +kernel
theorem d_C_share_24 : decode M_C_share.2.1 24 = .ok (.if_icmp .ge 37, 3) := by decide +kernel
theorem d_C_share_27 : decode M_C_share.2.1 27 = .ok (.iload 4, 2) := by decide +kernel
theorem d_C_share_29 : decode M_C_share.2.1 29 = .ok (.aload_n 0, 1) := by decide +kernel
theorem d_C_share_30 : decode M_C_share.2.1 30 = .ok (.getfield 12, 3) := by decide +kernel
theorem d_C_share_33 : decode M_C_share.2.1 33 = .ok (.aload_n 0, 1) := by decide +kernel
theorem d_C_share_34 : decode M_C_share.2.1 34 = .ok (.iload_n 1, 1) := by decide +kernel
theorem d_C_share_35 : decode M_C_share.2.1 35 = .ok (.iload 5, 2) := by decide +kernel
theorem d_C_share_37 : decode M_C_share.2.1 37 = .ok (.invokevirtual 59, 3) := by decide +kernel
theorem d_C_share_40 : decode M_C_share.2.1 40 = .ok (.aload_n 0, 1) := by decide +kernel
theorem d_C_share_41 : decode M_C_share.2.1 41 = .ok (.getfield 23, 3) := by decide +kernel
theorem d_C_share_44 : decode M_C_share.2.1 44 = .ok (.iload 5, 2) := by decide +kernel
theorem d_C_share_46 : decode M_C_share.2.1 46 = .ok (.aaload, 1) := by decide +kernel
theorem d_C_share_47 : decode M_C_share.2.1 47 = .ok (.iload_n 3, 1) := by decide +kernel
theorem d_C_share_48 : decode M_C_share.2.1 48 = .ok (.iaload, 1) := by decide +kernel
theorem d_C_share_49 : decode M_C_share.2.1 49 = .ok (.invokevirtual 39, 3) := by decide +kernel
theorem d_C_share_52 : decode M_C_share.2.1 52 = .ok (.ixor, 1) := by decide +kernel
theorem d_C_share_53 : decode M_C_share.2.1 53 = .ok (.istore 4, 2) := by decide +kernel
theorem d_C_share_55 : decode M_C_share.2.1 55 = .ok (.iinc 5 1, 3) := by decide +kernel
theorem d_C_share_58 : decode M_C_share.2.1 58 = .ok (.goto (-38), 3) := by decide +kernel
theorem d_C_share_61 : decode M_C_share.2.1 61 = .ok (.aload_n 2, 1) := by decide +kernel
theorem d_C_share_62 : decode M_C_share.2.1 62 = .ok (.iload_n 3, 1) := by decide +kernel
theorem d_C_share_63 : decode M_C_share.2.1 63 = .ok (.iload 4, 2) := by decide +kernel
theorem d_C_share_65 : decode M_C_share.2.1 65 = .ok (.iastore, 1) := by decide +kernel
theorem d_C_share_66 : decode M_C_share.2.1 66 = .ok (.iinc 3 1, 3) := by decide +kernel
theorem d_C_share_69 : decode M_C_share.2.1 69 = .ok (.goto (-67), 3) := by decide +kernel
theorem d_C_share_72 : decode M_C_share.2.1 72 = .ok (.return_, 1) := by decide +kernel
theorem d_C_solve_0 : decode M_C_solve.2.1 0 = .ok (.aload_n 1, 1) := by decide +kernel
theorem d_C_solve_1 : decode M_C_solve.2.1 1 = .ok (.arraylength, 1) := by decide +kernel
theorem d_C_solve_2 : decode M_C_solve.2.1 2 = .ok (.iconst 5, 1) := by decide +kernel
theorem d_C_solve_3 : decode M_C_solve.2.1 3 = .ok (.if_icmp .ge 4, 3) := by decide +kernel
theorem d_C_solve_6 : decode M_C_solve.2.1 6 = .ok (.return_, 1) := by decide +kernel
theorem d_C_solve_7 : decode M_C_solve.2.1 7 = .ok (.iconst 5, 1) := by decide +kernel
theorem d_C_solve_8 : decode M_C_solve.2.1 8 = .ok (.istore_n 2, 1) := by decide +kernel
theorem d_C_solve_9 : decode M_C_solve.2.1 9 = .ok (.iload_n 2, 1) := by decide +kernel
theorem d_C_solve_10 : decode M_C_solve.2.1 10 = .ok (.bipush 8, 2) := by decide +kernel
theorem d_C_solve_12 : decode M_C_solve.2.1 12 = .ok (.if_icmp .ge 14, 3) := by decide +kernel
theorem d_C_solve_15 : decode M_C_solve.2.1 15 = .ok (.aload_n 0, 1) := by decide +kernel
theorem d_C_solve_16 : decode M_C_solve.2.1 16 = .ok (.iload_n 2, 1) := by decide +kernel
theorem d_C_solve_17 : decode M_C_solve.2.1 17 = .ok (.invokevirtual 75, 3) := by decide +kernel
theorem d_C_solve_20 : decode M_C_solve.2.1 20 = .ok (.iinc 2 1, 3) := by decide +kernel
theorem d_C_solve_23 : decode M_C_solve.2.1 23 = .ok (.goto (-14), 3) := by decide +kernel
theorem d_C_solve_26 : decode M_C_solve.2.1 26 = .ok (.iconst 0, 1) := by decide +kernel
theorem d_C_solve_27 : decode M_C_solve.2.1 27 = .ok (.istore_n 2, 1) := by decide +kernel
theorem d_C_solve_28 : decode M_C_solve.2.1 28 = .ok (.iload_n 2, 1) := by decide +kernel
theorem d_C_solve_29 : decode M_C_solve.2.1 29 = .ok (.iconst 5, 1) := by decide +kernel
theorem d_C_solve_30 : decode M_C_solve.2.1 30 = .ok (.if_icmp .ge 74, 3) := by decide +kernel
theorem d_C_solve_33 : decode M_C_solve.2.1 33 = .ok (.iconst 0, 1) := by decide +kernel
theorem d_C_solve_34 : decode M_C_solve.2.1 34 = .ok (.istore_n 3, 1) := by decide +kernel
theorem d_C_solve_35 : decode M_C_solve.2.1 35 = .ok (.iload_n 3, 1) := by decide +kernel
theorem d_C_solve_36 : decode M_C_solve.2.1 36 = .ok (.iconst 5, 1) := by decide +kernel
theorem d_C_solve_37 : decode M_C_solve.2.1 37 = .ok (.if_icmp .ge 61, 3) := by decide +kernel
theorem d_C_solve_40 : decode M_C_solve.2.1 40 = .ok (.iconst 5, 1) := by decide +kernel
theorem d_C_solve_41 : decode M_C_solve.2.1 41 = .ok (.istore 4, 2) := by decide +kernel
theorem d_C_solve_43 : decode M_C_solve.2.1 43 = .ok (.iload 4, 2) := by decide +kernel
theorem d_C_solve_45 : decode M_C_solve.2.1 45 = .ok (.bipush 8, 2) := by decide +kernel
theorem d_C_solve_47 : decode M_C_solve.2.1 47 = .ok (.if_icmp .ge 45, 3) := by decide +kernel
theorem d_C_solve_50 : decode M_C_solve.2.1 50 = .ok (.aload_n 0, 1) := by decide +kernel
theorem d_C_solve_51 : decode M_C_solve.2.1 51 = .ok (.getfield 26, 3) := by decide +kernel
theorem d_C_solve_54 : decode M_C_solve.2.1 54 = .ok (.iload_n 2, 1) := by decide +kernel
theorem d_C_solve_55 : decode M_C_solve.2.1 55 = .ok (.aaload, 1) := by decide +kernel
theorem d_C_solve_56 : decode M_C_solve.2.1 56 = .ok (.iload_n 3, 1) := by decide +kernel
theorem d_C_solve_57 : decode M_C_solve.2.1 57 = .ok (.dup2, 1) := by decide +kernel
theorem d_C_solve_58 : decode M_C_solve.2.1 58 = .ok (.iaload, 1) := by decide +kernel
theorem d_C_solve_59 : decode M_C_solve.2.1 59 = .ok (.aload_n 0, 1) := by decide +kernel
theorem d_C_solve_60 : decode M_C_solve.2.1 60 = .ok (.getfield 12, 3) := by decide +kernel
theorem d_C_solve_63 : decode M_C_solve.2.1 63 = .ok (.aload_n 0, 1) := by decide +kernel
theorem d_C_solve_64 : decode M_C_solve.2.1 64 = .ok (.aload_n 1, 1) := by decide +kernel
theorem d_C_solve_65 : decode M_C_solve.2.1 65 = .ok (.iload_n 2, 1) := by decide +kernel
theorem d_C_solve_66 : decode M_C_solve.2.1 66 = .ok (.iaload, 1) := by decide +kernel
theorem d_C_solve_67 : decode M_C_solve.2.1 67 = .ok (.iload 4, 2) := by decide +kernel
theorem d_C_solve_69 : decode M_C_solve.2.1 69 = .ok (.invokevirtual 59, 3) := by decide +kernel
theorem d_C_solve_72 : decode M_C_solve.2.1 72 = .ok (.aload_n 0, 1) := by decide +kernel
theorem d_C_solve_73 : decode M_C_solve.2.1 73 = .ok (.getfield 23, 3) := by decide +kernel
theorem d_C_solve_76 : decode M_C_solve.2.1 76 = .ok (.iload 4, 2) := by decide +kernel
theorem d_C_solve_78 : decode M_C_solve.2.1 78 = .ok (.aaload, 1) := by decide +kernel
theorem d_C_solve_79 : decode M_C_solve.2.1 79 = .ok (.iload_n 3, 1) := by decide +kernel
theorem d_C_solve_80 : decode M_C_solve.2.1 80 = .ok (.iaload, 1) := by decide +kernel
theorem d_C_solve_81 : decode M_C_solve.2.1 81 = .ok (.invokevirtual 39, 3) := by decide +kernel
theorem d_C_solve_84 : decode M_C_solve.2.1 84 = .ok (.ixor, 1) := by decide +kernel
theorem d_C_solve_85 : decode M_C_solve.2.1 85 = .ok (.iastore, 1) := by decide +kernel
theorem d_C_solve_86 : decode M_C_solve.2.1 86 = .ok (.iinc 4 1, 3) := by decide +kernel
theorem d_C_solve_89 : decode M_C_solve.2.1 89 = .ok (.goto (-46), 3) := by decide +kernel
theorem d_C_solve_92 : decode M_C_solve.2.1 92 = .ok (.iinc 3 1, 3) := by decide +kernel
theorem d_C_solve_95 : decode M_C_solve.2.1 95 = .ok (.goto (-60), 3) := by decide +kernel
theorem d_C_solve_98 : decode M_C_solve.2.1 98 = .ok (.iinc 2 1, 3) := by decide +kernel
theorem d_C_solve_101 : decode M_C_solve.2.1 101 = .ok (.goto (-73), 3) := by decide +kernel
theorem d_C_solve_104 : decode M_C_solve.2.1 104 = .ok (.iconst 0, 1) := by decide +kernel
theorem d_C_solve_105 : decode M_C_solve.2.1 105 = .ok (.istore_n 2, 1) := by decide +kernel
theorem d_C_solve_106 : decode M_C_solve.2.1 106 = .ok (.iload_n 2, 1) := by decide +kernel
theorem d_C_solve_107 : decode M_C_solve.2.1 107 = .ok (.iconst 5, 1) := by decide +kernel
theorem d_C_solve_108 : decode M_C_solve.2.1 108 = .ok (.if_icmp .ge 14, 3) := by decide +kernel
theorem d_C_solve_111 : decode M_C_solve.2.1 111 = .ok (.aload_n 0, 1) := by decide +kernel
theorem d_C_solve_112 : decode M_C_solve.2.1 112 = .ok (.iload_n 2, 1) := by decide +kernel
theorem d_C_solve_113 : decode M_C_solve.2.1 113 = .ok (.invokevirtual 75, 3) := by decide +kernel
theorem d_C_solve_116 : decode M_C_solve.2.1 116 = .ok (.iinc 2 1, 3) := by decide +kernel
theorem d_C_solve_119 : decode M_C_solve.2.1 119 = .ok (.goto (-13), 3) := by decide +kernel
theorem d_C_solve_122 : decode M_C_solve.2.1 122 = .ok (.return_, 1) := by decide +kernel
theorem d_C_solveColumn_0 : decode M_C_solveColumn.2.1 0 = .ok (.iconst 0, 1) := by decide +kernel
theorem d_C_solveColumn_1 : decode M_C_solveColumn.2.1 1 = .ok (.istore_n 2, 1) := by decide +kernel
theorem d_C_solveColumn_2 : decode M_C_solveColumn.2.1 2 = .ok (.iload_n 2, 1) := by decide +kernel
theorem d_C_solveColumn_3 : decode M_C_solveColumn.2.1 3 = .ok (.iconst 5, 1) := by decide +kernel
theorem d_C_solveColumn_4 : decode M_C_solveColumn.2.1 4 = .ok (.if_icmp .ge 61, 3) := by decide +kernel
theorem d_C_solveColumn_7 : decode M_C_solveColumn.2.1 7 = .ok (.iconst 0, 1) := by decide +kernel
theorem d_C_solveColumn_8 : decode M_C_solveColumn.2.1 8 = .ok (.istore_n 3, 1) := by decide +kernel
theorem d_C_solveColumn_9 : decode M_C_solveColumn.2.1 9 = .ok (.iconst 0, 1) := by decide +kernel
theorem d_C_solveColumn_10 : decode M_C_solveColumn.2.1 10 = .ok (.istore 4, 2) := by decide +kernel
theorem d_C_solveColumn_12 : decode M_C_solveColumn.2.1 12 = .ok (.iload 4, 2) := by decide +kernel
theorem d_C_solveColumn_14 : decode M_C_solveColumn.2.1 14 = .ok (.iconst 5, 1) := by decide +kernel
theorem d_C_solveColumn_15 : decode M_C_solveColumn.2.1 15 = .ok (.if_icmp .ge 37, 3) := by decide +kernel
theorem d_C_solveColumn_18 : decode M_C_solveColumn.2.1 18 = .ok (.iload_n 3, 1) := by decide +kernel
theorem d_C_solveColumn_19 : decode M_C_solveColumn.2.1 19 = .ok (.aload_n 0, 1) := by decide +kernel
theorem d_C_solveColumn_20 : decode M_C_solveColumn.2.1 20 = .ok (.getfield 12, 3) := by decide +kernel
theorem d_C_solveColumn_23 : decode M_C_solveColumn.2.1 23 = .ok (.aload_n 0, 1) := by decide +kernel
theorem d_C_solveColumn_24 : decode M_C_solveColumn.2.1 24 = .ok (.getfield 32, 3) := by decide +kernel
theorem d_C_solveColumn_27 : decode M_C_solveColumn.2.1 27 = .ok (.iload_n 2, 1) := by decide +kernel
theorem d_C_solveColumn_28 : decode M_C_solveColumn.2.1 28 = .ok (.aaload, 1) := by decide +kernel
theorem d_C_solveColumn_29 : decode M_C_solveColumn.2.1 29 = .ok (.iload 4, 2) := by decide +kernel
theorem d_C_solveColumn_31 : decode M_C_solveColumn.2.1 31 = .ok (.iaload, 1) := by decide +kernel
theorem d_C_solveColumn_32 : decode M_C_solveColumn.2.1 32 = .ok (.aload_n 0, 1) := by decide +kernel
theorem d_C_solveColumn_33 : decode M_C_solveColumn.2.1 33 = .ok (.getfield 26, 3) := by decide +kernel
theorem d_C_solveColumn_36 : decode M_C_solveColumn.2.1 36 = .ok (.iload 4, 2) := by decide +kernel
theorem d_C_solveColumn_38 : decode M_C_solveColumn.2.1 38 = .ok (.aaload, 1) := by decide +kernel
theorem d_C_solveColumn_39 : decode M_C_solveColumn.2.1 39 = .ok (.iload_n 1, 1) := by decide +kernel
theorem d_C_solveColumn_40 : decode M_C_solveColumn.2.1 40 = .ok (.iaload, 1) := by decide +kernel
theorem d_C_solveColumn_41 : decode M_C_solveColumn.2.1 41 = .ok (.invokevirtual 39, 3) := by decide +kernel
theorem d_C_solveColumn_44 : decode M_C_solveColumn.2.1 44 = .ok (.ixor, 1) := by decide +kernel
theorem d_C_solveColumn_45 : decode M_C_solveColumn.2.1 45 = .ok (.istore_n 3, 1) := by decide +kernel
theorem d_C_solveColumn_46 : decode M_C_solveColumn.2.1 46 = .ok (.iinc 4 1, 3) := by decide +kernel
theorem d_C_solveColumn_49 : decode M_C_solveColumn.2.1 49 = .ok (.goto (-37), 3) := by decide +kernel
theorem d_C_solveColumn_52 : decode M_C_solveColumn.2.1 52 = .ok (.aload_n 0, 1) := by decide +kernel
theorem d_C_solveColumn_53 : decode M_C_solveColumn.2.1 53 = .ok (.iload_n 2, 1) := by decide +kernel
theorem d_C_solveColumn_54 : decode M_C_solveColumn.2.1 54 = .ok (.iload_n 1, 1) := by decide +kernel
theorem d_C_solveColumn_55 : decode M_C_solveColumn.2.1 55 = .ok (.iload_n 3, 1) := by decide +kernel
theorem d_C_solveColumn_56 : decode M_C_solveColumn.2.1 56 = .ok (.invokevirtual 51, 3) := by decide +kernel
theorem d_C_solveColumn_59 : decode M_C_solveColumn.2.1 59 = .ok (.iinc 2 1, 3) := by decide +kernel
theorem d_C_solveColumn_62 : decode M_C_solveColumn.2.1 62 = .ok (.goto (-60), 3) := by decide +kernel
theorem d_C_solveColumn_65 : decode M_C_solveColumn.2.1 65 = .ok (.return_, 1) := by decide +kernel
theorem d_C_storeBefore_0 : decode M_C_storeBefore.2.1 0 = .ok (.iload_n 1, 1) := by decide +kernel
theorem d_C_storeBefore_1 : decode M_C_storeBefore.2.1 1 = .ok (.ifCond .lt 18, 3) := by decide +kernel
theorem d_C_storeBefore_4 : decode M_C_storeBefore.2.1 4 = .ok (.iload_n 1, 1) := by decide +kernel
theorem d_C_storeBefore_5 : decode M_C_storeBefore.2.1 5 = .ok (.iload_n 2, 1) := by decide +kernel
theorem d_C_storeBefore_6 : decode M_C_storeBefore.2.1 6 = .ok (.if_icmp .ge 13, 3) := by decide +kernel
theorem d_C_storeBefore_9 : decode M_C_storeBefore.2.1 9 = .ok (.iload_n 1, 1) := by decide +kernel
theorem d_C_storeBefore_10 : decode M_C_storeBefore.2.1 10 = .ok (.aload_n 0, 1) := by decide +kernel
theorem d_C_storeBefore_11 : decode M_C_storeBefore.2.1 11 = .ok (.arraylength, 1) := by decide +kernel
theorem d_C_storeBefore_12 : decode M_C_storeBefore.2.1 12 = .ok (.if_icmp .ge 7, 3) := by decide +kernel
theorem d_C_storeBefore_15 : decode M_C_storeBefore.2.1 15 = .ok (.aload_n 0, 1) := by decide +kernel
theorem d_C_storeBefore_16 : decode M_C_storeBefore.2.1 16 = .ok (.iload_n 1, 1) := by decide +kernel
theorem d_C_storeBefore_17 : decode M_C_storeBefore.2.1 17 = .ok (.iload_n 3, 1) := by decide +kernel
theorem d_C_storeBefore_18 : decode M_C_storeBefore.2.1 18 = .ok (.iastore, 1) := by decide +kernel
theorem d_C_storeBefore_19 : decode M_C_storeBefore.2.1 19 = .ok (.return_, 1) := by decide +kernel
theorem d_C_unload_0 : decode M_C_unload.2.1 0 = .ok (.iload_n 2, 1) := by decide +kernel
theorem d_C_unload_1 : decode M_C_unload.2.1 1 = .ok (.istore 4, 2) := by decide +kernel
theorem d_C_unload_3 : decode M_C_unload.2.1 3 = .ok (.iconst 0, 1) := by decide +kernel
theorem d_C_unload_4 : decode M_C_unload.2.1 4 = .ok (.istore 5, 2) := by decide +kernel
theorem d_C_unload_6 : decode M_C_unload.2.1 6 = .ok (.iload 5, 2) := by decide +kernel
theorem d_C_unload_8 : decode M_C_unload.2.1 8 = .ok (.iconst 5, 1) := by decide +kernel
theorem d_C_unload_9 : decode M_C_unload.2.1 9 = .ok (.if_icmp .ge 45, 3) := by decide +kernel
theorem d_C_unload_12 : decode M_C_unload.2.1 12 = .ok (.iload 5, 2) := by decide +kernel
theorem d_C_unload_14 : decode M_C_unload.2.1 14 = .ok (.istore 6, 2) := by decide +kernel
theorem d_C_unload_16 : decode M_C_unload.2.1 16 = .ok (.iload 6, 2) := by decide +kernel
theorem d_C_unload_18 : decode M_C_unload.2.1 18 = .ok (.iconst 5, 1) := by decide +kernel
theorem d_C_unload_19 : decode M_C_unload.2.1 19 = .ok (.if_icmp .ge 29, 3) := by decide +kernel
theorem d_C_unload_22 : decode M_C_unload.2.1 22 = .ok (.aload_n 1, 1) := by decide +kernel
theorem d_C_unload_23 : decode M_C_unload.2.1 23 = .ok (.iload 4, 2) := by decide +kernel
theorem d_C_unload_25 : decode M_C_unload.2.1 25 = .ok (.iload_n 3, 1) := by decide +kernel
theorem d_C_unload_26 : decode M_C_unload.2.1 26 = .ok (.aload_n 0, 1) := by decide +kernel
theorem d_C_unload_27 : decode M_C_unload.2.1 27 = .ok (.getfield 23, 3) := by decide +kernel
theorem d_C_unload_30 : decode M_C_unload.2.1 30 = .ok (.iload 5, 2) := by decide +kernel
theorem d_C_unload_32 : decode M_C_unload.2.1 32 = .ok (.aaload, 1) := by decide +kernel
theorem d_C_unload_33 : decode M_C_unload.2.1 33 = .ok (.iload 6, 2) := by decide +kernel
theorem d_C_unload_35 : decode M_C_unload.2.1 35 = .ok (.iaload, 1) := by decide +kernel
theorem d_C_unload_36 : decode M_C_unload.2.1 36 = .ok (.invokestatic 55, 3) := by decide +kernel
theorem d_C_unload_39 : decode M_C_unload.2.1 39 = .ok (.iinc 4 1, 3) := by decide +kernel
theorem d_C_unload_42 : decode M_C_unload.2.1 42 = .ok (.iinc 6 1, 3) := by decide +kernel
theorem d_C_unload_45 : decode M_C_unload.2.1 45 = .ok (.goto (-29), 3) := by decide +kernel
theorem d_C_unload_48 : decode M_C_unload.2.1 48 = .ok (.iinc 5 1, 3) := by decide +kernel
theorem d_C_unload_51 : decode M_C_unload.2.1 51 = .ok (.goto (-45), 3) := by decide +kernel
theorem d_C_unload_54 : decode M_C_unload.2.1 54 = .ok (.iconst 0, 1) := by decide +kernel
theorem d_C_unload_55 : decode M_C_unload.2.1 55 = .ok (.istore 5, 2) := by decide +kernel
theorem d_C_unload_57 : decode M_C_unload.2.1 57 = .ok (.iload 5, 2) := by decide +kernel
theorem d_C_unload_59 : decode M_C_unload.2.1 59 = .ok (.iconst 5, 1) := by decide +kernel
theorem d_C_unload_60 : decode M_C_unload.2.1 60 = .ok (.if_icmp .ge 45, 3) := by decide +kernel
theorem d_C_unload_63 : decode M_C_unload.2.1 63 = .ok (.iconst 5, 1) := by decide +kernel
theorem d_C_unload_64 : decode M_C_unload.2.1 64 = .ok (.istore 6, 2) := by decide +kernel
theorem d_C_unload_66 : decode M_C_unload.2.1 66 = .ok (.iload 6, 2) := by decide +kernel
theorem d_C_unload_68 : decode M_C_unload.2.1 68 = .ok (.bipush 8, 2) := by decide +kernel
theorem d_C_unload_70 : decode M_C_unload.2.1 70 = .ok (.if_icmp .ge 29, 3) := by decide +kernel
theorem d_C_unload_73 : decode M_C_unload.2.1 73 = .ok (.aload_n 1, 1) := by decide +kernel
theorem d_C_unload_74 : decode M_C_unload.2.1 74 = .ok (.iload 4, 2) := by decide +kernel
theorem d_C_unload_76 : decode M_C_unload.2.1 76 = .ok (.iload_n 3, 1) := by decide +kernel
theorem d_C_unload_77 : decode M_C_unload.2.1 77 = .ok (.aload_n 0, 1) := by decide +kernel
theorem d_C_unload_78 : decode M_C_unload.2.1 78 = .ok (.getfield 23, 3) := by decide +kernel
theorem d_C_unload_81 : decode M_C_unload.2.1 81 = .ok (.iload 5, 2) := by decide +kernel
theorem d_C_unload_83 : decode M_C_unload.2.1 83 = .ok (.aaload, 1) := by decide +kernel
theorem d_C_unload_84 : decode M_C_unload.2.1 84 = .ok (.iload 6, 2) := by decide +kernel
theorem d_C_unload_86 : decode M_C_unload.2.1 86 = .ok (.iaload, 1) := by decide +kernel
theorem d_C_unload_87 : decode M_C_unload.2.1 87 = .ok (.invokestatic 55, 3) := by decide +kernel
theorem d_C_unload_90 : decode M_C_unload.2.1 90 = .ok (.iinc 4 1, 3) := by decide +kernel
theorem d_C_unload_93 : decode M_C_unload.2.1 93 = .ok (.iinc 6 1, 3) := by decide +kernel
theorem d_C_unload_96 : decode M_C_unload.2.1 96 = .ok (.goto (-30), 3) := by decide +kernel
theorem d_C_unload_99 : decode M_C_unload.2.1 99 = .ok (.iinc 5 1, 3) := by decide +kernel
theorem d_C_unload_102 : decode M_C_unload.2.1 102 = .ok (.goto (-45), 3) := by decide +kernel
theorem d_C_unload_105 : decode M_C_unload.2.1 105 = .ok (.return_, 1) := by decide +kernel
theorem d_F_init_0 : decode M_F_init.2.1 0 = .ok (.aload_n 0, 1) := by decide +kernel
theorem d_F_init_1 : decode M_F_init.2.1 1 = .ok (.invokespecial 3, 3) := by decide +kernel
theorem d_F_init_4 : decode M_F_init.2.1 4 = .ok (.aload_n 0, 1) := by decide +kernel
theorem d_F_init_5 : decode M_F_init.2.1 5 = .ok (.sipush 512, 3) := by decide +kernel
theorem d_F_init_8 : decode M_F_init.2.1 8 = .ok (.newarray .int, 2) := by decide +kernel
theorem d_F_init_10 : decode M_F_init.2.1 10 = .ok (.putfield 9, 3) := by decide +kernel
theorem d_F_init_13 : decode M_F_init.2.1 13 = .ok (.aload_n 0, 1) := by decide +kernel
theorem d_F_init_14 : decode M_F_init.2.1 14 = .ok (.sipush 256, 3) := by decide +kernel
theorem d_F_init_17 : decode M_F_init.2.1 17 = .ok (.newarray .int, 2) := by decide +kernel
theorem d_F_init_19 : decode M_F_init.2.1 19 = .ok (.putfield 15, 3) := by decide +kernel
theorem d_F_init_22 : decode M_F_init.2.1 22 = .ok (.iconst 1, 1) := by decide +kernel
theorem d_F_init_23 : decode M_F_init.2.1 23 = .ok (.istore_n 1, 1) := by decide +kernel
theorem d_F_init_24 : decode M_F_init.2.1 24 = .ok (.iconst 0, 1) := by decide +kernel
theorem d_F_init_25 : decode M_F_init.2.1 25 = .ok (.istore_n 2, 1) := by decide +kernel
theorem d_F_init_26 : decode M_F_init.2.1 26 = .ok (.iload_n 2, 1) := by decide +kernel
theorem d_F_init_27 : decode M_F_init.2.1 27 = .ok (.sipush 255, 3) := by decide +kernel
theorem d_F_init_30 : decode M_F_init.2.1 30 = .ok (.if_icmp .ge 55, 3) := by decide +kernel
theorem d_F_init_33 : decode M_F_init.2.1 33 = .ok (.aload_n 0, 1) := by decide +kernel
theorem d_F_init_34 : decode M_F_init.2.1 34 = .ok (.getfield 9, 3) := by decide +kernel
theorem d_F_init_37 : decode M_F_init.2.1 37 = .ok (.iload_n 2, 1) := by decide +kernel
theorem d_F_init_38 : decode M_F_init.2.1 38 = .ok (.iload_n 1, 1) := by decide +kernel
theorem d_F_init_39 : decode M_F_init.2.1 39 = .ok (.iastore, 1) := by decide +kernel
theorem d_F_init_40 : decode M_F_init.2.1 40 = .ok (.aload_n 0, 1) := by decide +kernel
theorem d_F_init_41 : decode M_F_init.2.1 41 = .ok (.getfield 9, 3) := by decide +kernel
theorem d_F_init_44 : decode M_F_init.2.1 44 = .ok (.iload_n 2, 1) := by decide +kernel
theorem d_F_init_45 : decode M_F_init.2.1 45 = .ok (.sipush 255, 3) := by decide +kernel
theorem d_F_init_48 : decode M_F_init.2.1 48 = .ok (.iadd, 1) := by decide +kernel
theorem d_F_init_49 : decode M_F_init.2.1 49 = .ok (.iload_n 1, 1) := by decide +kernel
theorem d_F_init_50 : decode M_F_init.2.1 50 = .ok (.iastore, 1) := by decide +kernel
theorem d_F_init_51 : decode M_F_init.2.1 51 = .ok (.aload_n 0, 1) := by decide +kernel
theorem d_F_init_52 : decode M_F_init.2.1 52 = .ok (.getfield 15, 3) := by decide +kernel
theorem d_F_init_55 : decode M_F_init.2.1 55 = .ok (.iload_n 1, 1) := by decide +kernel
theorem d_F_init_56 : decode M_F_init.2.1 56 = .ok (.sipush 255, 3) := by decide +kernel
theorem d_F_init_59 : decode M_F_init.2.1 59 = .ok (.iand, 1) := by decide +kernel
theorem d_F_init_60 : decode M_F_init.2.1 60 = .ok (.iload_n 2, 1) := by decide +kernel
theorem d_F_init_61 : decode M_F_init.2.1 61 = .ok (.iastore, 1) := by decide +kernel
theorem d_F_init_62 : decode M_F_init.2.1 62 = .ok (.iload_n 1, 1) := by decide +kernel
theorem d_F_init_63 : decode M_F_init.2.1 63 = .ok (.iconst 1, 1) := by decide +kernel
theorem d_F_init_64 : decode M_F_init.2.1 64 = .ok (.ishl, 1) := by decide +kernel
theorem d_F_init_65 : decode M_F_init.2.1 65 = .ok (.istore_n 1, 1) := by decide +kernel
theorem d_F_init_66 : decode M_F_init.2.1 66 = .ok (.iload_n 1, 1) := by decide +kernel
theorem d_F_init_67 : decode M_F_init.2.1 67 = .ok (.sipush 256, 3) := by decide +kernel
theorem d_F_init_70 : decode M_F_init.2.1 70 = .ok (.if_icmp .lt 9, 3) := by decide +kernel
theorem d_F_init_73 : decode M_F_init.2.1 73 = .ok (.iload_n 1, 1) := by decide +kernel
theorem d_F_init_74 : decode M_F_init.2.1 74 = .ok (.sipush 285, 3) := by decide +kernel
theorem d_F_init_77 : decode M_F_init.2.1 77 = .ok (.ixor, 1) := by decide +kernel
theorem d_F_init_78 : decode M_F_init.2.1 78 = .ok (.istore_n 1, 1) := by decide +kernel
theorem d_F_init_79 : decode M_F_init.2.1 79 = .ok (.iinc 2 1, 3) := by decide +kernel
theorem d_F_init_82 : decode M_F_init.2.1 82 = .ok (.goto (-56), 3) := by decide +kernel
theorem d_F_init_85 : decode M_F_init.2.1 85 = .ok (.return_, 1) := by decide +kernel
theorem d_F_product_0 : decode M_F_product.2.1 0 = .ok (.iload_n 1, 1) := by decide +kernel
theorem d_F_product_1 : decode M_F_product.2.1 1 = .ok (.ifCond .eq 7, 3) := by decide +kernel
theorem d_F_product_4 : decode M_F_product.2.1 4 = .ok (.iload_n 2, 1) := by decide +kernel
theorem d_F_product_5 : decode M_F_product.2.1 5 = .ok (.ifCond .ne 5, 3) := by decide +kernel
theorem d_F_product_8 : decode M_F_product.2.1 8 = .ok (.iconst 0, 1) := by decide +kernel
theorem d_F_product_9 : decode M_F_product.2.1 9 = .ok (.ireturn, 1) := by decide +kernel
theorem d_F_product_10 : decode M_F_product.2.1 10 = .ok (.aload_n 0, 1) := by decide +kernel
theorem d_F_product_11 : decode M_F_product.2.1 11 = .ok (.getfield 9, 3) := by decide +kernel
theorem d_F_product_14 : decode M_F_product.2.1 14 = .ok (.aload_n 0, 1) := by decide +kernel
theorem d_F_product_15 : decode M_F_product.2.1 15 = .ok (.getfield 15, 3) := by decide +kernel
theorem d_F_product_18 : decode M_F_product.2.1 18 = .ok (.iload_n 1, 1) := by decide +kernel
theorem d_F_product_19 : decode M_F_product.2.1 19 = .ok (.sipush 255, 3) := by decide +kernel
theorem d_F_product_22 : decode M_F_product.2.1 22 = .ok (.iand, 1) := by decide +kernel
theorem d_F_product_23 : decode M_F_product.2.1 23 = .ok (.iaload, 1) := by decide +kernel
theorem d_F_product_24 : decode M_F_product.2.1 24 = .ok (.aload_n 0, 1) := by decide +kernel
theorem d_F_product_25 : decode M_F_product.2.1 25 = .ok (.getfield 15, 3) := by decide +kernel
theorem d_F_product_28 : decode M_F_product.2.1 28 = .ok (.iload_n 2, 1) := by decide +kernel
theorem d_F_product_29 : decode M_F_product.2.1 29 = .ok (.sipush 255, 3) := by decide +kernel
theorem d_F_product_32 : decode M_F_product.2.1 32 = .ok (.iand, 1) := by decide +kernel
theorem d_F_product_33 : decode M_F_product.2.1 33 = .ok (.iaload, 1) := by decide +kernel
theorem d_F_product_34 : decode M_F_product.2.1 34 = .ok (.iadd, 1) := by decide +kernel
theorem d_F_product_35 : decode M_F_product.2.1 35 = .ok (.iaload, 1) := by decide +kernel
theorem d_F_product_36 : decode M_F_product.2.1 36 = .ok (.ireturn, 1) := by decide +kernel
theorem d_F_quotient_0 : decode M_F_quotient.2.1 0 = .ok (.iload_n 1, 1) := by decide +kernel
theorem d_F_quotient_1 : decode M_F_quotient.2.1 1 = .ok (.ifCond .eq 7, 3) := by decide +kernel
theorem d_F_quotient_4 : decode M_F_quotient.2.1 4 = .ok (.iload_n 2, 1) := by decide +kernel
theorem d_F_quotient_5 : decode M_F_quotient.2.1 5 = .ok (.ifCond .ne 5, 3) := by decide +kernel
theorem d_F_quotient_8 : decode M_F_quotient.2.1 8 = .ok (.iconst 0, 1) := by decide +kernel
theorem d_F_quotient_9 : decode M_F_quotient.2.1 9 = .ok (.ireturn, 1) := by decide +kernel
theorem d_F_quotient_10 : decode M_F_quotient.2.1 10 = .ok (.aload_n 0, 1) := by decide +kernel
theorem d_F_quotient_11 : decode M_F_quotient.2.1 11 = .ok (.getfield 9, 3) := by decide +kernel
theorem d_F_quotient_14 : decode M_F_quotient.2.1 14 = .ok (.aload_n 0, 1) := by decide +kernel
theorem d_F_quotient_15 : decode M_F_quotient.2.1 15 = .ok (.getfield 15, 3) := by decide +kernel
theorem d_F_quotient_18 : decode M_F_quotient.2.1 18 = .ok (.iload_n 1, 1) := by decide +kernel
theorem d_F_quotient_19 : decode M_F_quotient.2.1 19 = .ok (.sipush 255, 3) := by decide +kernel
theorem d_F_quotient_22 : decode M_F_quotient.2.1 22 = .ok (.iand, 1) := by decide +kernel
theorem d_F_quotient_23 : decode M_F_quotient.2.1 23 = .ok (.iaload, 1) := by decide +kernel
theorem d_F_quotient_24 : decode M_F_quotient.2.1 24 = .ok (.sipush 255, 3) := by decide +kernel
theorem d_F_quotient_27 : decode M_F_quotient.2.1 27 = .ok (.iadd, 1) := by decide +kernel
theorem d_F_quotient_28 : decode M_F_quotient.2.1 28 = .ok (.aload_n 0, 1) := by decide +kernel
theorem d_F_quotient_29 : decode M_F_quotient.2.1 29 = .ok (.getfield 15, 3) := by decide +kernel
theorem d_F_quotient_32 : decode M_F_quotient.2.1 32 = .ok (.iload_n 2, 1) := by decide +kernel
theorem d_F_quotient_33 : decode M_F_quotient.2.1 33 = .ok (.sipush 255, 3) := by decide +kernel
theorem d_F_quotient_36 : decode M_F_quotient.2.1 36 = .ok (.iand, 1) := by decide +kernel
theorem d_F_quotient_37 : decode M_F_quotient.2.1 37 = .ok (.iaload, 1) := by decide +kernel
theorem d_F_quotient_38 : decode M_F_quotient.2.1 38 = .ok (.isub, 1) := by decide +kernel
theorem d_F_quotient_39 : decode M_F_quotient.2.1 39 = .ok (.iaload, 1) := by decide +kernel
theorem d_F_quotient_40 : decode M_F_quotient.2.1 40 = .ok (.ireturn, 1) := by decide +kernel
theorem d_H_init_0 : decode M_H_init.2.1 0 = .ok (.aload_n 0, 1) := by decide +kernel
theorem d_H_init_1 : decode M_H_init.2.1 1 = .ok (.invokespecial 3, 3) := by decide +kernel
theorem d_H_init_4 : decode M_H_init.2.1 4 = .ok (.aload_n 0, 1) := by decide +kernel
theorem d_H_init_5 : decode M_H_init.2.1 5 = .ok (.bipush 8, 2) := by decide +kernel
theorem d_H_init_7 : decode M_H_init.2.1 7 = .ok (.newarray .int, 2) := by decide +kernel
theorem d_H_init_9 : decode M_H_init.2.1 9 = .ok (.putfield 9, 3) := by decide +kernel
theorem d_H_init_12 : decode M_H_init.2.1 12 = .ok (.aload_n 0, 1) := by decide +kernel
theorem d_H_init_13 : decode M_H_init.2.1 13 = .ok (.iconst 0, 1) := by decide +kernel
theorem d_H_init_14 : decode M_H_init.2.1 14 = .ok (.putfield 15, 3) := by decide +kernel
theorem d_H_init_17 : decode M_H_init.2.1 17 = .ok (.aload_n 0, 1) := by decide +kernel
theorem d_H_init_18 : decode M_H_init.2.1 18 = .ok (.iconst 0, 1) := by decide +kernel
theorem d_H_init_19 : decode M_H_init.2.1 19 = .ok (.putfield 19, 3) := by decide +kernel
theorem d_H_init_22 : decode M_H_init.2.1 22 = .ok (.aload_n 0, 1) := by decide +kernel
theorem d_H_init_23 : decode M_H_init.2.1 23 = .ok (.iconst 0, 1) := by decide +kernel
theorem d_H_init_24 : decode M_H_init.2.1 24 = .ok (.putfield 22, 3) := by decide +kernel
theorem d_H_init_27 : decode M_H_init.2.1 27 = .ok (.return_, 1) := by decide +kernel
theorem d_H_placeOf_0 : decode M_H_placeOf.2.1 0 = .ok (.iload_n 1, 1) := by decide +kernel
theorem d_H_placeOf_1 : decode M_H_placeOf.2.1 1 = .ok (.ifCond .lt 26, 3) := by decide +kernel
theorem d_H_placeOf_4 : decode M_H_placeOf.2.1 4 = .ok (.iload_n 1, 1) := by decide +kernel
theorem d_H_placeOf_5 : decode M_H_placeOf.2.1 5 = .ok (.aload_n 0, 1) := by decide +kernel
theorem d_H_placeOf_6 : decode M_H_placeOf.2.1 6 = .ok (.getfield 22, 3) := by decide +kernel
theorem d_H_placeOf_9 : decode M_H_placeOf.2.1 9 = .ok (.if_icmp .ge 18, 3) := by decide +kernel
theorem d_H_placeOf_12 : decode M_H_placeOf.2.1 12 = .ok (.iload_n 1, 1) := by decide +kernel
theorem d_H_placeOf_13 : decode M_H_placeOf.2.1 13 = .ok (.bipush 8, 2) := by decide +kernel
theorem d_H_placeOf_15 : decode M_H_placeOf.2.1 15 = .ok (.if_icmp .ge 12, 3) := by decide +kernel
theorem d_H_placeOf_18 : decode M_H_placeOf.2.1 18 = .ok (.aload_n 0, 1) := by decide +kernel
theorem d_H_placeOf_19 : decode M_H_placeOf.2.1 19 = .ok (.getfield 9, 3) := by decide +kernel
theorem d_H_placeOf_22 : decode M_H_placeOf.2.1 22 = .ok (.iload_n 1, 1) := by decide +kernel
theorem d_H_placeOf_23 : decode M_H_placeOf.2.1 23 = .ok (.iaload, 1) := by decide +kernel
theorem d_H_placeOf_24 : decode M_H_placeOf.2.1 24 = .ok (.goto 4, 3) := by decide +kernel
theorem d_H_placeOf_27 : decode M_H_placeOf.2.1 27 = .ok (.iconst (-1), 1) := by decide +kernel
theorem d_H_placeOf_28 : decode M_H_placeOf.2.1 28 = .ok (.ireturn, 1) := by decide +kernel
theorem d_L_law_0 : decode code 0 = .ok (.new 7, 3) := by decide +kernel
theorem d_L_law_3 : decode code 3 = .ok (.dup, 1) := by decide +kernel
theorem d_L_law_4 : decode code 4 = .ok (.invokespecial 9, 3) := by decide +kernel
theorem d_L_law_7 : decode code 7 = .ok (.astore_n 1, 1) := by decide +kernel
theorem d_L_law_8 : decode code 8 = .ok (.new 10, 3) := by decide +kernel
theorem d_L_law_11 : decode code 11 = .ok (.dup, 1) := by decide +kernel
theorem d_L_law_12 : decode code 12 = .ok (.invokespecial 12, 3) := by decide +kernel
theorem d_L_law_15 : decode code 15 = .ok (.astore_n 2, 1) := by decide +kernel
theorem d_L_law_16 : decode code 16 = .ok (.iconst 0, 1) := by decide +kernel
theorem d_L_law_17 : decode code 17 = .ok (.istore_n 3, 1) := by decide +kernel
theorem d_L_law_18 : decode code 18 = .ok (.iload_n 3, 1) := by decide +kernel
theorem d_L_law_19 : decode code 19 = .ok (.aload_n 0, 1) := by decide +kernel
theorem d_L_law_20 : decode code 20 = .ok (.arraylength, 1) := by decide +kernel
theorem d_L_law_21 : decode code 21 = .ok (.iconst 5, 1) := by decide +kernel
theorem d_L_law_22 : decode code 22 = .ok (.isub, 1) := by decide +kernel
theorem d_L_law_23 : decode code 23 = .ok (.if_icmp .gt 930, 3) := by decide +kernel
theorem d_L_law_26 : decode code 26 = .ok (.aload_n 0, 1) := by decide +kernel
theorem d_L_law_27 : decode code 27 = .ok (.iload_n 3, 1) := by decide +kernel
theorem d_L_law_28 : decode code 28 = .ok (.iaload, 1) := by decide +kernel
theorem d_L_law_29 : decode code 29 = .ok (.bipush 31, 2) := by decide +kernel
theorem d_L_law_31 : decode code 31 = .ok (.iand, 1) := by decide +kernel
theorem d_L_law_32 : decode code 32 = .ok (.tableswitch 915 0 25 #[120, 153, 186, 219, 282, 305, 328, 351, 374, 407, 430, 453, 476, 499, 522, 545, 578, 611, 634, 657, 700, 769, 812, 865, 888, 902], 120) := by decide +kernel
theorem d_L_law_152 : decode code 152 = .ok (.aload_n 1, 1) := by decide +kernel
theorem d_L_law_153 : decode code 153 = .ok (.aload_n 0, 1) := by decide +kernel
theorem d_L_law_154 : decode code 154 = .ok (.iload_n 3, 1) := by decide +kernel
theorem d_L_law_155 : decode code 155 = .ok (.iconst 1, 1) := by decide +kernel
theorem d_L_law_156 : decode code 156 = .ok (.iadd, 1) := by decide +kernel
theorem d_L_law_157 : decode code 157 = .ok (.iaload, 1) := by decide +kernel
theorem d_L_law_158 : decode code 158 = .ok (.aload_n 0, 1) := by decide +kernel
theorem d_L_law_159 : decode code 159 = .ok (.iload_n 3, 1) := by decide +kernel
theorem d_L_law_160 : decode code 160 = .ok (.iconst 2, 1) := by decide +kernel
theorem d_L_law_161 : decode code 161 = .ok (.iadd, 1) := by decide +kernel
theorem d_L_law_162 : decode code 162 = .ok (.iaload, 1) := by decide +kernel
theorem d_L_law_163 : decode code 163 = .ok (.invokevirtual 13, 3) := by decide +kernel
theorem d_L_law_166 : decode code 166 = .ok (.aload_n 2, 1) := by decide +kernel
theorem d_L_law_167 : decode code 167 = .ok (.aload_n 0, 1) := by decide +kernel
theorem d_L_law_168 : decode code 168 = .ok (.iload_n 3, 1) := by decide +kernel
theorem d_L_law_169 : decode code 169 = .ok (.iconst 1, 1) := by decide +kernel
theorem d_L_law_170 : decode code 170 = .ok (.iadd, 1) := by decide +kernel
theorem d_L_law_171 : decode code 171 = .ok (.iaload, 1) := by decide +kernel
theorem d_L_law_172 : decode code 172 = .ok (.aload_n 0, 1) := by decide +kernel
theorem d_L_law_173 : decode code 173 = .ok (.iload_n 3, 1) := by decide +kernel
theorem d_L_law_174 : decode code 174 = .ok (.iconst 2, 1) := by decide +kernel
theorem d_L_law_175 : decode code 175 = .ok (.iadd, 1) := by decide +kernel
theorem d_L_law_176 : decode code 176 = .ok (.iaload, 1) := by decide +kernel
theorem d_L_law_177 : decode code 177 = .ok (.invokevirtual 17, 3) := by decide +kernel
theorem d_L_law_180 : decode code 180 = .ok (.if_icmp .eq 767, 3) := by decide +kernel
theorem d_L_law_183 : decode code 183 = .ok (.iconst 0, 1) := by decide +kernel
theorem d_L_law_184 : decode code 184 = .ok (.ireturn, 1) := by decide +kernel
theorem d_L_law_185 : decode code 185 = .ok (.aload_n 1, 1) := by decide +kernel
theorem d_L_law_186 : decode code 186 = .ok (.aload_n 0, 1) := by decide +kernel
theorem d_L_law_187 : decode code 187 = .ok (.iload_n 3, 1) := by decide +kernel
theorem d_L_law_188 : decode code 188 = .ok (.iconst 1, 1) := by decide +kernel
theorem d_L_law_189 : decode code 189 = .ok (.iadd, 1) := by decide +kernel
theorem d_L_law_190 : decode code 190 = .ok (.iaload, 1) := by decide +kernel
theorem d_L_law_191 : decode code 191 = .ok (.aload_n 0, 1) := by decide +kernel
theorem d_L_law_192 : decode code 192 = .ok (.iload_n 3, 1) := by decide +kernel
theorem d_L_law_193 : decode code 193 = .ok (.iconst 2, 1) := by decide +kernel
theorem d_L_law_194 : decode code 194 = .ok (.iadd, 1) := by decide +kernel
theorem d_L_law_195 : decode code 195 = .ok (.iaload, 1) := by decide +kernel
theorem d_L_law_196 : decode code 196 = .ok (.invokevirtual 18, 3) := by decide +kernel
theorem d_L_law_199 : decode code 199 = .ok (.aload_n 2, 1) := by decide +kernel
theorem d_L_law_200 : decode code 200 = .ok (.aload_n 0, 1) := by decide +kernel
theorem d_L_law_201 : decode code 201 = .ok (.iload_n 3, 1) := by decide +kernel
theorem d_L_law_202 : decode code 202 = .ok (.iconst 1, 1) := by decide +kernel
theorem d_L_law_203 : decode code 203 = .ok (.iadd, 1) := by decide +kernel
theorem d_L_law_204 : decode code 204 = .ok (.iaload, 1) := by decide +kernel
theorem d_L_law_205 : decode code 205 = .ok (.aload_n 0, 1) := by decide +kernel
theorem d_L_law_206 : decode code 206 = .ok (.iload_n 3, 1) := by decide +kernel
theorem d_L_law_207 : decode code 207 = .ok (.iconst 2, 1) := by decide +kernel
theorem d_L_law_208 : decode code 208 = .ok (.iadd, 1) := by decide +kernel
theorem d_L_law_209 : decode code 209 = .ok (.iaload, 1) := by decide +kernel
theorem d_L_law_210 : decode code 210 = .ok (.invokevirtual 21, 3) := by decide +kernel
theorem d_L_law_213 : decode code 213 = .ok (.if_icmp .eq 734, 3) := by decide +kernel
theorem d_L_law_216 : decode code 216 = .ok (.iconst 0, 1) := by decide +kernel
theorem d_L_law_217 : decode code 217 = .ok (.ireturn, 1) := by decide +kernel
theorem d_L_law_218 : decode code 218 = .ok (.aload_n 1, 1) := by decide +kernel
theorem d_L_law_219 : decode code 219 = .ok (.aload_n 0, 1) := by decide +kernel
theorem d_L_law_220 : decode code 220 = .ok (.iload_n 3, 1) := by decide +kernel
theorem d_L_law_221 : decode code 221 = .ok (.iconst 1, 1) := by decide +kernel
theorem d_L_law_222 : decode code 222 = .ok (.iadd, 1) := by decide +kernel
theorem d_L_law_223 : decode code 223 = .ok (.iaload, 1) := by decide +kernel
theorem d_L_law_224 : decode code 224 = .ok (.aload_n 0, 1) := by decide +kernel
theorem d_L_law_225 : decode code 225 = .ok (.iload_n 3, 1) := by decide +kernel
theorem d_L_law_226 : decode code 226 = .ok (.iconst 2, 1) := by decide +kernel
theorem d_L_law_227 : decode code 227 = .ok (.iadd, 1) := by decide +kernel
theorem d_L_law_228 : decode code 228 = .ok (.iaload, 1) := by decide +kernel
theorem d_L_law_229 : decode code 229 = .ok (.invokevirtual 22, 3) := by decide +kernel
theorem d_L_law_232 : decode code 232 = .ok (.aload_n 2, 1) := by decide +kernel
theorem d_L_law_233 : decode code 233 = .ok (.aload_n 0, 1) := by decide +kernel
theorem d_L_law_234 : decode code 234 = .ok (.iload_n 3, 1) := by decide +kernel
theorem d_L_law_235 : decode code 235 = .ok (.iconst 1, 1) := by decide +kernel
theorem d_L_law_236 : decode code 236 = .ok (.iadd, 1) := by decide +kernel
theorem d_L_law_237 : decode code 237 = .ok (.iaload, 1) := by decide +kernel
theorem d_L_law_238 : decode code 238 = .ok (.aload_n 0, 1) := by decide +kernel
theorem d_L_law_239 : decode code 239 = .ok (.iload_n 3, 1) := by decide +kernel
theorem d_L_law_240 : decode code 240 = .ok (.iconst 2, 1) := by decide +kernel
theorem d_L_law_241 : decode code 241 = .ok (.iadd, 1) := by decide +kernel
theorem d_L_law_242 : decode code 242 = .ok (.iaload, 1) := by decide +kernel
theorem d_L_law_243 : decode code 243 = .ok (.invokevirtual 25, 3) := by decide +kernel
theorem d_L_law_246 : decode code 246 = .ok (.if_icmp .eq 701, 3) := by decide +kernel
theorem d_L_law_249 : decode code 249 = .ok (.iconst 0, 1) := by decide +kernel
theorem d_L_law_250 : decode code 250 = .ok (.ireturn, 1) := by decide +kernel
theorem d_L_law_251 : decode code 251 = .ok (.aload_n 1, 1) := by decide +kernel
theorem d_L_law_252 : decode code 252 = .ok (.aload_n 0, 1) := by decide +kernel
theorem d_L_law_253 : decode code 253 = .ok (.iload_n 3, 1) := by decide +kernel
theorem d_L_law_254 : decode code 254 = .ok (.iconst 1, 1) := by decide +kernel
theorem d_L_law_255 : decode code 255 = .ok (.iadd, 1) := by decide +kernel
theorem d_L_law_256 : decode code 256 = .ok (.iaload, 1) := by decide +kernel
theorem d_L_law_257 : decode code 257 = .ok (.i2l, 1) := by decide +kernel
theorem d_L_law_258 : decode code 258 = .ok (.bipush 32, 2) := by decide +kernel
theorem d_L_law_260 : decode code 260 = .ok (.lshl, 1) := by decide +kernel
theorem d_L_law_261 : decode code 261 = .ok (.aload_n 0, 1) := by decide +kernel
theorem d_L_law_262 : decode code 262 = .ok (.iload_n 3, 1) := by decide +kernel
theorem d_L_law_263 : decode code 263 = .ok (.iconst 2, 1) := by decide +kernel
theorem d_L_law_264 : decode code 264 = .ok (.iadd, 1) := by decide +kernel
theorem d_L_law_265 : decode code 265 = .ok (.iaload, 1) := by decide +kernel
theorem d_L_law_266 : decode code 266 = .ok (.i2l, 1) := by decide +kernel
theorem d_L_law_267 : decode code 267 = .ok (.ldc2_w 26, 3) := by decide +kernel
theorem d_L_law_270 : decode code 270 = .ok (.land, 1) := by decide +kernel
theorem d_L_law_271 : decode code 271 = .ok (.lor, 1) := by decide +kernel
theorem d_L_law_272 : decode code 272 = .ok (.aload_n 0, 1) := by decide +kernel
theorem d_L_law_273 : decode code 273 = .ok (.iload_n 3, 1) := by decide +kernel
theorem d_L_law_274 : decode code 274 = .ok (.iconst 3, 1) := by decide +kernel
theorem d_L_law_275 : decode code 275 = .ok (.iadd, 1) := by decide +kernel
theorem d_L_law_276 : decode code 276 = .ok (.iaload, 1) := by decide +kernel
theorem d_L_law_277 : decode code 277 = .ok (.invokevirtual 28, 3) := by decide +kernel
theorem d_L_law_280 : decode code 280 = .ok (.aload_n 2, 1) := by decide +kernel
theorem d_L_law_281 : decode code 281 = .ok (.aload_n 0, 1) := by decide +kernel
theorem d_L_law_282 : decode code 282 = .ok (.iload_n 3, 1) := by decide +kernel
theorem d_L_law_283 : decode code 283 = .ok (.iconst 1, 1) := by decide +kernel
theorem d_L_law_284 : decode code 284 = .ok (.iadd, 1) := by decide +kernel
theorem d_L_law_285 : decode code 285 = .ok (.iaload, 1) := by decide +kernel
theorem d_L_law_286 : decode code 286 = .ok (.i2l, 1) := by decide +kernel
theorem d_L_law_287 : decode code 287 = .ok (.bipush 32, 2) := by decide +kernel
theorem d_L_law_289 : decode code 289 = .ok (.lshl, 1) := by decide +kernel
theorem d_L_law_290 : decode code 290 = .ok (.aload_n 0, 1) := by decide +kernel
theorem d_L_law_291 : decode code 291 = .ok (.iload_n 3, 1) := by decide +kernel
theorem d_L_law_292 : decode code 292 = .ok (.iconst 2, 1) := by decide +kernel
theorem d_L_law_293 : decode code 293 = .ok (.iadd, 1) := by decide +kernel
theorem d_L_law_294 : decode code 294 = .ok (.iaload, 1) := by decide +kernel
theorem d_L_law_295 : decode code 295 = .ok (.i2l, 1) := by decide +kernel
theorem d_L_law_296 : decode code 296 = .ok (.ldc2_w 26, 3) := by decide +kernel
theorem d_L_law_299 : decode code 299 = .ok (.land, 1) := by decide +kernel
theorem d_L_law_300 : decode code 300 = .ok (.lor, 1) := by decide +kernel
theorem d_L_law_301 : decode code 301 = .ok (.aload_n 0, 1) := by decide +kernel
theorem d_L_law_302 : decode code 302 = .ok (.iload_n 3, 1) := by decide +kernel
theorem d_L_law_303 : decode code 303 = .ok (.iconst 3, 1) := by decide +kernel
theorem d_L_law_304 : decode code 304 = .ok (.iadd, 1) := by decide +kernel
theorem d_L_law_305 : decode code 305 = .ok (.iaload, 1) := by decide +kernel
theorem d_L_law_306 : decode code 306 = .ok (.invokevirtual 32, 3) := by decide +kernel
theorem d_L_law_309 : decode code 309 = .ok (.if_icmp .eq 638, 3) := by decide +kernel
theorem d_L_law_312 : decode code 312 = .ok (.iconst 0, 1) := by decide +kernel
theorem d_L_law_313 : decode code 313 = .ok (.ireturn, 1) := by decide +kernel
theorem d_L_law_314 : decode code 314 = .ok (.aload_n 1, 1) := by decide +kernel
theorem d_L_law_315 : decode code 315 = .ok (.aload_n 0, 1) := by decide +kernel
theorem d_L_law_316 : decode code 316 = .ok (.iload_n 3, 1) := by decide +kernel
theorem d_L_law_317 : decode code 317 = .ok (.iconst 1, 1) := by decide +kernel
theorem d_L_law_318 : decode code 318 = .ok (.iadd, 1) := by decide +kernel
theorem d_L_law_319 : decode code 319 = .ok (.iaload, 1) := by decide +kernel
theorem d_L_law_320 : decode code 320 = .ok (.invokevirtual 33, 3) := by decide +kernel
theorem d_L_law_323 : decode code 323 = .ok (.aload_n 2, 1) := by decide +kernel
theorem d_L_law_324 : decode code 324 = .ok (.aload_n 0, 1) := by decide +kernel
theorem d_L_law_325 : decode code 325 = .ok (.iload_n 3, 1) := by decide +kernel
theorem d_L_law_326 : decode code 326 = .ok (.iconst 1, 1) := by decide +kernel
theorem d_L_law_327 : decode code 327 = .ok (.iadd, 1) := by decide +kernel
theorem d_L_law_328 : decode code 328 = .ok (.iaload, 1) := by decide +kernel
theorem d_L_law_329 : decode code 329 = .ok (.invokevirtual 37, 3) := by decide +kernel
theorem d_L_law_332 : decode code 332 = .ok (.if_icmp .eq 615, 3) := by decide +kernel
theorem d_L_law_335 : decode code 335 = .ok (.iconst 0, 1) := by decide +kernel
theorem d_L_law_336 : decode code 336 = .ok (.ireturn, 1) := by decide +kernel
theorem d_L_law_337 : decode code 337 = .ok (.aload_n 1, 1) := by decide +kernel
theorem d_L_law_338 : decode code 338 = .ok (.aload_n 0, 1) := by decide +kernel
theorem d_L_law_339 : decode code 339 = .ok (.iload_n 3, 1) := by decide +kernel
theorem d_L_law_340 : decode code 340 = .ok (.iconst 1, 1) := by decide +kernel
theorem d_L_law_341 : decode code 341 = .ok (.iadd, 1) := by decide +kernel
theorem d_L_law_342 : decode code 342 = .ok (.iaload, 1) := by decide +kernel
theorem d_L_law_343 : decode code 343 = .ok (.invokevirtual 38, 3) := by decide +kernel
theorem d_L_law_346 : decode code 346 = .ok (.aload_n 2, 1) := by decide +kernel
theorem d_L_law_347 : decode code 347 = .ok (.aload_n 0, 1) := by decide +kernel
theorem d_L_law_348 : decode code 348 = .ok (.iload_n 3, 1) := by decide +kernel
theorem d_L_law_349 : decode code 349 = .ok (.iconst 1, 1) := by decide +kernel
theorem d_L_law_350 : decode code 350 = .ok (.iadd, 1) := by decide +kernel
theorem d_L_law_351 : decode code 351 = .ok (.iaload, 1) := by decide +kernel
theorem d_L_law_352 : decode code 352 = .ok (.invokevirtual 41, 3) := by decide +kernel
theorem d_L_law_355 : decode code 355 = .ok (.if_icmp .eq 592, 3) := by decide +kernel
theorem d_L_law_358 : decode code 358 = .ok (.iconst 0, 1) := by decide +kernel
theorem d_L_law_359 : decode code 359 = .ok (.ireturn, 1) := by decide +kernel
theorem d_L_law_360 : decode code 360 = .ok (.aload_n 1, 1) := by decide +kernel
theorem d_L_law_361 : decode code 361 = .ok (.aload_n 0, 1) := by decide +kernel
theorem d_L_law_362 : decode code 362 = .ok (.iload_n 3, 1) := by decide +kernel
theorem d_L_law_363 : decode code 363 = .ok (.iconst 1, 1) := by decide +kernel
theorem d_L_law_364 : decode code 364 = .ok (.iadd, 1) := by decide +kernel
theorem d_L_law_365 : decode code 365 = .ok (.iaload, 1) := by decide +kernel
theorem d_L_law_366 : decode code 366 = .ok (.invokevirtual 42, 3) := by decide +kernel
theorem d_L_law_369 : decode code 369 = .ok (.aload_n 2, 1) := by decide +kernel
theorem d_L_law_370 : decode code 370 = .ok (.aload_n 0, 1) := by decide +kernel
theorem d_L_law_371 : decode code 371 = .ok (.iload_n 3, 1) := by decide +kernel
theorem d_L_law_372 : decode code 372 = .ok (.iconst 1, 1) := by decide +kernel
theorem d_L_law_373 : decode code 373 = .ok (.iadd, 1) := by decide +kernel
theorem d_L_law_374 : decode code 374 = .ok (.iaload, 1) := by decide +kernel
theorem d_L_law_375 : decode code 375 = .ok (.invokevirtual 45, 3) := by decide +kernel
theorem d_L_law_378 : decode code 378 = .ok (.if_icmp .eq 569, 3) := by decide +kernel
theorem d_L_law_381 : decode code 381 = .ok (.iconst 0, 1) := by decide +kernel
theorem d_L_law_382 : decode code 382 = .ok (.ireturn, 1) := by decide +kernel
theorem d_L_law_383 : decode code 383 = .ok (.aload_n 1, 1) := by decide +kernel
theorem d_L_law_384 : decode code 384 = .ok (.aload_n 0, 1) := by decide +kernel
theorem d_L_law_385 : decode code 385 = .ok (.iload_n 3, 1) := by decide +kernel
theorem d_L_law_386 : decode code 386 = .ok (.iconst 1, 1) := by decide +kernel
theorem d_L_law_387 : decode code 387 = .ok (.iadd, 1) := by decide +kernel
theorem d_L_law_388 : decode code 388 = .ok (.iaload, 1) := by decide +kernel
theorem d_L_law_389 : decode code 389 = .ok (.invokevirtual 46, 3) := by decide +kernel
theorem d_L_law_392 : decode code 392 = .ok (.aload_n 2, 1) := by decide +kernel
theorem d_L_law_393 : decode code 393 = .ok (.aload_n 0, 1) := by decide +kernel
theorem d_L_law_394 : decode code 394 = .ok (.iload_n 3, 1) := by decide +kernel
theorem d_L_law_395 : decode code 395 = .ok (.iconst 1, 1) := by decide +kernel
theorem d_L_law_396 : decode code 396 = .ok (.iadd, 1) := by decide +kernel
theorem d_L_law_397 : decode code 397 = .ok (.iaload, 1) := by decide +kernel
theorem d_L_law_398 : decode code 398 = .ok (.invokevirtual 49, 3) := by decide +kernel
theorem d_L_law_401 : decode code 401 = .ok (.if_icmp .eq 546, 3) := by decide +kernel
theorem d_L_law_404 : decode code 404 = .ok (.iconst 0, 1) := by decide +kernel
theorem d_L_law_405 : decode code 405 = .ok (.ireturn, 1) := by decide +kernel
theorem d_L_law_406 : decode code 406 = .ok (.aload_n 1, 1) := by decide +kernel
theorem d_L_law_407 : decode code 407 = .ok (.aload_n 0, 1) := by decide +kernel
theorem d_L_law_408 : decode code 408 = .ok (.iload_n 3, 1) := by decide +kernel
theorem d_L_law_409 : decode code 409 = .ok (.iconst 1, 1) := by decide +kernel
theorem d_L_law_410 : decode code 410 = .ok (.iadd, 1) := by decide +kernel
theorem d_L_law_411 : decode code 411 = .ok (.iaload, 1) := by decide +kernel
theorem d_L_law_412 : decode code 412 = .ok (.aload_n 0, 1) := by decide +kernel
theorem d_L_law_413 : decode code 413 = .ok (.iload_n 3, 1) := by decide +kernel
theorem d_L_law_414 : decode code 414 = .ok (.iconst 2, 1) := by decide +kernel
theorem d_L_law_415 : decode code 415 = .ok (.iadd, 1) := by decide +kernel
theorem d_L_law_416 : decode code 416 = .ok (.iaload, 1) := by decide +kernel
theorem d_L_law_417 : decode code 417 = .ok (.invokevirtual 50, 3) := by decide +kernel
theorem d_L_law_420 : decode code 420 = .ok (.aload_n 2, 1) := by decide +kernel
theorem d_L_law_421 : decode code 421 = .ok (.aload_n 0, 1) := by decide +kernel
theorem d_L_law_422 : decode code 422 = .ok (.iload_n 3, 1) := by decide +kernel
theorem d_L_law_423 : decode code 423 = .ok (.iconst 1, 1) := by decide +kernel
theorem d_L_law_424 : decode code 424 = .ok (.iadd, 1) := by decide +kernel
theorem d_L_law_425 : decode code 425 = .ok (.iaload, 1) := by decide +kernel
theorem d_L_law_426 : decode code 426 = .ok (.aload_n 0, 1) := by decide +kernel
theorem d_L_law_427 : decode code 427 = .ok (.iload_n 3, 1) := by decide +kernel
theorem d_L_law_428 : decode code 428 = .ok (.iconst 2, 1) := by decide +kernel
theorem d_L_law_429 : decode code 429 = .ok (.iadd, 1) := by decide +kernel
theorem d_L_law_430 : decode code 430 = .ok (.iaload, 1) := by decide +kernel
theorem d_L_law_431 : decode code 431 = .ok (.invokevirtual 53, 3) := by decide +kernel
theorem d_L_law_434 : decode code 434 = .ok (.if_icmp .eq 513, 3) := by decide +kernel
theorem d_L_law_437 : decode code 437 = .ok (.iconst 0, 1) := by decide +kernel
theorem d_L_law_438 : decode code 438 = .ok (.ireturn, 1) := by decide +kernel
theorem d_L_law_439 : decode code 439 = .ok (.aload_n 1, 1) := by decide +kernel
theorem d_L_law_440 : decode code 440 = .ok (.aload_n 0, 1) := by decide +kernel
theorem d_L_law_441 : decode code 441 = .ok (.iload_n 3, 1) := by decide +kernel
theorem d_L_law_442 : decode code 442 = .ok (.iconst 1, 1) := by decide +kernel
theorem d_L_law_443 : decode code 443 = .ok (.iadd, 1) := by decide +kernel
theorem d_L_law_444 : decode code 444 = .ok (.iaload, 1) := by decide +kernel
theorem d_L_law_445 : decode code 445 = .ok (.invokevirtual 54, 3) := by decide +kernel
theorem d_L_law_448 : decode code 448 = .ok (.aload_n 2, 1) := by decide +kernel
theorem d_L_law_449 : decode code 449 = .ok (.aload_n 0, 1) := by decide +kernel
theorem d_L_law_450 : decode code 450 = .ok (.iload_n 3, 1) := by decide +kernel
theorem d_L_law_451 : decode code 451 = .ok (.iconst 1, 1) := by decide +kernel
theorem d_L_law_452 : decode code 452 = .ok (.iadd, 1) := by decide +kernel
theorem d_L_law_453 : decode code 453 = .ok (.iaload, 1) := by decide +kernel
theorem d_L_law_454 : decode code 454 = .ok (.invokevirtual 57, 3) := by decide +kernel
theorem d_L_law_457 : decode code 457 = .ok (.if_icmp .eq 490, 3) := by decide +kernel
theorem d_L_law_460 : decode code 460 = .ok (.iconst 0, 1) := by decide +kernel
theorem d_L_law_461 : decode code 461 = .ok (.ireturn, 1) := by decide +kernel
theorem d_L_law_462 : decode code 462 = .ok (.aload_n 1, 1) := by decide +kernel
theorem d_L_law_463 : decode code 463 = .ok (.aload_n 0, 1) := by decide +kernel
theorem d_L_law_464 : decode code 464 = .ok (.iload_n 3, 1) := by decide +kernel
theorem d_L_law_465 : decode code 465 = .ok (.iconst 1, 1) := by decide +kernel
theorem d_L_law_466 : decode code 466 = .ok (.iadd, 1) := by decide +kernel
theorem d_L_law_467 : decode code 467 = .ok (.iaload, 1) := by decide +kernel
theorem d_L_law_468 : decode code 468 = .ok (.invokevirtual 58, 3) := by decide +kernel
theorem d_L_law_471 : decode code 471 = .ok (.aload_n 2, 1) := by decide +kernel
theorem d_L_law_472 : decode code 472 = .ok (.aload_n 0, 1) := by decide +kernel
theorem d_L_law_473 : decode code 473 = .ok (.iload_n 3, 1) := by decide +kernel
theorem d_L_law_474 : decode code 474 = .ok (.iconst 1, 1) := by decide +kernel
theorem d_L_law_475 : decode code 475 = .ok (.iadd, 1) := by decide +kernel
theorem d_L_law_476 : decode code 476 = .ok (.iaload, 1) := by decide +kernel
theorem d_L_law_477 : decode code 477 = .ok (.invokevirtual 61, 3) := by decide +kernel
theorem d_L_law_480 : decode code 480 = .ok (.if_icmp .eq 467, 3) := by decide +kernel
theorem d_L_law_483 : decode code 483 = .ok (.iconst 0, 1) := by decide +kernel
theorem d_L_law_484 : decode code 484 = .ok (.ireturn, 1) := by decide +kernel
theorem d_L_law_485 : decode code 485 = .ok (.aload_n 1, 1) := by decide +kernel
theorem d_L_law_486 : decode code 486 = .ok (.aload_n 0, 1) := by decide +kernel
theorem d_L_law_487 : decode code 487 = .ok (.iload_n 3, 1) := by decide +kernel
theorem d_L_law_488 : decode code 488 = .ok (.iconst 1, 1) := by decide +kernel
theorem d_L_law_489 : decode code 489 = .ok (.iadd, 1) := by decide +kernel
theorem d_L_law_490 : decode code 490 = .ok (.iaload, 1) := by decide +kernel
theorem d_L_law_491 : decode code 491 = .ok (.invokevirtual 62, 3) := by decide +kernel
theorem d_L_law_494 : decode code 494 = .ok (.aload_n 2, 1) := by decide +kernel
theorem d_L_law_495 : decode code 495 = .ok (.aload_n 0, 1) := by decide +kernel
theorem d_L_law_496 : decode code 496 = .ok (.iload_n 3, 1) := by decide +kernel
theorem d_L_law_497 : decode code 497 = .ok (.iconst 1, 1) := by decide +kernel
theorem d_L_law_498 : decode code 498 = .ok (.iadd, 1) := by decide +kernel
theorem d_L_law_499 : decode code 499 = .ok (.iaload, 1) := by decide +kernel
theorem d_L_law_500 : decode code 500 = .ok (.invokevirtual 65, 3) := by decide +kernel
theorem d_L_law_503 : decode code 503 = .ok (.if_icmp .eq 444, 3) := by decide +kernel
theorem d_L_law_506 : decode code 506 = .ok (.iconst 0, 1) := by decide +kernel
theorem d_L_law_507 : decode code 507 = .ok (.ireturn, 1) := by decide +kernel
theorem d_L_law_508 : decode code 508 = .ok (.aload_n 1, 1) := by decide +kernel
theorem d_L_law_509 : decode code 509 = .ok (.aload_n 0, 1) := by decide +kernel
theorem d_L_law_510 : decode code 510 = .ok (.iload_n 3, 1) := by decide +kernel
theorem d_L_law_511 : decode code 511 = .ok (.iconst 1, 1) := by decide +kernel
theorem d_L_law_512 : decode code 512 = .ok (.iadd, 1) := by decide +kernel
theorem d_L_law_513 : decode code 513 = .ok (.iaload, 1) := by decide +kernel
theorem d_L_law_514 : decode code 514 = .ok (.invokevirtual 66, 3) := by decide +kernel
theorem d_L_law_517 : decode code 517 = .ok (.aload_n 2, 1) := by decide +kernel
theorem d_L_law_518 : decode code 518 = .ok (.aload_n 0, 1) := by decide +kernel
theorem d_L_law_519 : decode code 519 = .ok (.iload_n 3, 1) := by decide +kernel
theorem d_L_law_520 : decode code 520 = .ok (.iconst 1, 1) := by decide +kernel
theorem d_L_law_521 : decode code 521 = .ok (.iadd, 1) := by decide +kernel
theorem d_L_law_522 : decode code 522 = .ok (.iaload, 1) := by decide +kernel
theorem d_L_law_523 : decode code 523 = .ok (.invokevirtual 69, 3) := by decide +kernel
theorem d_L_law_526 : decode code 526 = .ok (.if_icmp .eq 421, 3) := by decide +kernel
theorem d_L_law_529 : decode code 529 = .ok (.iconst 0, 1) := by decide +kernel
theorem d_L_law_530 : decode code 530 = .ok (.ireturn, 1) := by decide +kernel
theorem d_L_law_531 : decode code 531 = .ok (.aload_n 1, 1) := by decide +kernel
theorem d_L_law_532 : decode code 532 = .ok (.aload_n 0, 1) := by decide +kernel
theorem d_L_law_533 : decode code 533 = .ok (.iload_n 3, 1) := by decide +kernel
theorem d_L_law_534 : decode code 534 = .ok (.iconst 1, 1) := by decide +kernel
theorem d_L_law_535 : decode code 535 = .ok (.iadd, 1) := by decide +kernel
theorem d_L_law_536 : decode code 536 = .ok (.iaload, 1) := by decide +kernel
theorem d_L_law_537 : decode code 537 = .ok (.invokevirtual 70, 3) := by decide +kernel
theorem d_L_law_540 : decode code 540 = .ok (.aload_n 2, 1) := by decide +kernel
theorem d_L_law_541 : decode code 541 = .ok (.aload_n 0, 1) := by decide +kernel
theorem d_L_law_542 : decode code 542 = .ok (.iload_n 3, 1) := by decide +kernel
theorem d_L_law_543 : decode code 543 = .ok (.iconst 1, 1) := by decide +kernel
theorem d_L_law_544 : decode code 544 = .ok (.iadd, 1) := by decide +kernel
theorem d_L_law_545 : decode code 545 = .ok (.iaload, 1) := by decide +kernel
theorem d_L_law_546 : decode code 546 = .ok (.invokevirtual 73, 3) := by decide +kernel
theorem d_L_law_549 : decode code 549 = .ok (.if_icmp .eq 398, 3) := by decide +kernel
theorem d_L_law_552 : decode code 552 = .ok (.iconst 0, 1) := by decide +kernel
theorem d_L_law_553 : decode code 553 = .ok (.ireturn, 1) := by decide +kernel
theorem d_L_law_554 : decode code 554 = .ok (.aload_n 1, 1) := by decide +kernel
theorem d_L_law_555 : decode code 555 = .ok (.aload_n 0, 1) := by decide +kernel
theorem d_L_law_556 : decode code 556 = .ok (.iload_n 3, 1) := by decide +kernel
theorem d_L_law_557 : decode code 557 = .ok (.iconst 1, 1) := by decide +kernel
theorem d_L_law_558 : decode code 558 = .ok (.iadd, 1) := by decide +kernel
theorem d_L_law_559 : decode code 559 = .ok (.iaload, 1) := by decide +kernel
theorem d_L_law_560 : decode code 560 = .ok (.invokevirtual 74, 3) := by decide +kernel
theorem d_L_law_563 : decode code 563 = .ok (.aload_n 2, 1) := by decide +kernel
theorem d_L_law_564 : decode code 564 = .ok (.aload_n 0, 1) := by decide +kernel
theorem d_L_law_565 : decode code 565 = .ok (.iload_n 3, 1) := by decide +kernel
theorem d_L_law_566 : decode code 566 = .ok (.iconst 1, 1) := by decide +kernel
theorem d_L_law_567 : decode code 567 = .ok (.iadd, 1) := by decide +kernel
theorem d_L_law_568 : decode code 568 = .ok (.iaload, 1) := by decide +kernel
theorem d_L_law_569 : decode code 569 = .ok (.invokevirtual 77, 3) := by decide +kernel
theorem d_L_law_572 : decode code 572 = .ok (.if_icmp .eq 375, 3) := by decide +kernel
theorem d_L_law_575 : decode code 575 = .ok (.iconst 0, 1) := by decide +kernel
theorem d_L_law_576 : decode code 576 = .ok (.ireturn, 1) := by decide +kernel
theorem d_L_law_577 : decode code 577 = .ok (.aload_n 1, 1) := by decide +kernel
theorem d_L_law_578 : decode code 578 = .ok (.aload_n 0, 1) := by decide +kernel
theorem d_L_law_579 : decode code 579 = .ok (.iload_n 3, 1) := by decide +kernel
theorem d_L_law_580 : decode code 580 = .ok (.iconst 1, 1) := by decide +kernel
theorem d_L_law_581 : decode code 581 = .ok (.iadd, 1) := by decide +kernel
theorem d_L_law_582 : decode code 582 = .ok (.iaload, 1) := by decide +kernel
theorem d_L_law_583 : decode code 583 = .ok (.aload_n 0, 1) := by decide +kernel
theorem d_L_law_584 : decode code 584 = .ok (.iload_n 3, 1) := by decide +kernel
theorem d_L_law_585 : decode code 585 = .ok (.iconst 2, 1) := by decide +kernel
theorem d_L_law_586 : decode code 586 = .ok (.iadd, 1) := by decide +kernel
theorem d_L_law_587 : decode code 587 = .ok (.iaload, 1) := by decide +kernel
theorem d_L_law_588 : decode code 588 = .ok (.invokevirtual 78, 3) := by decide +kernel
theorem d_L_law_591 : decode code 591 = .ok (.aload_n 2, 1) := by decide +kernel
theorem d_L_law_592 : decode code 592 = .ok (.aload_n 0, 1) := by decide +kernel
theorem d_L_law_593 : decode code 593 = .ok (.iload_n 3, 1) := by decide +kernel
theorem d_L_law_594 : decode code 594 = .ok (.iconst 1, 1) := by decide +kernel
theorem d_L_law_595 : decode code 595 = .ok (.iadd, 1) := by decide +kernel
theorem d_L_law_596 : decode code 596 = .ok (.iaload, 1) := by decide +kernel
theorem d_L_law_597 : decode code 597 = .ok (.aload_n 0, 1) := by decide +kernel
theorem d_L_law_598 : decode code 598 = .ok (.iload_n 3, 1) := by decide +kernel
theorem d_L_law_599 : decode code 599 = .ok (.iconst 2, 1) := by decide +kernel
theorem d_L_law_600 : decode code 600 = .ok (.iadd, 1) := by decide +kernel
theorem d_L_law_601 : decode code 601 = .ok (.iaload, 1) := by decide +kernel
theorem d_L_law_602 : decode code 602 = .ok (.invokevirtual 81, 3) := by decide +kernel
theorem d_L_law_605 : decode code 605 = .ok (.if_icmp .eq 342, 3) := by decide +kernel
theorem d_L_law_608 : decode code 608 = .ok (.iconst 0, 1) := by decide +kernel
theorem d_L_law_609 : decode code 609 = .ok (.ireturn, 1) := by decide +kernel
theorem d_L_law_610 : decode code 610 = .ok (.aload_n 1, 1) := by decide +kernel
theorem d_L_law_611 : decode code 611 = .ok (.aload_n 0, 1) := by decide +kernel
theorem d_L_law_612 : decode code 612 = .ok (.iload_n 3, 1) := by decide +kernel
theorem d_L_law_613 : decode code 613 = .ok (.iconst 1, 1) := by decide +kernel
theorem d_L_law_614 : decode code 614 = .ok (.iadd, 1) := by decide +kernel
theorem d_L_law_615 : decode code 615 = .ok (.iaload, 1) := by decide +kernel
theorem d_L_law_616 : decode code 616 = .ok (.aload_n 0, 1) := by decide +kernel
theorem d_L_law_617 : decode code 617 = .ok (.iload_n 3, 1) := by decide +kernel
theorem d_L_law_618 : decode code 618 = .ok (.iconst 2, 1) := by decide +kernel
theorem d_L_law_619 : decode code 619 = .ok (.iadd, 1) := by decide +kernel
theorem d_L_law_620 : decode code 620 = .ok (.iaload, 1) := by decide +kernel
theorem d_L_law_621 : decode code 621 = .ok (.invokevirtual 82, 3) := by decide +kernel
theorem d_L_law_624 : decode code 624 = .ok (.aload_n 2, 1) := by decide +kernel
theorem d_L_law_625 : decode code 625 = .ok (.aload_n 0, 1) := by decide +kernel
theorem d_L_law_626 : decode code 626 = .ok (.iload_n 3, 1) := by decide +kernel
theorem d_L_law_627 : decode code 627 = .ok (.iconst 1, 1) := by decide +kernel
theorem d_L_law_628 : decode code 628 = .ok (.iadd, 1) := by decide +kernel
theorem d_L_law_629 : decode code 629 = .ok (.iaload, 1) := by decide +kernel
theorem d_L_law_630 : decode code 630 = .ok (.aload_n 0, 1) := by decide +kernel
theorem d_L_law_631 : decode code 631 = .ok (.iload_n 3, 1) := by decide +kernel
theorem d_L_law_632 : decode code 632 = .ok (.iconst 2, 1) := by decide +kernel
theorem d_L_law_633 : decode code 633 = .ok (.iadd, 1) := by decide +kernel
theorem d_L_law_634 : decode code 634 = .ok (.iaload, 1) := by decide +kernel
theorem d_L_law_635 : decode code 635 = .ok (.invokevirtual 85, 3) := by decide +kernel
theorem d_L_law_638 : decode code 638 = .ok (.if_icmp .eq 309, 3) := by decide +kernel
theorem d_L_law_641 : decode code 641 = .ok (.iconst 0, 1) := by decide +kernel
theorem d_L_law_642 : decode code 642 = .ok (.ireturn, 1) := by decide +kernel
theorem d_L_law_643 : decode code 643 = .ok (.aload_n 1, 1) := by decide +kernel
theorem d_L_law_644 : decode code 644 = .ok (.aload_n 0, 1) := by decide +kernel
theorem d_L_law_645 : decode code 645 = .ok (.iload_n 3, 1) := by decide +kernel
theorem d_L_law_646 : decode code 646 = .ok (.iconst 1, 1) := by decide +kernel
theorem d_L_law_647 : decode code 647 = .ok (.iadd, 1) := by decide +kernel
theorem d_L_law_648 : decode code 648 = .ok (.iaload, 1) := by decide +kernel
theorem d_L_law_649 : decode code 649 = .ok (.invokevirtual 86, 3) := by decide +kernel
theorem d_L_law_652 : decode code 652 = .ok (.aload_n 2, 1) := by decide +kernel
theorem d_L_law_653 : decode code 653 = .ok (.aload_n 0, 1) := by decide +kernel
theorem d_L_law_654 : decode code 654 = .ok (.iload_n 3, 1) := by decide +kernel
theorem d_L_law_655 : decode code 655 = .ok (.iconst 1, 1) := by decide +kernel
theorem d_L_law_656 : decode code 656 = .ok (.iadd, 1) := by decide +kernel
theorem d_L_law_657 : decode code 657 = .ok (.iaload, 1) := by decide +kernel
theorem d_L_law_658 : decode code 658 = .ok (.invokevirtual 89, 3) := by decide +kernel
theorem d_L_law_661 : decode code 661 = .ok (.if_icmp .eq 286, 3) := by decide +kernel
theorem d_L_law_664 : decode code 664 = .ok (.iconst 0, 1) := by decide +kernel
theorem d_L_law_665 : decode code 665 = .ok (.ireturn, 1) := by decide +kernel
theorem d_L_law_666 : decode code 666 = .ok (.aload_n 1, 1) := by decide +kernel
theorem d_L_law_667 : decode code 667 = .ok (.aload_n 0, 1) := by decide +kernel
theorem d_L_law_668 : decode code 668 = .ok (.iload_n 3, 1) := by decide +kernel
theorem d_L_law_669 : decode code 669 = .ok (.iconst 1, 1) := by decide +kernel
theorem d_L_law_670 : decode code 670 = .ok (.iadd, 1) := by decide +kernel
theorem d_L_law_671 : decode code 671 = .ok (.iaload, 1) := by decide +kernel
theorem d_L_law_672 : decode code 672 = .ok (.invokevirtual 90, 3) := by decide +kernel
theorem d_L_law_675 : decode code 675 = .ok (.aload_n 2, 1) := by decide +kernel
theorem d_L_law_676 : decode code 676 = .ok (.aload_n 0, 1) := by decide +kernel
theorem d_L_law_677 : decode code 677 = .ok (.iload_n 3, 1) := by decide +kernel
theorem d_L_law_678 : decode code 678 = .ok (.iconst 1, 1) := by decide +kernel
theorem d_L_law_679 : decode code 679 = .ok (.iadd, 1) := by decide +kernel
theorem d_L_law_680 : decode code 680 = .ok (.iaload, 1) := by decide +kernel
theorem d_L_law_681 : decode code 681 = .ok (.invokevirtual 93, 3) := by decide +kernel
theorem d_L_law_684 : decode code 684 = .ok (.if_icmp .eq 263, 3) := by decide +kernel
theorem d_L_law_687 : decode code 687 = .ok (.iconst 0, 1) := by decide +kernel
theorem d_L_law_688 : decode code 688 = .ok (.ireturn, 1) := by decide +kernel
theorem d_L_law_689 : decode code 689 = .ok (.aload_n 1, 1) := by decide +kernel
theorem d_L_law_690 : decode code 690 = .ok (.aload_n 0, 1) := by decide +kernel
theorem d_L_law_691 : decode code 691 = .ok (.iload_n 3, 1) := by decide +kernel
theorem d_L_law_692 : decode code 692 = .ok (.iconst 1, 1) := by decide +kernel
theorem d_L_law_693 : decode code 693 = .ok (.iadd, 1) := by decide +kernel
theorem d_L_law_694 : decode code 694 = .ok (.iaload, 1) := by decide +kernel
theorem d_L_law_695 : decode code 695 = .ok (.aload_n 0, 1) := by decide +kernel
theorem d_L_law_696 : decode code 696 = .ok (.iload_n 3, 1) := by decide +kernel
theorem d_L_law_697 : decode code 697 = .ok (.iconst 2, 1) := by decide +kernel
theorem d_L_law_698 : decode code 698 = .ok (.iadd, 1) := by decide +kernel
theorem d_L_law_699 : decode code 699 = .ok (.iaload, 1) := by decide +kernel
theorem d_L_law_700 : decode code 700 = .ok (.aload_n 0, 1) := by decide +kernel
theorem d_L_law_701 : decode code 701 = .ok (.iload_n 3, 1) := by decide +kernel
theorem d_L_law_702 : decode code 702 = .ok (.iconst 3, 1) := by decide +kernel
theorem d_L_law_703 : decode code 703 = .ok (.iadd, 1) := by decide +kernel
theorem d_L_law_704 : decode code 704 = .ok (.iaload, 1) := by decide +kernel
theorem d_L_law_705 : decode code 705 = .ok (.invokevirtual 94, 3) := by decide +kernel
theorem d_L_law_708 : decode code 708 = .ok (.aload_n 2, 1) := by decide +kernel
theorem d_L_law_709 : decode code 709 = .ok (.aload_n 0, 1) := by decide +kernel
theorem d_L_law_710 : decode code 710 = .ok (.iload_n 3, 1) := by decide +kernel
theorem d_L_law_711 : decode code 711 = .ok (.iconst 1, 1) := by decide +kernel
theorem d_L_law_712 : decode code 712 = .ok (.iadd, 1) := by decide +kernel
theorem d_L_law_713 : decode code 713 = .ok (.iaload, 1) := by decide +kernel
theorem d_L_law_714 : decode code 714 = .ok (.aload_n 0, 1) := by decide +kernel
theorem d_L_law_715 : decode code 715 = .ok (.iload_n 3, 1) := by decide +kernel
theorem d_L_law_716 : decode code 716 = .ok (.iconst 2, 1) := by decide +kernel
theorem d_L_law_717 : decode code 717 = .ok (.iadd, 1) := by decide +kernel
theorem d_L_law_718 : decode code 718 = .ok (.iaload, 1) := by decide +kernel
theorem d_L_law_719 : decode code 719 = .ok (.aload_n 0, 1) := by decide +kernel
theorem d_L_law_720 : decode code 720 = .ok (.iload_n 3, 1) := by decide +kernel
theorem d_L_law_721 : decode code 721 = .ok (.iconst 3, 1) := by decide +kernel
theorem d_L_law_722 : decode code 722 = .ok (.iadd, 1) := by decide +kernel
theorem d_L_law_723 : decode code 723 = .ok (.iaload, 1) := by decide +kernel
theorem d_L_law_724 : decode code 724 = .ok (.invokevirtual 98, 3) := by decide +kernel
theorem d_L_law_727 : decode code 727 = .ok (.if_icmp .eq 220, 3) := by decide +kernel
theorem d_L_law_730 : decode code 730 = .ok (.iconst 0, 1) := by decide +kernel
theorem d_L_law_731 : decode code 731 = .ok (.ireturn, 1) := by decide +kernel
theorem d_L_law_732 : decode code 732 = .ok (.aload_n 1, 1) := by decide +kernel
theorem d_L_law_733 : decode code 733 = .ok (.aload_n 0, 1) := by decide +kernel
theorem d_L_law_734 : decode code 734 = .ok (.iload_n 3, 1) := by decide +kernel
theorem d_L_law_735 : decode code 735 = .ok (.iconst 1, 1) := by decide +kernel
theorem d_L_law_736 : decode code 736 = .ok (.iadd, 1) := by decide +kernel
theorem d_L_law_737 : decode code 737 = .ok (.iaload, 1) := by decide +kernel
theorem d_L_law_738 : decode code 738 = .ok (.aload_n 0, 1) := by decide +kernel
theorem d_L_law_739 : decode code 739 = .ok (.iload_n 3, 1) := by decide +kernel
theorem d_L_law_740 : decode code 740 = .ok (.iconst 2, 1) := by decide +kernel
theorem d_L_law_741 : decode code 741 = .ok (.iadd, 1) := by decide +kernel
theorem d_L_law_742 : decode code 742 = .ok (.iaload, 1) := by decide +kernel
theorem d_L_law_743 : decode code 743 = .ok (.aload_n 0, 1) := by decide +kernel
theorem d_L_law_744 : decode code 744 = .ok (.iload_n 3, 1) := by decide +kernel
theorem d_L_law_745 : decode code 745 = .ok (.iconst 3, 1) := by decide +kernel
theorem d_L_law_746 : decode code 746 = .ok (.iadd, 1) := by decide +kernel
theorem d_L_law_747 : decode code 747 = .ok (.iaload, 1) := by decide +kernel
theorem d_L_law_748 : decode code 748 = .ok (.aload_n 0, 1) := by decide +kernel
theorem d_L_law_749 : decode code 749 = .ok (.iload_n 3, 1) := by decide +kernel
theorem d_L_law_750 : decode code 750 = .ok (.iconst 4, 1) := by decide +kernel
theorem d_L_law_751 : decode code 751 = .ok (.iadd, 1) := by decide +kernel
theorem d_L_law_752 : decode code 752 = .ok (.iaload, 1) := by decide +kernel
theorem d_L_law_753 : decode code 753 = .ok (.ifCond .eq 7, 3) := by decide +kernel
theorem d_L_law_756 : decode code 756 = .ok (.iconst 1, 1) := by decide +kernel
theorem d_L_law_757 : decode code 757 = .ok (.goto 4, 3) := by decide +kernel
theorem d_L_law_760 : decode code 760 = .ok (.iconst 0, 1) := by decide +kernel
theorem d_L_law_761 : decode code 761 = .ok (.invokevirtual 99, 3) := by decide +kernel
theorem d_L_law_764 : decode code 764 = .ok (.aload_n 2, 1) := by decide +kernel
theorem d_L_law_765 : decode code 765 = .ok (.aload_n 0, 1) := by decide +kernel
theorem d_L_law_766 : decode code 766 = .ok (.iload_n 3, 1) := by decide +kernel
theorem d_L_law_767 : decode code 767 = .ok (.iconst 1, 1) := by decide +kernel
theorem d_L_law_768 : decode code 768 = .ok (.iadd, 1) := by decide +kernel
theorem d_L_law_769 : decode code 769 = .ok (.iaload, 1) := by decide +kernel
theorem d_L_law_770 : decode code 770 = .ok (.aload_n 0, 1) := by decide +kernel
theorem d_L_law_771 : decode code 771 = .ok (.iload_n 3, 1) := by decide +kernel
theorem d_L_law_772 : decode code 772 = .ok (.iconst 2, 1) := by decide +kernel
theorem d_L_law_773 : decode code 773 = .ok (.iadd, 1) := by decide +kernel
theorem d_L_law_774 : decode code 774 = .ok (.iaload, 1) := by decide +kernel
theorem d_L_law_775 : decode code 775 = .ok (.aload_n 0, 1) := by decide +kernel
theorem d_L_law_776 : decode code 776 = .ok (.iload_n 3, 1) := by decide +kernel
theorem d_L_law_777 : decode code 777 = .ok (.iconst 3, 1) := by decide +kernel
theorem d_L_law_778 : decode code 778 = .ok (.iadd, 1) := by decide +kernel
theorem d_L_law_779 : decode code 779 = .ok (.iaload, 1) := by decide +kernel
theorem d_L_law_780 : decode code 780 = .ok (.aload_n 0, 1) := by decide +kernel
theorem d_L_law_781 : decode code 781 = .ok (.iload_n 3, 1) := by decide +kernel
theorem d_L_law_782 : decode code 782 = .ok (.iconst 4, 1) := by decide +kernel
theorem d_L_law_783 : decode code 783 = .ok (.iadd, 1) := by decide +kernel
theorem d_L_law_784 : decode code 784 = .ok (.iaload, 1) := by decide +kernel
theorem d_L_law_785 : decode code 785 = .ok (.ifCond .eq 7, 3) := by decide +kernel
theorem d_L_law_788 : decode code 788 = .ok (.iconst 1, 1) := by decide +kernel
theorem d_L_law_789 : decode code 789 = .ok (.goto 4, 3) := by decide +kernel
theorem d_L_law_792 : decode code 792 = .ok (.iconst 0, 1) := by decide +kernel
theorem d_L_law_793 : decode code 793 = .ok (.invokevirtual 103, 3) := by decide +kernel
theorem d_L_law_796 : decode code 796 = .ok (.if_icmp .eq 151, 3) := by decide +kernel
theorem d_L_law_799 : decode code 799 = .ok (.iconst 0, 1) := by decide +kernel
theorem d_L_law_800 : decode code 800 = .ok (.ireturn, 1) := by decide +kernel
theorem d_L_law_801 : decode code 801 = .ok (.aload_n 1, 1) := by decide +kernel
theorem d_L_law_802 : decode code 802 = .ok (.aload_n 0, 1) := by decide +kernel
theorem d_L_law_803 : decode code 803 = .ok (.iload_n 3, 1) := by decide +kernel
theorem d_L_law_804 : decode code 804 = .ok (.iconst 1, 1) := by decide +kernel
theorem d_L_law_805 : decode code 805 = .ok (.iadd, 1) := by decide +kernel
theorem d_L_law_806 : decode code 806 = .ok (.iaload, 1) := by decide +kernel
theorem d_L_law_807 : decode code 807 = .ok (.aload_n 0, 1) := by decide +kernel
theorem d_L_law_808 : decode code 808 = .ok (.iload_n 3, 1) := by decide +kernel
theorem d_L_law_809 : decode code 809 = .ok (.iconst 2, 1) := by decide +kernel
theorem d_L_law_810 : decode code 810 = .ok (.iadd, 1) := by decide +kernel
theorem d_L_law_811 : decode code 811 = .ok (.iaload, 1) := by decide +kernel
theorem d_L_law_812 : decode code 812 = .ok (.aload_n 0, 1) := by decide +kernel
theorem d_L_law_813 : decode code 813 = .ok (.iload_n 3, 1) := by decide +kernel
theorem d_L_law_814 : decode code 814 = .ok (.iconst 3, 1) := by decide +kernel
theorem d_L_law_815 : decode code 815 = .ok (.iadd, 1) := by decide +kernel
theorem d_L_law_816 : decode code 816 = .ok (.iaload, 1) := by decide +kernel
theorem d_L_law_817 : decode code 817 = .ok (.invokevirtual 104, 3) := by decide +kernel
theorem d_L_law_820 : decode code 820 = .ok (.aload_n 2, 1) := by decide +kernel
theorem d_L_law_821 : decode code 821 = .ok (.aload_n 0, 1) := by decide +kernel
theorem d_L_law_822 : decode code 822 = .ok (.iload_n 3, 1) := by decide +kernel
theorem d_L_law_823 : decode code 823 = .ok (.iconst 1, 1) := by decide +kernel
theorem d_L_law_824 : decode code 824 = .ok (.iadd, 1) := by decide +kernel
theorem d_L_law_825 : decode code 825 = .ok (.iaload, 1) := by decide +kernel
theorem d_L_law_826 : decode code 826 = .ok (.aload_n 0, 1) := by decide +kernel
theorem d_L_law_827 : decode code 827 = .ok (.iload_n 3, 1) := by decide +kernel
theorem d_L_law_828 : decode code 828 = .ok (.iconst 2, 1) := by decide +kernel
theorem d_L_law_829 : decode code 829 = .ok (.iadd, 1) := by decide +kernel
theorem d_L_law_830 : decode code 830 = .ok (.iaload, 1) := by decide +kernel
theorem d_L_law_831 : decode code 831 = .ok (.aload_n 0, 1) := by decide +kernel
theorem d_L_law_832 : decode code 832 = .ok (.iload_n 3, 1) := by decide +kernel
theorem d_L_law_833 : decode code 833 = .ok (.iconst 3, 1) := by decide +kernel
theorem d_L_law_834 : decode code 834 = .ok (.iadd, 1) := by decide +kernel
theorem d_L_law_835 : decode code 835 = .ok (.iaload, 1) := by decide +kernel
theorem d_L_law_836 : decode code 836 = .ok (.invokevirtual 107, 3) := by decide +kernel
theorem d_L_law_839 : decode code 839 = .ok (.if_icmp .eq 108, 3) := by decide +kernel
theorem d_L_law_842 : decode code 842 = .ok (.iconst 0, 1) := by decide +kernel
theorem d_L_law_843 : decode code 843 = .ok (.ireturn, 1) := by decide +kernel
theorem d_L_law_844 : decode code 844 = .ok (.aload_n 1, 1) := by decide +kernel
theorem d_L_law_845 : decode code 845 = .ok (.aload_n 0, 1) := by decide +kernel
theorem d_L_law_846 : decode code 846 = .ok (.iload_n 3, 1) := by decide +kernel
theorem d_L_law_847 : decode code 847 = .ok (.iconst 1, 1) := by decide +kernel
theorem d_L_law_848 : decode code 848 = .ok (.iadd, 1) := by decide +kernel
theorem d_L_law_849 : decode code 849 = .ok (.iaload, 1) := by decide +kernel
theorem d_L_law_850 : decode code 850 = .ok (.aload_n 0, 1) := by decide +kernel
theorem d_L_law_851 : decode code 851 = .ok (.iload_n 3, 1) := by decide +kernel
theorem d_L_law_852 : decode code 852 = .ok (.iconst 2, 1) := by decide +kernel
theorem d_L_law_853 : decode code 853 = .ok (.iadd, 1) := by decide +kernel
theorem d_L_law_854 : decode code 854 = .ok (.iaload, 1) := by decide +kernel
theorem d_L_law_855 : decode code 855 = .ok (.aload_n 0, 1) := by decide +kernel
theorem d_L_law_856 : decode code 856 = .ok (.iload_n 3, 1) := by decide +kernel
theorem d_L_law_857 : decode code 857 = .ok (.iconst 3, 1) := by decide +kernel
theorem d_L_law_858 : decode code 858 = .ok (.iadd, 1) := by decide +kernel
theorem d_L_law_859 : decode code 859 = .ok (.iaload, 1) := by decide +kernel
theorem d_L_law_860 : decode code 860 = .ok (.aload_n 0, 1) := by decide +kernel
theorem d_L_law_861 : decode code 861 = .ok (.iload_n 3, 1) := by decide +kernel
theorem d_L_law_862 : decode code 862 = .ok (.iconst 4, 1) := by decide +kernel
theorem d_L_law_863 : decode code 863 = .ok (.iadd, 1) := by decide +kernel
theorem d_L_law_864 : decode code 864 = .ok (.iaload, 1) := by decide +kernel
theorem d_L_law_865 : decode code 865 = .ok (.invokevirtual 108, 3) := by decide +kernel
theorem d_L_law_868 : decode code 868 = .ok (.aload_n 2, 1) := by decide +kernel
theorem d_L_law_869 : decode code 869 = .ok (.aload_n 0, 1) := by decide +kernel
theorem d_L_law_870 : decode code 870 = .ok (.iload_n 3, 1) := by decide +kernel
theorem d_L_law_871 : decode code 871 = .ok (.iconst 1, 1) := by decide +kernel
theorem d_L_law_872 : decode code 872 = .ok (.iadd, 1) := by decide +kernel
theorem d_L_law_873 : decode code 873 = .ok (.iaload, 1) := by decide +kernel
theorem d_L_law_874 : decode code 874 = .ok (.aload_n 0, 1) := by decide +kernel
theorem d_L_law_875 : decode code 875 = .ok (.iload_n 3, 1) := by decide +kernel
theorem d_L_law_876 : decode code 876 = .ok (.iconst 2, 1) := by decide +kernel
theorem d_L_law_877 : decode code 877 = .ok (.iadd, 1) := by decide +kernel
theorem d_L_law_878 : decode code 878 = .ok (.iaload, 1) := by decide +kernel
theorem d_L_law_879 : decode code 879 = .ok (.aload_n 0, 1) := by decide +kernel
theorem d_L_law_880 : decode code 880 = .ok (.iload_n 3, 1) := by decide +kernel
theorem d_L_law_881 : decode code 881 = .ok (.iconst 3, 1) := by decide +kernel
theorem d_L_law_882 : decode code 882 = .ok (.iadd, 1) := by decide +kernel
theorem d_L_law_883 : decode code 883 = .ok (.iaload, 1) := by decide +kernel
theorem d_L_law_884 : decode code 884 = .ok (.aload_n 0, 1) := by decide +kernel
theorem d_L_law_885 : decode code 885 = .ok (.iload_n 3, 1) := by decide +kernel
theorem d_L_law_886 : decode code 886 = .ok (.iconst 4, 1) := by decide +kernel
theorem d_L_law_887 : decode code 887 = .ok (.iadd, 1) := by decide +kernel
theorem d_L_law_888 : decode code 888 = .ok (.iaload, 1) := by decide +kernel
theorem d_L_law_889 : decode code 889 = .ok (.invokevirtual 112, 3) := by decide +kernel
theorem d_L_law_892 : decode code 892 = .ok (.if_icmp .eq 55, 3) := by decide +kernel
theorem d_L_law_895 : decode code 895 = .ok (.iconst 0, 1) := by decide +kernel
theorem d_L_law_896 : decode code 896 = .ok (.ireturn, 1) := by decide +kernel
theorem d_L_law_897 : decode code 897 = .ok (.aload_n 1, 1) := by decide +kernel
theorem d_L_law_898 : decode code 898 = .ok (.aload_n 0, 1) := by decide +kernel
theorem d_L_law_899 : decode code 899 = .ok (.iload_n 3, 1) := by decide +kernel
theorem d_L_law_900 : decode code 900 = .ok (.iconst 1, 1) := by decide +kernel
theorem d_L_law_901 : decode code 901 = .ok (.iadd, 1) := by decide +kernel
theorem d_L_law_902 : decode code 902 = .ok (.iaload, 1) := by decide +kernel
theorem d_L_law_903 : decode code 903 = .ok (.invokevirtual 113, 3) := by decide +kernel
theorem d_L_law_906 : decode code 906 = .ok (.aload_n 2, 1) := by decide +kernel
theorem d_L_law_907 : decode code 907 = .ok (.aload_n 0, 1) := by decide +kernel
theorem d_L_law_908 : decode code 908 = .ok (.iload_n 3, 1) := by decide +kernel
theorem d_L_law_909 : decode code 909 = .ok (.iconst 1, 1) := by decide +kernel
theorem d_L_law_910 : decode code 910 = .ok (.iadd, 1) := by decide +kernel
theorem d_L_law_911 : decode code 911 = .ok (.iaload, 1) := by decide +kernel
theorem d_L_law_912 : decode code 912 = .ok (.invokevirtual 116, 3) := by decide +kernel
theorem d_L_law_915 : decode code 915 = .ok (.if_icmp .eq 32, 3) := by decide +kernel
theorem d_L_law_918 : decode code 918 = .ok (.iconst 0, 1) := by decide +kernel
theorem d_L_law_919 : decode code 919 = .ok (.ireturn, 1) := by decide +kernel
theorem d_L_law_920 : decode code 920 = .ok (.aload_n 1, 1) := by decide +kernel
theorem d_L_law_921 : decode code 921 = .ok (.invokevirtual 117, 3) := by decide +kernel
theorem d_L_law_924 : decode code 924 = .ok (.aload_n 2, 1) := by decide +kernel
theorem d_L_law_925 : decode code 925 = .ok (.invokevirtual 121, 3) := by decide +kernel
theorem d_L_law_928 : decode code 928 = .ok (.lcmp, 1) := by decide +kernel
theorem d_L_law_929 : decode code 929 = .ok (.ifCond .eq 18, 3) := by decide +kernel
theorem d_L_law_932 : decode code 932 = .ok (.iconst 0, 1) := by decide +kernel
theorem d_L_law_933 : decode code 933 = .ok (.ireturn, 1) := by decide +kernel
theorem d_L_law_934 : decode code 934 = .ok (.aload_n 1, 1) := by decide +kernel
theorem d_L_law_935 : decode code 935 = .ok (.invokevirtual 122, 3) := by decide +kernel
theorem d_L_law_938 : decode code 938 = .ok (.aload_n 2, 1) := by decide +kernel
theorem d_L_law_939 : decode code 939 = .ok (.invokevirtual 126, 3) := by decide +kernel
theorem d_L_law_942 : decode code 942 = .ok (.if_icmp .eq 5, 3) := by decide +kernel
theorem d_L_law_945 : decode code 945 = .ok (.iconst 0, 1) := by decide +kernel
theorem d_L_law_946 : decode code 946 = .ok (.ireturn, 1) := by decide +kernel
theorem d_L_law_947 : decode code 947 = .ok (.iinc 3 5, 3) := by decide +kernel
theorem d_L_law_950 : decode code 950 = .ok (.goto (-932), 3) := by decide +kernel
theorem d_L_law_953 : decode code 953 = .ok (.iconst 1, 1) := by decide +kernel
theorem d_L_law_954 : decode code 954 = .ok (.ireturn, 1) := by decide +kernel
theorem d_M_at_0 : decode M_M_at.2.1 0 = .ok (.iconst 2, 1) := by decide +kernel
theorem d_M_at_1 : decode M_M_at.2.1 1 = .ok (.bipush 6, 2) := by decide +kernel
theorem d_M_at_3 : decode M_M_at.2.1 3 = .ok (.iload_n 0, 1) := by decide +kernel
theorem d_M_at_4 : decode M_M_at.2.1 4 = .ok (.imul, 1) := by decide +kernel
theorem d_M_at_5 : decode M_M_at.2.1 5 = .ok (.iload_n 1, 1) := by decide +kernel
theorem d_M_at_6 : decode M_M_at.2.1 6 = .ok (.iadd, 1) := by decide +kernel
theorem d_M_at_7 : decode M_M_at.2.1 7 = .ok (.imul, 1) := by decide +kernel
theorem d_M_at_8 : decode M_M_at.2.1 8 = .ok (.iload_n 2, 1) := by decide +kernel
theorem d_M_at_9 : decode M_M_at.2.1 9 = .ok (.ifCond .eq 7, 3) := by decide +kernel
theorem d_M_at_12 : decode M_M_at.2.1 12 = .ok (.iconst 1, 1) := by decide +kernel
theorem d_M_at_13 : decode M_M_at.2.1 13 = .ok (.goto 4, 3) := by decide +kernel
theorem d_M_at_16 : decode M_M_at.2.1 16 = .ok (.iconst 0, 1) := by decide +kernel
theorem d_M_at_17 : decode M_M_at.2.1 17 = .ok (.iadd, 1) := by decide +kernel
theorem d_M_at_18 : decode M_M_at.2.1 18 = .ok (.ireturn, 1) := by decide +kernel
theorem d_M_back_0 : decode M_M_back.2.1 0 = .ok (.iload_n 1, 1) := by decide +kernel
theorem d_M_back_1 : decode M_M_back.2.1 1 = .ok (.invokestatic 72, 3) := by decide +kernel
theorem d_M_back_4 : decode M_M_back.2.1 4 = .ok (.ifCond .ne 6, 3) := by decide +kernel
theorem d_M_back_7 : decode M_M_back.2.1 7 = .ok (.bipush (-2), 2) := by decide +kernel
theorem d_M_back_9 : decode M_M_back.2.1 9 = .ok (.ireturn, 1) := by decide +kernel
theorem d_M_back_10 : decode M_M_back.2.1 10 = .ok (.aload_n 0, 1) := by decide +kernel
theorem d_M_back_11 : decode M_M_back.2.1 11 = .ok (.getfield 17, 3) := by decide +kernel
theorem d_M_back_14 : decode M_M_back.2.1 14 = .ok (.iload_n 1, 1) := by decide +kernel
theorem d_M_back_15 : decode M_M_back.2.1 15 = .ok (.baload, 1) := by decide +kernel
theorem d_M_back_16 : decode M_M_back.2.1 16 = .ok (.ifCond .ne 6, 3) := by decide +kernel
theorem d_M_back_19 : decode M_M_back.2.1 19 = .ok (.bipush (-3), 2) := by decide +kernel
theorem d_M_back_21 : decode M_M_back.2.1 21 = .ok (.ireturn, 1) := by decide +kernel
theorem d_M_back_22 : decode M_M_back.2.1 22 = .ok (.aload_n 0, 1) := by decide +kernel
theorem d_M_back_23 : decode M_M_back.2.1 23 = .ok (.getfield 17, 3) := by decide +kernel
theorem d_M_back_26 : decode M_M_back.2.1 26 = .ok (.iload_n 1, 1) := by decide +kernel
theorem d_M_back_27 : decode M_M_back.2.1 27 = .ok (.iconst 0, 1) := by decide +kernel
theorem d_M_back_28 : decode M_M_back.2.1 28 = .ok (.bastore, 1) := by decide +kernel
theorem d_M_back_29 : decode M_M_back.2.1 29 = .ok (.iconst 0, 1) := by decide +kernel
theorem d_M_back_30 : decode M_M_back.2.1 30 = .ok (.istore_n 2, 1) := by decide +kernel
theorem d_M_back_31 : decode M_M_back.2.1 31 = .ok (.iconst 0, 1) := by decide +kernel
theorem d_M_back_32 : decode M_M_back.2.1 32 = .ok (.istore_n 3, 1) := by decide +kernel
theorem d_M_back_33 : decode M_M_back.2.1 33 = .ok (.iload_n 3, 1) := by decide +kernel
theorem d_M_back_34 : decode M_M_back.2.1 34 = .ok (.bipush 6, 2) := by decide +kernel
theorem d_M_back_36 : decode M_M_back.2.1 36 = .ok (.if_icmp .ge 38, 3) := by decide +kernel
theorem d_M_back_39 : decode M_M_back.2.1 39 = .ok (.iload_n 2, 1) := by decide +kernel
theorem d_M_back_40 : decode M_M_back.2.1 40 = .ok (.aload_n 0, 1) := by decide +kernel
theorem d_M_back_41 : decode M_M_back.2.1 41 = .ok (.getfield 30, 3) := by decide +kernel
theorem d_M_back_44 : decode M_M_back.2.1 44 = .ok (.iload_n 1, 1) := by decide +kernel
theorem d_M_back_45 : decode M_M_back.2.1 45 = .ok (.iload_n 3, 1) := by decide +kernel
theorem d_M_back_46 : decode M_M_back.2.1 46 = .ok (.iconst 1, 1) := by decide +kernel
theorem d_M_back_47 : decode M_M_back.2.1 47 = .ok (.invokestatic 79, 3) := by decide +kernel
theorem d_M_back_50 : decode M_M_back.2.1 50 = .ok (.baload, 1) := by decide +kernel
theorem d_M_back_51 : decode M_M_back.2.1 51 = .ok (.ifCond .eq 7, 3) := by decide +kernel
theorem d_M_back_54 : decode M_M_back.2.1 54 = .ok (.iconst 1, 1) := by decide +kernel
theorem d_M_back_55 : decode M_M_back.2.1 55 = .ok (.goto 4, 3) := by decide +kernel
theorem d_M_back_58 : decode M_M_back.2.1 58 = .ok (.iconst 0, 1) := by decide +kernel
theorem d_M_back_59 : decode M_M_back.2.1 59 = .ok (.iadd, 1) := by decide +kernel
theorem d_M_back_60 : decode M_M_back.2.1 60 = .ok (.istore_n 2, 1) := by decide +kernel
theorem d_M_back_61 : decode M_M_back.2.1 61 = .ok (.aload_n 0, 1) := by decide +kernel
theorem d_M_back_62 : decode M_M_back.2.1 62 = .ok (.iload_n 1, 1) := by decide +kernel
theorem d_M_back_63 : decode M_M_back.2.1 63 = .ok (.iload_n 3, 1) := by decide +kernel
theorem d_M_back_64 : decode M_M_back.2.1 64 = .ok (.iconst 1, 1) := by decide +kernel
theorem d_M_back_65 : decode M_M_back.2.1 65 = .ok (.invokevirtual 89, 3) := by decide +kernel
theorem d_M_back_68 : decode M_M_back.2.1 68 = .ok (.iinc 3 1, 3) := by decide +kernel
theorem d_M_back_71 : decode M_M_back.2.1 71 = .ok (.goto (-38), 3) := by decide +kernel
theorem d_M_back_74 : decode M_M_back.2.1 74 = .ok (.iload_n 2, 1) := by decide +kernel
theorem d_M_back_75 : decode M_M_back.2.1 75 = .ok (.ireturn, 1) := by decide +kernel
theorem d_M_block_0 : decode M_M_block.2.1 0 = .ok (.iload_n 1, 1) := by decide +kernel
theorem d_M_block_1 : decode M_M_block.2.1 1 = .ok (.invokestatic 72, 3) := by decide +kernel
theorem d_M_block_4 : decode M_M_block.2.1 4 = .ok (.ifCond .eq 10, 3) := by decide +kernel
theorem d_M_block_7 : decode M_M_block.2.1 7 = .ok (.iload_n 2, 1) := by decide +kernel
theorem d_M_block_8 : decode M_M_block.2.1 8 = .ok (.invokestatic 125, 3) := by decide +kernel
theorem d_M_block_11 : decode M_M_block.2.1 11 = .ok (.ifCond .ne 6, 3) := by decide +kernel
theorem d_M_block_14 : decode M_M_block.2.1 14 = .ok (.bipush (-2), 2) := by decide +kernel
theorem d_M_block_16 : decode M_M_block.2.1 16 = .ok (.ireturn, 1) := by decide +kernel
theorem d_M_block_17 : decode M_M_block.2.1 17 = .ok (.iload_n 1, 1) := by decide +kernel
theorem d_M_block_18 : decode M_M_block.2.1 18 = .ok (.iload_n 2, 1) := by decide +kernel
theorem d_M_block_19 : decode M_M_block.2.1 19 = .ok (.iload 4, 2) := by decide +kernel
theorem d_M_block_21 : decode M_M_block.2.1 21 = .ok (.invokestatic 79, 3) := by decide +kernel
theorem d_M_block_24 : decode M_M_block.2.1 24 = .ok (.istore 5, 2) := by decide +kernel
theorem d_M_block_26 : decode M_M_block.2.1 26 = .ok (.aload_n 0, 1) := by decide +kernel
theorem d_M_block_27 : decode M_M_block.2.1 27 = .ok (.getfield 30, 3) := by decide +kernel
theorem d_M_block_30 : decode M_M_block.2.1 30 = .ok (.iload 5, 2) := by decide +kernel
theorem d_M_block_32 : decode M_M_block.2.1 32 = .ok (.baload, 1) := by decide +kernel
theorem d_M_block_33 : decode M_M_block.2.1 33 = .ok (.ifCond .eq 38, 3) := by decide +kernel
theorem d_M_block_36 : decode M_M_block.2.1 36 = .ok (.iload_n 3, 1) := by decide +kernel
theorem d_M_block_37 : decode M_M_block.2.1 37 = .ok (.iconst 0, 1) := by decide +kernel
theorem d_M_block_38 : decode M_M_block.2.1 38 = .ok (.aload_n 0, 1) := by decide +kernel
theorem d_M_block_39 : decode M_M_block.2.1 39 = .ok (.getfield 36, 3) := by decide +kernel
theorem d_M_block_42 : decode M_M_block.2.1 42 = .ok (.iload 5, 2) := by decide +kernel
theorem d_M_block_44 : decode M_M_block.2.1 44 = .ok (.iaload, 1) := by decide +kernel
theorem d_M_block_45 : decode M_M_block.2.1 45 = .ok (.invokestatic 83, 3) := by decide +kernel
theorem d_M_block_48 : decode M_M_block.2.1 48 = .ok (.iconst 1, 1) := by decide +kernel
theorem d_M_block_49 : decode M_M_block.2.1 49 = .ok (.isub, 1) := by decide +kernel
theorem d_M_block_50 : decode M_M_block.2.1 50 = .ok (.invokestatic 60, 3) := by decide +kernel
theorem d_M_block_53 : decode M_M_block.2.1 53 = .ok (.ifCond .eq 18, 3) := by decide +kernel
theorem d_M_block_56 : decode M_M_block.2.1 56 = .ok (.aload_n 0, 1) := by decide +kernel
theorem d_M_block_57 : decode M_M_block.2.1 57 = .ok (.getfield 39, 3) := by decide +kernel
theorem d_M_block_60 : decode M_M_block.2.1 60 = .ok (.bipush 8, 2) := by decide +kernel
theorem d_M_block_62 : decode M_M_block.2.1 62 = .ok (.iload 5, 2) := by decide +kernel
theorem d_M_block_64 : decode M_M_block.2.1 64 = .ok (.imul, 1) := by decide +kernel
theorem d_M_block_65 : decode M_M_block.2.1 65 = .ok (.iload_n 3, 1) := by decide +kernel
theorem d_M_block_66 : decode M_M_block.2.1 66 = .ok (.iadd, 1) := by decide +kernel
theorem d_M_block_67 : decode M_M_block.2.1 67 = .ok (.iaload, 1) := by decide +kernel
theorem d_M_block_68 : decode M_M_block.2.1 68 = .ok (.goto 4, 3) := by decide +kernel
theorem d_M_block_71 : decode M_M_block.2.1 71 = .ok (.iconst (-1), 1) := by decide +kernel
theorem d_M_block_72 : decode M_M_block.2.1 72 = .ok (.ireturn, 1) := by decide +kernel
theorem d_M_byteAt_0 : decode M_M_byteAt.2.1 0 = .ok (.bipush 8, 2) := by decide +kernel
theorem d_M_byteAt_2 : decode M_M_byteAt.2.1 2 = .ok (.bipush 40, 2) := by decide +kernel
theorem d_M_byteAt_4 : decode M_M_byteAt.2.1 4 = .ok (.iload_n 1, 1) := by decide +kernel
theorem d_M_byteAt_5 : decode M_M_byteAt.2.1 5 = .ok (.imul, 1) := by decide +kernel
theorem d_M_byteAt_6 : decode M_M_byteAt.2.1 6 = .ok (.aload_n 0, 1) := by decide +kernel
theorem d_M_byteAt_7 : decode M_M_byteAt.2.1 7 = .ok (.getfield 39, 3) := by decide +kernel
theorem d_M_byteAt_10 : decode M_M_byteAt.2.1 10 = .ok (.bipush 8, 2) := by decide +kernel
theorem d_M_byteAt_12 : decode M_M_byteAt.2.1 12 = .ok (.iload_n 2, 1) := by decide +kernel
theorem d_M_byteAt_13 : decode M_M_byteAt.2.1 13 = .ok (.imul, 1) := by decide +kernel
theorem d_M_byteAt_14 : decode M_M_byteAt.2.1 14 = .ok (.iload_n 3, 1) := by decide +kernel
theorem d_M_byteAt_15 : decode M_M_byteAt.2.1 15 = .ok (.iadd, 1) := by decide +kernel
theorem d_M_byteAt_16 : decode M_M_byteAt.2.1 16 = .ok (.iaload, 1) := by decide +kernel
theorem d_M_byteAt_17 : decode M_M_byteAt.2.1 17 = .ok (.iadd, 1) := by decide +kernel
theorem d_M_byteAt_18 : decode M_M_byteAt.2.1 18 = .ok (.imul, 1) := by decide +kernel
theorem d_M_byteAt_19 : decode M_M_byteAt.2.1 19 = .ok (.iload 4, 2) := by decide +kernel
theorem d_M_byteAt_21 : decode M_M_byteAt.2.1 21 = .ok (.iadd, 1) := by decide +kernel
theorem d_M_byteAt_22 : decode M_M_byteAt.2.1 22 = .ok (.ireturn, 1) := by decide +kernel
theorem d_M_byteOf_0 : decode M_M_byteOf.2.1 0 = .ok (.iload_n 1, 1) := by decide +kernel
theorem d_M_byteOf_1 : decode M_M_byteOf.2.1 1 = .ok (.invokestatic 72, 3) := by decide +kernel
theorem d_M_byteOf_4 : decode M_M_byteOf.2.1 4 = .ok (.ifCond .eq 23, 3) := by decide +kernel
theorem d_M_byteOf_7 : decode M_M_byteOf.2.1 7 = .ok (.iload_n 2, 1) := by decide +kernel
theorem d_M_byteOf_8 : decode M_M_byteOf.2.1 8 = .ok (.iconst 0, 1) := by decide +kernel
theorem d_M_byteOf_9 : decode M_M_byteOf.2.1 9 = .ok (.bipush 39, 2) := by decide +kernel
theorem d_M_byteOf_11 : decode M_M_byteOf.2.1 11 = .ok (.invokestatic 60, 3) := by decide +kernel
theorem d_M_byteOf_14 : decode M_M_byteOf.2.1 14 = .ok (.ifCond .eq 13, 3) := by decide +kernel
theorem d_M_byteOf_17 : decode M_M_byteOf.2.1 17 = .ok (.iload_n 3, 1) := by decide +kernel
theorem d_M_byteOf_18 : decode M_M_byteOf.2.1 18 = .ok (.iconst 0, 1) := by decide +kernel
theorem d_M_byteOf_19 : decode M_M_byteOf.2.1 19 = .ok (.bipush 7, 2) := by decide +kernel
theorem d_M_byteOf_21 : decode M_M_byteOf.2.1 21 = .ok (.invokestatic 60, 3) := by decide +kernel
theorem d_M_byteOf_24 : decode M_M_byteOf.2.1 24 = .ok (.ifCond .ne 6, 3) := by decide +kernel
theorem d_M_byteOf_27 : decode M_M_byteOf.2.1 27 = .ok (.bipush (-2), 2) := by decide +kernel
theorem d_M_byteOf_29 : decode M_M_byteOf.2.1 29 = .ok (.ireturn, 1) := by decide +kernel
theorem d_M_byteOf_30 : decode M_M_byteOf.2.1 30 = .ok (.aload_n 0, 1) := by decide +kernel
theorem d_M_byteOf_31 : decode M_M_byteOf.2.1 31 = .ok (.getfield 24, 3) := by decide +kernel
theorem d_M_byteOf_34 : decode M_M_byteOf.2.1 34 = .ok (.bipush 40, 2) := by decide +kernel
theorem d_M_byteOf_36 : decode M_M_byteOf.2.1 36 = .ok (.iload_n 1, 1) := by decide +kernel
theorem d_M_byteOf_37 : decode M_M_byteOf.2.1 37 = .ok (.imul, 1) := by decide +kernel
theorem d_M_byteOf_38 : decode M_M_byteOf.2.1 38 = .ok (.iload_n 2, 1) := by decide +kernel
theorem d_M_byteOf_39 : decode M_M_byteOf.2.1 39 = .ok (.iadd, 1) := by decide +kernel
theorem d_M_byteOf_40 : decode M_M_byteOf.2.1 40 = .ok (.baload, 1) := by decide +kernel
theorem d_M_byteOf_41 : decode M_M_byteOf.2.1 41 = .ok (.ifCond .eq 22, 3) := by decide +kernel
theorem d_M_byteOf_44 : decode M_M_byteOf.2.1 44 = .ok (.aload_n 0, 1) := by decide +kernel
theorem d_M_byteOf_45 : decode M_M_byteOf.2.1 45 = .ok (.getfield 27, 3) := by decide +kernel
theorem d_M_byteOf_48 : decode M_M_byteOf.2.1 48 = .ok (.bipush 8, 2) := by decide +kernel
theorem d_M_byteOf_50 : decode M_M_byteOf.2.1 50 = .ok (.bipush 40, 2) := by decide +kernel
theorem d_M_byteOf_52 : decode M_M_byteOf.2.1 52 = .ok (.iload_n 1, 1) := by decide +kernel
theorem d_M_byteOf_53 : decode M_M_byteOf.2.1 53 = .ok (.imul, 1) := by decide +kernel
theorem d_M_byteOf_54 : decode M_M_byteOf.2.1 54 = .ok (.iload_n 2, 1) := by decide +kernel
theorem d_M_byteOf_55 : decode M_M_byteOf.2.1 55 = .ok (.iadd, 1) := by decide +kernel
theorem d_M_byteOf_56 : decode M_M_byteOf.2.1 56 = .ok (.imul, 1) := by decide +kernel
theorem d_M_byteOf_57 : decode M_M_byteOf.2.1 57 = .ok (.iload_n 3, 1) := by decide +kernel
theorem d_M_byteOf_58 : decode M_M_byteOf.2.1 58 = .ok (.iadd, 1) := by decide +kernel
theorem d_M_byteOf_59 : decode M_M_byteOf.2.1 59 = .ok (.iaload, 1) := by decide +kernel
theorem d_M_byteOf_60 : decode M_M_byteOf.2.1 60 = .ok (.goto 4, 3) := by decide +kernel
theorem d_M_byteOf_63 : decode M_M_byteOf.2.1 63 = .ok (.iconst (-1), 1) := by decide +kernel
theorem d_M_byteOf_64 : decode M_M_byteOf.2.1 64 = .ok (.ireturn, 1) := by decide +kernel
theorem d_M_choose_0 : decode M_M_choose.2.1 0 = .ok (.iconst 0, 1) := by decide +kernel
theorem d_M_choose_1 : decode M_M_choose.2.1 1 = .ok (.istore 5, 2) := by decide +kernel
theorem d_M_choose_3 : decode M_M_choose.2.1 3 = .ok (.iconst 0, 1) := by decide +kernel
theorem d_M_choose_4 : decode M_M_choose.2.1 4 = .ok (.istore 6, 2) := by decide +kernel
theorem d_M_choose_6 : decode M_M_choose.2.1 6 = .ok (.iload 6, 2) := by decide +kernel
theorem d_M_choose_8 : decode M_M_choose.2.1 8 = .ok (.bipush 12, 2) := by decide +kernel
theorem d_M_choose_10 : decode M_M_choose.2.1 10 = .ok (.if_icmp .ge 49, 3) := by decide +kernel
theorem d_M_choose_13 : decode M_M_choose.2.1 13 = .ok (.iload_n 3, 1) := by decide +kernel
theorem d_M_choose_14 : decode M_M_choose.2.1 14 = .ok (.iload 6, 2) := by decide +kernel
theorem d_M_choose_16 : decode M_M_choose.2.1 16 = .ok (.ishr, 1) := by decide +kernel
theorem d_M_choose_17 : decode M_M_choose.2.1 17 = .ok (.iconst 1, 1) := by decide +kernel
theorem d_M_choose_18 : decode M_M_choose.2.1 18 = .ok (.iand, 1) := by decide +kernel
theorem d_M_choose_19 : decode M_M_choose.2.1 19 = .ok (.iconst 1, 1) := by decide +kernel
theorem d_M_choose_20 : decode M_M_choose.2.1 20 = .ok (.if_icmp .ne 33, 3) := by decide +kernel
theorem d_M_choose_23 : decode M_M_choose.2.1 23 = .ok (.aload_n 0, 1) := by decide +kernel
theorem d_M_choose_24 : decode M_M_choose.2.1 24 = .ok (.iload 6, 2) := by decide +kernel
theorem d_M_choose_26 : decode M_M_choose.2.1 26 = .ok (.iload_n 1, 1) := by decide +kernel
theorem d_M_choose_27 : decode M_M_choose.2.1 27 = .ok (.iload_n 2, 1) := by decide +kernel
theorem d_M_choose_28 : decode M_M_choose.2.1 28 = .ok (.invokevirtual 93, 3) := by decide +kernel
theorem d_M_choose_31 : decode M_M_choose.2.1 31 = .ok (.ifCond .eq 22, 3) := by decide +kernel
theorem d_M_choose_34 : decode M_M_choose.2.1 34 = .ok (.iload 5, 2) := by decide +kernel
theorem d_M_choose_36 : decode M_M_choose.2.1 36 = .ok (.iload 4, 2) := by decide +kernel
theorem d_M_choose_38 : decode M_M_choose.2.1 38 = .ok (.if_icmp .ge 12, 3) := by decide +kernel
theorem d_M_choose_41 : decode M_M_choose.2.1 41 = .ok (.aload_n 0, 1) := by decide +kernel
theorem d_M_choose_42 : decode M_M_choose.2.1 42 = .ok (.getfield 54, 3) := by decide +kernel
theorem d_M_choose_45 : decode M_M_choose.2.1 45 = .ok (.iload 5, 2) := by decide +kernel
theorem d_M_choose_47 : decode M_M_choose.2.1 47 = .ok (.iload 6, 2) := by decide +kernel
theorem d_M_choose_49 : decode M_M_choose.2.1 49 = .ok (.iastore, 1) := by decide +kernel
theorem d_M_choose_50 : decode M_M_choose.2.1 50 = .ok (.iinc 5 1, 3) := by decide +kernel
theorem d_M_choose_53 : decode M_M_choose.2.1 53 = .ok (.iinc 6 1, 3) := by decide +kernel
theorem d_M_choose_56 : decode M_M_choose.2.1 56 = .ok (.goto (-50), 3) := by decide +kernel
theorem d_M_choose_59 : decode M_M_choose.2.1 59 = .ok (.iload 5, 2) := by decide +kernel
theorem d_M_choose_61 : decode M_M_choose.2.1 61 = .ok (.ireturn, 1) := by decide +kernel
theorem d_M_chooseLeast_0 : decode M_M_chooseLeast.2.1 0 = .ok (.iload_n 3, 1) := by decide +kernel
theorem d_M_chooseLeast_1 : decode M_M_chooseLeast.2.1 1 = .ok (.istore 4, 2) := by decide +kernel
theorem d_M_chooseLeast_3 : decode M_M_chooseLeast.2.1 3 = .ok (.iconst 0, 1) := by decide +kernel
theorem d_M_chooseLeast_4 : decode M_M_chooseLeast.2.1 4 = .ok (.istore 5, 2) := by decide +kernel
theorem d_M_chooseLeast_6 : decode M_M_chooseLeast.2.1 6 = .ok (.iload 5, 2) := by decide +kernel
theorem d_M_chooseLeast_8 : decode M_M_chooseLeast.2.1 8 = .ok (.bipush 8, 2) := by decide +kernel
theorem d_M_chooseLeast_10 : decode M_M_chooseLeast.2.1 10 = .ok (.if_icmp .ge 97, 3) := by decide +kernel
theorem d_M_chooseLeast_13 : decode M_M_chooseLeast.2.1 13 = .ok (.iconst (-1), 1) := by decide +kernel
theorem d_M_chooseLeast_14 : decode M_M_chooseLeast.2.1 14 = .ok (.istore 6, 2) := by decide +kernel
theorem d_M_chooseLeast_16 : decode M_M_chooseLeast.2.1 16 = .ok (.iconst 0, 1) := by decide +kernel
theorem d_M_chooseLeast_17 : decode M_M_chooseLeast.2.1 17 = .ok (.istore 7, 2) := by decide +kernel
theorem d_M_chooseLeast_19 : decode M_M_chooseLeast.2.1 19 = .ok (.iload 7, 2) := by decide +kernel
theorem d_M_chooseLeast_21 : decode M_M_chooseLeast.2.1 21 = .ok (.bipush 12, 2) := by decide +kernel
theorem d_M_chooseLeast_23 : decode M_M_chooseLeast.2.1 23 = .ok (.if_icmp .ge 58, 3) := by decide +kernel
theorem d_M_chooseLeast_26 : decode M_M_chooseLeast.2.1 26 = .ok (.iload 4, 2) := by decide +kernel
theorem d_M_chooseLeast_28 : decode M_M_chooseLeast.2.1 28 = .ok (.iload 7, 2) := by decide +kernel
theorem d_M_chooseLeast_30 : decode M_M_chooseLeast.2.1 30 = .ok (.ishr, 1) := by decide +kernel
theorem d_M_chooseLeast_31 : decode M_M_chooseLeast.2.1 31 = .ok (.iconst 1, 1) := by decide +kernel
theorem d_M_chooseLeast_32 : decode M_M_chooseLeast.2.1 32 = .ok (.iand, 1) := by decide +kernel
theorem d_M_chooseLeast_33 : decode M_M_chooseLeast.2.1 33 = .ok (.iconst 1, 1) := by decide +kernel
theorem d_M_chooseLeast_34 : decode M_M_chooseLeast.2.1 34 = .ok (.if_icmp .ne 41, 3) := by decide +kernel
theorem d_M_chooseLeast_37 : decode M_M_chooseLeast.2.1 37 = .ok (.aload_n 0, 1) := by decide +kernel
theorem d_M_chooseLeast_38 : decode M_M_chooseLeast.2.1 38 = .ok (.iload 7, 2) := by decide +kernel
theorem d_M_chooseLeast_40 : decode M_M_chooseLeast.2.1 40 = .ok (.iload_n 1, 1) := by decide +kernel
theorem d_M_chooseLeast_41 : decode M_M_chooseLeast.2.1 41 = .ok (.iload_n 2, 1) := by decide +kernel
theorem d_M_chooseLeast_42 : decode M_M_chooseLeast.2.1 42 = .ok (.invokevirtual 93, 3) := by decide +kernel
theorem d_M_chooseLeast_45 : decode M_M_chooseLeast.2.1 45 = .ok (.ifCond .eq 30, 3) := by decide +kernel
theorem d_M_chooseLeast_48 : decode M_M_chooseLeast.2.1 48 = .ok (.iload 6, 2) := by decide +kernel
theorem d_M_chooseLeast_50 : decode M_M_chooseLeast.2.1 50 = .ok (.iconst (-1), 1) := by decide +kernel
theorem d_M_chooseLeast_51 : decode M_M_chooseLeast.2.1 51 = .ok (.if_icmp .eq 20, 3) := by decide +kernel
theorem d_M_chooseLeast_54 : decode M_M_chooseLeast.2.1 54 = .ok (.aload_n 0, 1) := by decide +kernel
theorem d_M_chooseLeast_55 : decode M_M_chooseLeast.2.1 55 = .ok (.getfield 21, 3) := by decide +kernel
theorem d_M_chooseLeast_58 : decode M_M_chooseLeast.2.1 58 = .ok (.iload 7, 2) := by decide +kernel
theorem d_M_chooseLeast_60 : decode M_M_chooseLeast.2.1 60 = .ok (.iaload, 1) := by decide +kernel
theorem d_M_chooseLeast_61 : decode M_M_chooseLeast.2.1 61 = .ok (.aload_n 0, 1) := by decide +kernel
theorem d_M_chooseLeast_62 : decode M_M_chooseLeast.2.1 62 = .ok (.getfield 21, 3) := by decide +kernel
theorem d_M_chooseLeast_65 : decode M_M_chooseLeast.2.1 65 = .ok (.iload 6, 2) := by decide +kernel
theorem d_M_chooseLeast_67 : decode M_M_chooseLeast.2.1 67 = .ok (.iaload, 1) := by decide +kernel
theorem d_M_chooseLeast_68 : decode M_M_chooseLeast.2.1 68 = .ok (.if_icmp .ge 7, 3) := by decide +kernel
theorem d_M_chooseLeast_71 : decode M_M_chooseLeast.2.1 71 = .ok (.iload 7, 2) := by decide +kernel
theorem d_M_chooseLeast_73 : decode M_M_chooseLeast.2.1 73 = .ok (.istore 6, 2) := by decide +kernel
theorem d_M_chooseLeast_75 : decode M_M_chooseLeast.2.1 75 = .ok (.iinc 7 1, 3) := by decide +kernel
theorem d_M_chooseLeast_78 : decode M_M_chooseLeast.2.1 78 = .ok (.goto (-59), 3) := by decide +kernel
theorem d_M_chooseLeast_81 : decode M_M_chooseLeast.2.1 81 = .ok (.aload_n 0, 1) := by decide +kernel
theorem d_M_chooseLeast_82 : decode M_M_chooseLeast.2.1 82 = .ok (.getfield 54, 3) := by decide +kernel
theorem d_M_chooseLeast_85 : decode M_M_chooseLeast.2.1 85 = .ok (.iload 5, 2) := by decide +kernel
theorem d_M_chooseLeast_87 : decode M_M_chooseLeast.2.1 87 = .ok (.iload 6, 2) := by decide +kernel
theorem d_M_chooseLeast_89 : decode M_M_chooseLeast.2.1 89 = .ok (.iastore, 1) := by decide +kernel
theorem d_M_chooseLeast_90 : decode M_M_chooseLeast.2.1 90 = .ok (.iload 4, 2) := by decide +kernel
theorem d_M_chooseLeast_92 : decode M_M_chooseLeast.2.1 92 = .ok (.iconst 1, 1) := by decide +kernel
theorem d_M_chooseLeast_93 : decode M_M_chooseLeast.2.1 93 = .ok (.iload 6, 2) := by decide +kernel
theorem d_M_chooseLeast_95 : decode M_M_chooseLeast.2.1 95 = .ok (.ishl, 1) := by decide +kernel
theorem d_M_chooseLeast_96 : decode M_M_chooseLeast.2.1 96 = .ok (.iconst (-1), 1) := by decide +kernel
theorem d_M_chooseLeast_97 : decode M_M_chooseLeast.2.1 97 = .ok (.ixor, 1) := by decide +kernel
theorem d_M_chooseLeast_98 : decode M_M_chooseLeast.2.1 98 = .ok (.iand, 1) := by decide +kernel
theorem d_M_chooseLeast_99 : decode M_M_chooseLeast.2.1 99 = .ok (.istore 4, 2) := by decide +kernel
theorem d_M_chooseLeast_101 : decode M_M_chooseLeast.2.1 101 = .ok (.iinc 5 1, 3) := by decide +kernel
theorem d_M_chooseLeast_104 : decode M_M_chooseLeast.2.1 104 = .ok (.goto (-98), 3) := by decide +kernel
theorem d_M_chooseLeast_107 : decode M_M_chooseLeast.2.1 107 = .ok (.return_, 1) := by decide +kernel
theorem d_M_clear_0 : decode M_M_clear.2.1 0 = .ok (.iconst 0, 1) := by decide +kernel
theorem d_M_clear_1 : decode M_M_clear.2.1 1 = .ok (.istore_n 1, 1) := by decide +kernel
theorem d_M_clear_2 : decode M_M_clear.2.1 2 = .ok (.iconst 0, 1) := by decide +kernel
theorem d_M_clear_3 : decode M_M_clear.2.1 3 = .ok (.istore_n 2, 1) := by decide +kernel
theorem d_M_clear_4 : decode M_M_clear.2.1 4 = .ok (.iload_n 2, 1) := by decide +kernel
theorem d_M_clear_5 : decode M_M_clear.2.1 5 = .ok (.bipush 6, 2) := by decide +kernel
theorem d_M_clear_7 : decode M_M_clear.2.1 7 = .ok (.if_icmp .ge 25, 3) := by decide +kernel
theorem d_M_clear_10 : decode M_M_clear.2.1 10 = .ok (.iload_n 1, 1) := by decide +kernel
theorem d_M_clear_11 : decode M_M_clear.2.1 11 = .ok (.aload_n 0, 1) := by decide +kernel
theorem d_M_clear_12 : decode M_M_clear.2.1 12 = .ok (.iload_n 2, 1) := by decide +kernel
theorem d_M_clear_13 : decode M_M_clear.2.1 13 = .ok (.invokevirtual 140, 3) := by decide +kernel
theorem d_M_clear_16 : decode M_M_clear.2.1 16 = .ok (.ifCond .le 7, 3) := by decide +kernel
theorem d_M_clear_19 : decode M_M_clear.2.1 19 = .ok (.iconst 1, 1) := by decide +kernel
theorem d_M_clear_20 : decode M_M_clear.2.1 20 = .ok (.goto 4, 3) := by decide +kernel
theorem d_M_clear_23 : decode M_M_clear.2.1 23 = .ok (.iconst 0, 1) := by decide +kernel
theorem d_M_clear_24 : decode M_M_clear.2.1 24 = .ok (.iadd, 1) := by decide +kernel
theorem d_M_clear_25 : decode M_M_clear.2.1 25 = .ok (.istore_n 1, 1) := by decide +kernel
theorem d_M_clear_26 : decode M_M_clear.2.1 26 = .ok (.iinc 2 1, 3) := by decide +kernel
theorem d_M_clear_29 : decode M_M_clear.2.1 29 = .ok (.goto (-25), 3) := by decide +kernel
theorem d_M_clear_32 : decode M_M_clear.2.1 32 = .ok (.iconst 0, 1) := by decide +kernel
theorem d_M_clear_33 : decode M_M_clear.2.1 33 = .ok (.istore_n 2, 1) := by decide +kernel
theorem d_M_clear_34 : decode M_M_clear.2.1 34 = .ok (.iload_n 2, 1) := by decide +kernel
theorem d_M_clear_35 : decode M_M_clear.2.1 35 = .ok (.bipush 12, 2) := by decide +kernel
theorem d_M_clear_37 : decode M_M_clear.2.1 37 = .ok (.if_icmp .ge 22, 3) := by decide +kernel
theorem d_M_clear_40 : decode M_M_clear.2.1 40 = .ok (.aload_n 0, 1) := by decide +kernel
theorem d_M_clear_41 : decode M_M_clear.2.1 41 = .ok (.iload_n 2, 1) := by decide +kernel
theorem d_M_clear_42 : decode M_M_clear.2.1 42 = .ok (.invokevirtual 181, 3) := by decide +kernel
theorem d_M_clear_45 : decode M_M_clear.2.1 45 = .ok (.pop, 1) := by decide +kernel
theorem d_M_clear_46 : decode M_M_clear.2.1 46 = .ok (.aload_n 0, 1) := by decide +kernel
theorem d_M_clear_47 : decode M_M_clear.2.1 47 = .ok (.getfield 21, 3) := by decide +kernel
theorem d_M_clear_50 : decode M_M_clear.2.1 50 = .ok (.iload_n 2, 1) := by decide +kernel
theorem d_M_clear_51 : decode M_M_clear.2.1 51 = .ok (.iconst 0, 1) := by decide +kernel
theorem d_M_clear_52 : decode M_M_clear.2.1 52 = .ok (.iastore, 1) := by decide +kernel
theorem d_M_clear_53 : decode M_M_clear.2.1 53 = .ok (.iinc 2 1, 3) := by decide +kernel
theorem d_M_clear_56 : decode M_M_clear.2.1 56 = .ok (.goto (-22), 3) := by decide +kernel
theorem d_M_clear_59 : decode M_M_clear.2.1 59 = .ok (.iconst 0, 1) := by decide +kernel
theorem d_M_clear_60 : decode M_M_clear.2.1 60 = .ok (.istore_n 2, 1) := by decide +kernel
theorem d_M_clear_61 : decode M_M_clear.2.1 61 = .ok (.iload_n 2, 1) := by decide +kernel
theorem d_M_clear_62 : decode M_M_clear.2.1 62 = .ok (.bipush 6, 2) := by decide +kernel
theorem d_M_clear_64 : decode M_M_clear.2.1 64 = .ok (.if_icmp .ge 23, 3) := by decide +kernel
theorem d_M_clear_67 : decode M_M_clear.2.1 67 = .ok (.aload_n 0, 1) := by decide +kernel
theorem d_M_clear_68 : decode M_M_clear.2.1 68 = .ok (.getfield 42, 3) := by decide +kernel
theorem d_M_clear_71 : decode M_M_clear.2.1 71 = .ok (.iload_n 2, 1) := by decide +kernel
theorem d_M_clear_72 : decode M_M_clear.2.1 72 = .ok (.iconst 0, 1) := by decide +kernel
theorem d_M_clear_73 : decode M_M_clear.2.1 73 = .ok (.iastore, 1) := by decide +kernel
theorem d_M_clear_74 : decode M_M_clear.2.1 74 = .ok (.aload_n 0, 1) := by decide +kernel
theorem d_M_clear_75 : decode M_M_clear.2.1 75 = .ok (.getfield 45, 3) := by decide +kernel
theorem d_M_clear_78 : decode M_M_clear.2.1 78 = .ok (.iload_n 2, 1) := by decide +kernel
theorem d_M_clear_79 : decode M_M_clear.2.1 79 = .ok (.iconst 0, 1) := by decide +kernel
theorem d_M_clear_80 : decode M_M_clear.2.1 80 = .ok (.bastore, 1) := by decide +kernel
theorem d_M_clear_81 : decode M_M_clear.2.1 81 = .ok (.iinc 2 1, 3) := by decide +kernel
theorem d_M_clear_84 : decode M_M_clear.2.1 84 = .ok (.goto (-23), 3) := by decide +kernel
theorem d_M_clear_87 : decode M_M_clear.2.1 87 = .ok (.aload_n 0, 1) := by decide +kernel
theorem d_M_clear_88 : decode M_M_clear.2.1 88 = .ok (.iconst 0, 1) := by decide +kernel
theorem d_M_clear_89 : decode M_M_clear.2.1 89 = .ok (.putfield 96, 3) := by decide +kernel
theorem d_M_clear_92 : decode M_M_clear.2.1 92 = .ok (.aload_n 0, 1) := by decide +kernel
theorem d_M_clear_93 : decode M_M_clear.2.1 93 = .ok (.iconst (-1), 1) := by decide +kernel
theorem d_M_clear_94 : decode M_M_clear.2.1 94 = .ok (.putfield 13, 3) := by decide +kernel
theorem d_M_clear_97 : decode M_M_clear.2.1 97 = .ok (.iload_n 1, 1) := by decide +kernel
theorem d_M_clear_98 : decode M_M_clear.2.1 98 = .ok (.ireturn, 1) := by decide +kernel
theorem d_M_count_0 : decode M_M_count.2.1 0 = .ok (.iconst 0, 1) := by decide +kernel
theorem d_M_count_1 : decode M_M_count.2.1 1 = .ok (.istore_n 2, 1) := by decide +kernel
theorem d_M_count_2 : decode M_M_count.2.1 2 = .ok (.iload_n 1, 1) := by decide +kernel
theorem d_M_count_3 : decode M_M_count.2.1 3 = .ok (.tableswitch 95 0 5 #[37, 42, 47, 52, 57, 90], 37) := by decide +kernel
theorem d_M_count_40 : decode M_M_count.2.1 40 = .ok (.aload_n 0, 1) := by decide +kernel
theorem d_M_count_41 : decode M_M_count.2.1 41 = .ok (.invokevirtual 107, 3) := by decide +kernel
theorem d_M_count_44 : decode M_M_count.2.1 44 = .ok (.ireturn, 1) := by decide +kernel
theorem d_M_count_45 : decode M_M_count.2.1 45 = .ok (.aload_n 0, 1) := by decide +kernel
theorem d_M_count_46 : decode M_M_count.2.1 46 = .ok (.getfield 96, 3) := by decide +kernel
theorem d_M_count_49 : decode M_M_count.2.1 49 = .ok (.ireturn, 1) := by decide +kernel
theorem d_M_count_50 : decode M_M_count.2.1 50 = .ok (.aload_n 0, 1) := by decide +kernel
theorem d_M_count_51 : decode M_M_count.2.1 51 = .ok (.getfield 122, 3) := by decide +kernel
theorem d_M_count_54 : decode M_M_count.2.1 54 = .ok (.ireturn, 1) := by decide +kernel
theorem d_M_count_55 : decode M_M_count.2.1 55 = .ok (.aload_n 0, 1) := by decide +kernel
theorem d_M_count_56 : decode M_M_count.2.1 56 = .ok (.getfield 169, 3) := by decide +kernel
theorem d_M_count_59 : decode M_M_count.2.1 59 = .ok (.ireturn, 1) := by decide +kernel
theorem d_M_count_60 : decode M_M_count.2.1 60 = .ok (.iconst 0, 1) := by decide +kernel
theorem d_M_count_61 : decode M_M_count.2.1 61 = .ok (.istore_n 3, 1) := by decide +kernel
theorem d_M_count_62 : decode M_M_count.2.1 62 = .ok (.iload_n 3, 1) := by decide +kernel
theorem d_M_count_63 : decode M_M_count.2.1 63 = .ok (.bipush 6, 2) := by decide +kernel
theorem d_M_count_65 : decode M_M_count.2.1 65 = .ok (.if_icmp .ge 26, 3) := by decide +kernel
theorem d_M_count_68 : decode M_M_count.2.1 68 = .ok (.iload_n 2, 1) := by decide +kernel
theorem d_M_count_69 : decode M_M_count.2.1 69 = .ok (.aload_n 0, 1) := by decide +kernel
theorem d_M_count_70 : decode M_M_count.2.1 70 = .ok (.getfield 45, 3) := by decide +kernel
theorem d_M_count_73 : decode M_M_count.2.1 73 = .ok (.iload_n 3, 1) := by decide +kernel
theorem d_M_count_74 : decode M_M_count.2.1 74 = .ok (.baload, 1) := by decide +kernel
theorem d_M_count_75 : decode M_M_count.2.1 75 = .ok (.ifCond .eq 7, 3) := by decide +kernel
theorem d_M_count_78 : decode M_M_count.2.1 78 = .ok (.iconst 1, 1) := by decide +kernel
theorem d_M_count_79 : decode M_M_count.2.1 79 = .ok (.goto 4, 3) := by decide +kernel
theorem d_M_count_82 : decode M_M_count.2.1 82 = .ok (.iconst 0, 1) := by decide +kernel
theorem d_M_count_83 : decode M_M_count.2.1 83 = .ok (.iadd, 1) := by decide +kernel
theorem d_M_count_84 : decode M_M_count.2.1 84 = .ok (.istore_n 2, 1) := by decide +kernel
theorem d_M_count_85 : decode M_M_count.2.1 85 = .ok (.iinc 3 1, 3) := by decide +kernel
theorem d_M_count_88 : decode M_M_count.2.1 88 = .ok (.goto (-26), 3) := by decide +kernel
theorem d_M_count_91 : decode M_M_count.2.1 91 = .ok (.iload_n 2, 1) := by decide +kernel
theorem d_M_count_92 : decode M_M_count.2.1 92 = .ok (.ireturn, 1) := by decide +kernel
theorem d_M_count_93 : decode M_M_count.2.1 93 = .ok (.aload_n 0, 1) := by decide +kernel
theorem d_M_count_94 : decode M_M_count.2.1 94 = .ok (.getfield 13, 3) := by decide +kernel
theorem d_M_count_97 : decode M_M_count.2.1 97 = .ok (.ireturn, 1) := by decide +kernel
theorem d_M_count_98 : decode M_M_count.2.1 98 = .ok (.bipush (-2), 2) := by decide +kernel
theorem d_M_count_100 : decode M_M_count.2.1 100 = .ok (.ireturn, 1) := by decide +kernel
theorem d_M_cut_0 : decode M_M_cut.2.1 0 = .ok (.iload_n 1, 1) := by decide +kernel
theorem d_M_cut_1 : decode M_M_cut.2.1 1 = .ok (.iconst 0, 1) := by decide +kernel
theorem d_M_cut_2 : decode M_M_cut.2.1 2 = .ok (.bipush 23, 2) := by decide +kernel
theorem d_M_cut_4 : decode M_M_cut.2.1 4 = .ok (.invokestatic 60, 3) := by decide +kernel
theorem d_M_cut_7 : decode M_M_cut.2.1 7 = .ok (.ifCond .ne 6, 3) := by decide +kernel
theorem d_M_cut_10 : decode M_M_cut.2.1 10 = .ok (.bipush (-2), 2) := by decide +kernel
theorem d_M_cut_12 : decode M_M_cut.2.1 12 = .ok (.ireturn, 1) := by decide +kernel
theorem d_M_cut_13 : decode M_M_cut.2.1 13 = .ok (.aload_n 0, 1) := by decide +kernel
theorem d_M_cut_14 : decode M_M_cut.2.1 14 = .ok (.iload_n 1, 1) := by decide +kernel
theorem d_M_cut_15 : decode M_M_cut.2.1 15 = .ok (.putfield 13, 3) := by decide +kernel
theorem d_M_cut_18 : decode M_M_cut.2.1 18 = .ok (.iconst 1, 1) := by decide +kernel
theorem d_M_cut_19 : decode M_M_cut.2.1 19 = .ok (.ireturn, 1) := by decide +kernel
theorem d_M_digest_0 : decode M_M_digest.2.1 0 = .ok (.ldc2_w 172, 3) := by decide +kernel
theorem d_M_digest_3 : decode M_M_digest.2.1 3 = .ok (.lstore_n 1, 1) := by decide +kernel
theorem d_M_digest_4 : decode M_M_digest.2.1 4 = .ok (.iconst 0, 1) := by decide +kernel
theorem d_M_digest_5 : decode M_M_digest.2.1 5 = .ok (.istore_n 3, 1) := by decide +kernel
theorem d_M_digest_6 : decode M_M_digest.2.1 6 = .ok (.iload_n 3, 1) := by decide +kernel
theorem d_M_digest_7 : decode M_M_digest.2.1 7 = .ok (.bipush 12, 2) := by decide +kernel
theorem d_M_digest_9 : decode M_M_digest.2.1 9 = .ok (.if_icmp .ge 190, 3) := by decide +kernel
theorem d_M_digest_12 : decode M_M_digest.2.1 12 = .ok (.ldc2_w 174, 3) := by decide +kernel
theorem d_M_digest_15 : decode M_M_digest.2.1 15 = .ok (.ldc2_w 174, 3) := by decide +kernel
theorem d_M_digest_18 : decode M_M_digest.2.1 18 = .ok (.ldc2_w 174, 3) := by decide +kernel
theorem d_M_digest_21 : decode M_M_digest.2.1 21 = .ok (.lload_n 1, 1) := by decide +kernel
theorem d_M_digest_22 : decode M_M_digest.2.1 22 = .ok (.lmul, 1) := by decide +kernel
theorem d_M_digest_23 : decode M_M_digest.2.1 23 = .ok (.aload_n 0, 1) := by decide +kernel
theorem d_M_digest_24 : decode M_M_digest.2.1 24 = .ok (.getfield 17, 3) := by decide +kernel
theorem d_M_digest_27 : decode M_M_digest.2.1 27 = .ok (.iload_n 3, 1) := by decide +kernel
theorem d_M_digest_28 : decode M_M_digest.2.1 28 = .ok (.baload, 1) := by decide +kernel
theorem d_M_digest_29 : decode M_M_digest.2.1 29 = .ok (.ifCond .eq 7, 3) := by decide +kernel
theorem d_M_digest_32 : decode M_M_digest.2.1 32 = .ok (.iconst 0, 1) := by decide +kernel
theorem d_M_digest_33 : decode M_M_digest.2.1 33 = .ok (.goto 4, 3) := by decide +kernel
theorem d_M_digest_36 : decode M_M_digest.2.1 36 = .ok (.iconst 1, 1) := by decide +kernel
theorem d_M_digest_37 : decode M_M_digest.2.1 37 = .ok (.i2l, 1) := by decide +kernel
theorem d_M_digest_38 : decode M_M_digest.2.1 38 = .ok (.ladd, 1) := by decide +kernel
theorem d_M_digest_39 : decode M_M_digest.2.1 39 = .ok (.lmul, 1) := by decide +kernel
theorem d_M_digest_40 : decode M_M_digest.2.1 40 = .ok (.aload_n 0, 1) := by decide +kernel
theorem d_M_digest_41 : decode M_M_digest.2.1 41 = .ok (.getfield 21, 3) := by decide +kernel
theorem d_M_digest_44 : decode M_M_digest.2.1 44 = .ok (.iload_n 3, 1) := by decide +kernel
theorem d_M_digest_45 : decode M_M_digest.2.1 45 = .ok (.iaload, 1) := by decide +kernel
theorem d_M_digest_46 : decode M_M_digest.2.1 46 = .ok (.i2l, 1) := by decide +kernel
theorem d_M_digest_47 : decode M_M_digest.2.1 47 = .ok (.ladd, 1) := by decide +kernel
theorem d_M_digest_48 : decode M_M_digest.2.1 48 = .ok (.lmul, 1) := by decide +kernel
theorem d_M_digest_49 : decode M_M_digest.2.1 49 = .ok (.ldc2_w 176, 3) := by decide +kernel
theorem d_M_digest_52 : decode M_M_digest.2.1 52 = .ok (.ladd, 1) := by decide +kernel
theorem d_M_digest_53 : decode M_M_digest.2.1 53 = .ok (.aload_n 0, 1) := by decide +kernel
theorem d_M_digest_54 : decode M_M_digest.2.1 54 = .ok (.iload_n 3, 1) := by decide +kernel
theorem d_M_digest_55 : decode M_M_digest.2.1 55 = .ok (.invokevirtual 131, 3) := by decide +kernel
theorem d_M_digest_58 : decode M_M_digest.2.1 58 = .ok (.i2l, 1) := by decide +kernel
theorem d_M_digest_59 : decode M_M_digest.2.1 59 = .ok (.lsub, 1) := by decide +kernel
theorem d_M_digest_60 : decode M_M_digest.2.1 60 = .ok (.lstore_n 1, 1) := by decide +kernel
theorem d_M_digest_61 : decode M_M_digest.2.1 61 = .ok (.iconst 0, 1) := by decide +kernel
theorem d_M_digest_62 : decode M_M_digest.2.1 62 = .ok (.istore 4, 2) := by decide +kernel
theorem d_M_digest_64 : decode M_M_digest.2.1 64 = .ok (.iload 4, 2) := by decide +kernel
theorem d_M_digest_66 : decode M_M_digest.2.1 66 = .ok (.bipush 6, 2) := by decide +kernel
theorem d_M_digest_68 : decode M_M_digest.2.1 68 = .ok (.if_icmp .ge 125, 3) := by decide +kernel
theorem d_M_digest_71 : decode M_M_digest.2.1 71 = .ok (.iconst 0, 1) := by decide +kernel
theorem d_M_digest_72 : decode M_M_digest.2.1 72 = .ok (.istore 5, 2) := by decide +kernel
theorem d_M_digest_74 : decode M_M_digest.2.1 74 = .ok (.iload 5, 2) := by decide +kernel
theorem d_M_digest_76 : decode M_M_digest.2.1 76 = .ok (.bipush 6, 2) := by decide +kernel
theorem d_M_digest_78 : decode M_M_digest.2.1 78 = .ok (.if_icmp .ge 26, 3) := by decide +kernel
theorem d_M_digest_81 : decode M_M_digest.2.1 81 = .ok (.ldc2_w 174, 3) := by decide +kernel
theorem d_M_digest_84 : decode M_M_digest.2.1 84 = .ok (.lload_n 1, 1) := by decide +kernel
theorem d_M_digest_85 : decode M_M_digest.2.1 85 = .ok (.lmul, 1) := by decide +kernel
theorem d_M_digest_86 : decode M_M_digest.2.1 86 = .ok (.aload_n 0, 1) := by decide +kernel
theorem d_M_digest_87 : decode M_M_digest.2.1 87 = .ok (.iload_n 3, 1) := by decide +kernel
theorem d_M_digest_88 : decode M_M_digest.2.1 88 = .ok (.iload 4, 2) := by decide +kernel
theorem d_M_digest_90 : decode M_M_digest.2.1 90 = .ok (.iload 5, 2) := by decide +kernel
theorem d_M_digest_92 : decode M_M_digest.2.1 92 = .ok (.invokevirtual 178, 3) := by decide +kernel
theorem d_M_digest_95 : decode M_M_digest.2.1 95 = .ok (.i2l, 1) := by decide +kernel
theorem d_M_digest_96 : decode M_M_digest.2.1 96 = .ok (.ladd, 1) := by decide +kernel
theorem d_M_digest_97 : decode M_M_digest.2.1 97 = .ok (.lstore_n 1, 1) := by decide +kernel
theorem d_M_digest_98 : decode M_M_digest.2.1 98 = .ok (.iinc 5 1, 3) := by decide +kernel
theorem d_M_digest_101 : decode M_M_digest.2.1 101 = .ok (.goto (-27), 3) := by decide +kernel
theorem d_M_digest_104 : decode M_M_digest.2.1 104 = .ok (.iload_n 3, 1) := by decide +kernel
theorem d_M_digest_105 : decode M_M_digest.2.1 105 = .ok (.iload 4, 2) := by decide +kernel
theorem d_M_digest_107 : decode M_M_digest.2.1 107 = .ok (.iconst 0, 1) := by decide +kernel
theorem d_M_digest_108 : decode M_M_digest.2.1 108 = .ok (.invokestatic 79, 3) := by decide +kernel
theorem d_M_digest_111 : decode M_M_digest.2.1 111 = .ok (.istore 5, 2) := by decide +kernel
theorem d_M_digest_113 : decode M_M_digest.2.1 113 = .ok (.iconst 0, 1) := by decide +kernel
theorem d_M_digest_114 : decode M_M_digest.2.1 114 = .ok (.istore 6, 2) := by decide +kernel
theorem d_M_digest_116 : decode M_M_digest.2.1 116 = .ok (.iload 6, 2) := by decide +kernel
theorem d_M_digest_118 : decode M_M_digest.2.1 118 = .ok (.aload_n 0, 1) := by decide +kernel
theorem d_M_digest_119 : decode M_M_digest.2.1 119 = .ok (.getfield 36, 3) := by decide +kernel
theorem d_M_digest_122 : decode M_M_digest.2.1 122 = .ok (.iload 5, 2) := by decide +kernel
theorem d_M_digest_124 : decode M_M_digest.2.1 124 = .ok (.iaload, 1) := by decide +kernel
theorem d_M_digest_125 : decode M_M_digest.2.1 125 = .ok (.invokestatic 83, 3) := by decide +kernel
theorem d_M_digest_128 : decode M_M_digest.2.1 128 = .ok (.if_icmp .ge 59, 3) := by decide +kernel
theorem d_M_digest_131 : decode M_M_digest.2.1 131 = .ok (.aload_n 0, 1) := by decide +kernel
theorem d_M_digest_132 : decode M_M_digest.2.1 132 = .ok (.getfield 30, 3) := by decide +kernel
theorem d_M_digest_135 : decode M_M_digest.2.1 135 = .ok (.iload 5, 2) := by decide +kernel
theorem d_M_digest_137 : decode M_M_digest.2.1 137 = .ok (.baload, 1) := by decide +kernel
theorem d_M_digest_138 : decode M_M_digest.2.1 138 = .ok (.ifCond .eq 49, 3) := by decide +kernel
theorem d_M_digest_141 : decode M_M_digest.2.1 141 = .ok (.iconst 0, 1) := by decide +kernel
theorem d_M_digest_142 : decode M_M_digest.2.1 142 = .ok (.istore 7, 2) := by decide +kernel
theorem d_M_digest_144 : decode M_M_digest.2.1 144 = .ok (.iload 7, 2) := by decide +kernel
theorem d_M_digest_146 : decode M_M_digest.2.1 146 = .ok (.bipush 8, 2) := by decide +kernel
theorem d_M_digest_148 : decode M_M_digest.2.1 148 = .ok (.if_icmp .ge 33, 3) := by decide +kernel
theorem d_M_digest_151 : decode M_M_digest.2.1 151 = .ok (.ldc2_w 174, 3) := by decide +kernel
theorem d_M_digest_154 : decode M_M_digest.2.1 154 = .ok (.lload_n 1, 1) := by decide +kernel
theorem d_M_digest_155 : decode M_M_digest.2.1 155 = .ok (.lmul, 1) := by decide +kernel
theorem d_M_digest_156 : decode M_M_digest.2.1 156 = .ok (.aload_n 0, 1) := by decide +kernel
theorem d_M_digest_157 : decode M_M_digest.2.1 157 = .ok (.getfield 27, 3) := by decide +kernel
theorem d_M_digest_160 : decode M_M_digest.2.1 160 = .ok (.aload_n 0, 1) := by decide +kernel
theorem d_M_digest_161 : decode M_M_digest.2.1 161 = .ok (.iload_n 3, 1) := by decide +kernel
theorem d_M_digest_162 : decode M_M_digest.2.1 162 = .ok (.iload 5, 2) := by decide +kernel
theorem d_M_digest_164 : decode M_M_digest.2.1 164 = .ok (.iload 6, 2) := by decide +kernel
theorem d_M_digest_166 : decode M_M_digest.2.1 166 = .ok (.iload 7, 2) := by decide +kernel
theorem d_M_digest_168 : decode M_M_digest.2.1 168 = .ok (.invokevirtual 103, 3) := by decide +kernel
theorem d_M_digest_171 : decode M_M_digest.2.1 171 = .ok (.iaload, 1) := by decide +kernel
theorem d_M_digest_172 : decode M_M_digest.2.1 172 = .ok (.i2l, 1) := by decide +kernel
theorem d_M_digest_173 : decode M_M_digest.2.1 173 = .ok (.ladd, 1) := by decide +kernel
theorem d_M_digest_174 : decode M_M_digest.2.1 174 = .ok (.lstore_n 1, 1) := by decide +kernel
theorem d_M_digest_175 : decode M_M_digest.2.1 175 = .ok (.iinc 7 1, 3) := by decide +kernel
theorem d_M_digest_178 : decode M_M_digest.2.1 178 = .ok (.goto (-34), 3) := by decide +kernel
theorem d_M_digest_181 : decode M_M_digest.2.1 181 = .ok (.iinc 6 1, 3) := by decide +kernel
theorem d_M_digest_184 : decode M_M_digest.2.1 184 = .ok (.goto (-68), 3) := by decide +kernel
theorem d_M_digest_187 : decode M_M_digest.2.1 187 = .ok (.iinc 4 1, 3) := by decide +kernel
theorem d_M_digest_190 : decode M_M_digest.2.1 190 = .ok (.goto (-126), 3) := by decide +kernel
theorem d_M_digest_193 : decode M_M_digest.2.1 193 = .ok (.iinc 3 1, 3) := by decide +kernel
theorem d_M_digest_196 : decode M_M_digest.2.1 196 = .ok (.goto (-190), 3) := by decide +kernel
theorem d_M_digest_199 : decode M_M_digest.2.1 199 = .ok (.lload_n 1, 1) := by decide +kernel
theorem d_M_digest_200 : decode M_M_digest.2.1 200 = .ok (.lreturn, 1) := by decide +kernel
theorem d_M_fail_0 : decode M_M_fail.2.1 0 = .ok (.iload_n 1, 1) := by decide +kernel
theorem d_M_fail_1 : decode M_M_fail.2.1 1 = .ok (.invokestatic 72, 3) := by decide +kernel
theorem d_M_fail_4 : decode M_M_fail.2.1 4 = .ok (.ifCond .ne 6, 3) := by decide +kernel
theorem d_M_fail_7 : decode M_M_fail.2.1 7 = .ok (.bipush (-2), 2) := by decide +kernel
theorem d_M_fail_9 : decode M_M_fail.2.1 9 = .ok (.ireturn, 1) := by decide +kernel
theorem d_M_fail_10 : decode M_M_fail.2.1 10 = .ok (.aload_n 0, 1) := by decide +kernel
theorem d_M_fail_11 : decode M_M_fail.2.1 11 = .ok (.getfield 17, 3) := by decide +kernel
theorem d_M_fail_14 : decode M_M_fail.2.1 14 = .ok (.iload_n 1, 1) := by decide +kernel
theorem d_M_fail_15 : decode M_M_fail.2.1 15 = .ok (.baload, 1) := by decide +kernel
theorem d_M_fail_16 : decode M_M_fail.2.1 16 = .ok (.ifCond .eq 6, 3) := by decide +kernel
theorem d_M_fail_19 : decode M_M_fail.2.1 19 = .ok (.bipush (-3), 2) := by decide +kernel
theorem d_M_fail_21 : decode M_M_fail.2.1 21 = .ok (.ireturn, 1) := by decide +kernel
theorem d_M_fail_22 : decode M_M_fail.2.1 22 = .ok (.aload_n 0, 1) := by decide +kernel
theorem d_M_fail_23 : decode M_M_fail.2.1 23 = .ok (.getfield 17, 3) := by decide +kernel
theorem d_M_fail_26 : decode M_M_fail.2.1 26 = .ok (.iload_n 1, 1) := by decide +kernel
theorem d_M_fail_27 : decode M_M_fail.2.1 27 = .ok (.iconst 1, 1) := by decide +kernel
theorem d_M_fail_28 : decode M_M_fail.2.1 28 = .ok (.bastore, 1) := by decide +kernel
theorem d_M_fail_29 : decode M_M_fail.2.1 29 = .ok (.iconst 1, 1) := by decide +kernel
theorem d_M_fail_30 : decode M_M_fail.2.1 30 = .ok (.ireturn, 1) := by decide +kernel
theorem d_M_feed_0 : decode M_M_feed.2.1 0 = .ok (.iload_n 3, 1) := by decide +kernel
theorem d_M_feed_1 : decode M_M_feed.2.1 1 = .ok (.iconst 1, 1) := by decide +kernel
theorem d_M_feed_2 : decode M_M_feed.2.1 2 = .ok (.bipush 8, 2) := by decide +kernel
theorem d_M_feed_4 : decode M_M_feed.2.1 4 = .ok (.invokestatic 60, 3) := by decide +kernel
theorem d_M_feed_7 : decode M_M_feed.2.1 7 = .ok (.ifCond .ne 6, 3) := by decide +kernel
theorem d_M_feed_10 : decode M_M_feed.2.1 10 = .ok (.bipush (-2), 2) := by decide +kernel
theorem d_M_feed_12 : decode M_M_feed.2.1 12 = .ok (.ireturn, 1) := by decide +kernel
theorem d_M_feed_13 : decode M_M_feed.2.1 13 = .ok (.aload_n 0, 1) := by decide +kernel
theorem d_M_feed_14 : decode M_M_feed.2.1 14 = .ok (.getfield 96, 3) := by decide +kernel
theorem d_M_feed_17 : decode M_M_feed.2.1 17 = .ok (.iload_n 3, 1) := by decide +kernel
theorem d_M_feed_18 : decode M_M_feed.2.1 18 = .ok (.iadd, 1) := by decide +kernel
theorem d_M_feed_19 : decode M_M_feed.2.1 19 = .ok (.sipush 240, 3) := by decide +kernel
theorem d_M_feed_22 : decode M_M_feed.2.1 22 = .ok (.if_icmp .le 6, 3) := by decide +kernel
theorem d_M_feed_25 : decode M_M_feed.2.1 25 = .ok (.bipush (-5), 2) := by decide +kernel
theorem d_M_feed_27 : decode M_M_feed.2.1 27 = .ok (.ireturn, 1) := by decide +kernel
theorem d_M_feed_28 : decode M_M_feed.2.1 28 = .ok (.iload_n 3, 1) := by decide +kernel
theorem d_M_feed_29 : decode M_M_feed.2.1 29 = .ok (.iconst 1, 1) := by decide +kernel
theorem d_M_feed_30 : decode M_M_feed.2.1 30 = .ok (.isub, 1) := by decide +kernel
theorem d_M_feed_31 : decode M_M_feed.2.1 31 = .ok (.istore 4, 2) := by decide +kernel
theorem d_M_feed_33 : decode M_M_feed.2.1 33 = .ok (.iload 4, 2) := by decide +kernel
theorem d_M_feed_35 : decode M_M_feed.2.1 35 = .ok (.ifCond .lt 40, 3) := by decide +kernel
theorem d_M_feed_38 : decode M_M_feed.2.1 38 = .ok (.aload_n 0, 1) := by decide +kernel
theorem d_M_feed_39 : decode M_M_feed.2.1 39 = .ok (.getfield 7, 3) := by decide +kernel
theorem d_M_feed_42 : decode M_M_feed.2.1 42 = .ok (.aload_n 0, 1) := by decide +kernel
theorem d_M_feed_43 : decode M_M_feed.2.1 43 = .ok (.getfield 96, 3) := by decide +kernel
theorem d_M_feed_46 : decode M_M_feed.2.1 46 = .ok (.lload_n 1, 1) := by decide +kernel
theorem d_M_feed_47 : decode M_M_feed.2.1 47 = .ok (.bipush 8, 2) := by decide +kernel
theorem d_M_feed_49 : decode M_M_feed.2.1 49 = .ok (.iload 4, 2) := by decide +kernel
theorem d_M_feed_51 : decode M_M_feed.2.1 51 = .ok (.imul, 1) := by decide +kernel
theorem d_M_feed_52 : decode M_M_feed.2.1 52 = .ok (.lshr, 1) := by decide +kernel
theorem d_M_feed_53 : decode M_M_feed.2.1 53 = .ok (.l2i, 1) := by decide +kernel
theorem d_M_feed_54 : decode M_M_feed.2.1 54 = .ok (.sipush 255, 3) := by decide +kernel
theorem d_M_feed_57 : decode M_M_feed.2.1 57 = .ok (.iand, 1) := by decide +kernel
theorem d_M_feed_58 : decode M_M_feed.2.1 58 = .ok (.iastore, 1) := by decide +kernel
theorem d_M_feed_59 : decode M_M_feed.2.1 59 = .ok (.aload_n 0, 1) := by decide +kernel
theorem d_M_feed_60 : decode M_M_feed.2.1 60 = .ok (.dup, 1) := by decide +kernel
theorem d_M_feed_61 : decode M_M_feed.2.1 61 = .ok (.getfield 96, 3) := by decide +kernel
theorem d_M_feed_64 : decode M_M_feed.2.1 64 = .ok (.iconst 1, 1) := by decide +kernel
theorem d_M_feed_65 : decode M_M_feed.2.1 65 = .ok (.iadd, 1) := by decide +kernel
theorem d_M_feed_66 : decode M_M_feed.2.1 66 = .ok (.putfield 96, 3) := by decide +kernel
theorem d_M_feed_69 : decode M_M_feed.2.1 69 = .ok (.iinc 4 (-1), 3) := by decide +kernel
theorem d_M_feed_72 : decode M_M_feed.2.1 72 = .ok (.goto (-39), 3) := by decide +kernel
theorem d_M_feed_75 : decode M_M_feed.2.1 75 = .ok (.aload_n 0, 1) := by decide +kernel
theorem d_M_feed_76 : decode M_M_feed.2.1 76 = .ok (.getfield 96, 3) := by decide +kernel
theorem d_M_feed_79 : decode M_M_feed.2.1 79 = .ok (.ireturn, 1) := by decide +kernel
theorem d_M_flips_0 : decode M_M_flips.2.1 0 = .ok (.aload_n 0, 1) := by decide +kernel
theorem d_M_flips_1 : decode M_M_flips.2.1 1 = .ok (.iload_n 1, 1) := by decide +kernel
theorem d_M_flips_2 : decode M_M_flips.2.1 2 = .ok (.iload_n 2, 1) := by decide +kernel
theorem d_M_flips_3 : decode M_M_flips.2.1 3 = .ok (.iconst 0, 1) := by decide +kernel
theorem d_M_flips_4 : decode M_M_flips.2.1 4 = .ok (.invokevirtual 89, 3) := by decide +kernel
theorem d_M_flips_7 : decode M_M_flips.2.1 7 = .ok (.iload_n 1, 1) := by decide +kernel
theorem d_M_flips_8 : decode M_M_flips.2.1 8 = .ok (.iload_n 2, 1) := by decide +kernel
theorem d_M_flips_9 : decode M_M_flips.2.1 9 = .ok (.iconst 0, 1) := by decide +kernel
theorem d_M_flips_10 : decode M_M_flips.2.1 10 = .ok (.invokestatic 79, 3) := by decide +kernel
theorem d_M_flips_13 : decode M_M_flips.2.1 13 = .ok (.istore_n 3, 1) := by decide +kernel
theorem d_M_flips_14 : decode M_M_flips.2.1 14 = .ok (.iload_n 1, 1) := by decide +kernel
theorem d_M_flips_15 : decode M_M_flips.2.1 15 = .ok (.iload_n 2, 1) := by decide +kernel
theorem d_M_flips_16 : decode M_M_flips.2.1 16 = .ok (.iconst 1, 1) := by decide +kernel
theorem d_M_flips_17 : decode M_M_flips.2.1 17 = .ok (.invokestatic 79, 3) := by decide +kernel
theorem d_M_flips_20 : decode M_M_flips.2.1 20 = .ok (.istore 4, 2) := by decide +kernel
theorem d_M_flips_22 : decode M_M_flips.2.1 22 = .ok (.aload_n 0, 1) := by decide +kernel
theorem d_M_flips_23 : decode M_M_flips.2.1 23 = .ok (.getfield 30, 3) := by decide +kernel
theorem d_M_flips_26 : decode M_M_flips.2.1 26 = .ok (.iload_n 3, 1) := by decide +kernel
theorem d_M_flips_27 : decode M_M_flips.2.1 27 = .ok (.iconst 1, 1) := by decide +kernel
theorem d_M_flips_28 : decode M_M_flips.2.1 28 = .ok (.bastore, 1) := by decide +kernel
theorem d_M_flips_29 : decode M_M_flips.2.1 29 = .ok (.aload_n 0, 1) := by decide +kernel
theorem d_M_flips_30 : decode M_M_flips.2.1 30 = .ok (.getfield 33, 3) := by decide +kernel
theorem d_M_flips_33 : decode M_M_flips.2.1 33 = .ok (.iload_n 3, 1) := by decide +kernel
theorem d_M_flips_34 : decode M_M_flips.2.1 34 = .ok (.aload_n 0, 1) := by decide +kernel
theorem d_M_flips_35 : decode M_M_flips.2.1 35 = .ok (.getfield 33, 3) := by decide +kernel
theorem d_M_flips_38 : decode M_M_flips.2.1 38 = .ok (.iload 4, 2) := by decide +kernel
theorem d_M_flips_40 : decode M_M_flips.2.1 40 = .ok (.iaload, 1) := by decide +kernel
theorem d_M_flips_41 : decode M_M_flips.2.1 41 = .ok (.iastore, 1) := by decide +kernel
theorem d_M_flips_42 : decode M_M_flips.2.1 42 = .ok (.aload_n 0, 1) := by decide +kernel
theorem d_M_flips_43 : decode M_M_flips.2.1 43 = .ok (.getfield 36, 3) := by decide +kernel
theorem d_M_flips_46 : decode M_M_flips.2.1 46 = .ok (.iload_n 3, 1) := by decide +kernel
theorem d_M_flips_47 : decode M_M_flips.2.1 47 = .ok (.aload_n 0, 1) := by decide +kernel
theorem d_M_flips_48 : decode M_M_flips.2.1 48 = .ok (.getfield 36, 3) := by decide +kernel
theorem d_M_flips_51 : decode M_M_flips.2.1 51 = .ok (.iload 4, 2) := by decide +kernel
theorem d_M_flips_53 : decode M_M_flips.2.1 53 = .ok (.iaload, 1) := by decide +kernel
theorem d_M_flips_54 : decode M_M_flips.2.1 54 = .ok (.iastore, 1) := by decide +kernel
theorem d_M_flips_55 : decode M_M_flips.2.1 55 = .ok (.iconst 0, 1) := by decide +kernel
theorem d_M_flips_56 : decode M_M_flips.2.1 56 = .ok (.istore 5, 2) := by decide +kernel
theorem d_M_flips_58 : decode M_M_flips.2.1 58 = .ok (.iload 5, 2) := by decide +kernel
theorem d_M_flips_60 : decode M_M_flips.2.1 60 = .ok (.bipush 8, 2) := by decide +kernel
theorem d_M_flips_62 : decode M_M_flips.2.1 62 = .ok (.if_icmp .ge 34, 3) := by decide +kernel
theorem d_M_flips_65 : decode M_M_flips.2.1 65 = .ok (.aload_n 0, 1) := by decide +kernel
theorem d_M_flips_66 : decode M_M_flips.2.1 66 = .ok (.getfield 39, 3) := by decide +kernel
theorem d_M_flips_69 : decode M_M_flips.2.1 69 = .ok (.bipush 8, 2) := by decide +kernel
theorem d_M_flips_71 : decode M_M_flips.2.1 71 = .ok (.iload_n 3, 1) := by decide +kernel
theorem d_M_flips_72 : decode M_M_flips.2.1 72 = .ok (.imul, 1) := by decide +kernel
theorem d_M_flips_73 : decode M_M_flips.2.1 73 = .ok (.iload 5, 2) := by decide +kernel
theorem d_M_flips_75 : decode M_M_flips.2.1 75 = .ok (.iadd, 1) := by decide +kernel
theorem d_M_flips_76 : decode M_M_flips.2.1 76 = .ok (.aload_n 0, 1) := by decide +kernel
theorem d_M_flips_77 : decode M_M_flips.2.1 77 = .ok (.getfield 39, 3) := by decide +kernel
theorem d_M_flips_80 : decode M_M_flips.2.1 80 = .ok (.bipush 8, 2) := by decide +kernel
theorem d_M_flips_82 : decode M_M_flips.2.1 82 = .ok (.iload 4, 2) := by decide +kernel
theorem d_M_flips_84 : decode M_M_flips.2.1 84 = .ok (.imul, 1) := by decide +kernel
theorem d_M_flips_85 : decode M_M_flips.2.1 85 = .ok (.iload 5, 2) := by decide +kernel
theorem d_M_flips_87 : decode M_M_flips.2.1 87 = .ok (.iadd, 1) := by decide +kernel
theorem d_M_flips_88 : decode M_M_flips.2.1 88 = .ok (.iaload, 1) := by decide +kernel
theorem d_M_flips_89 : decode M_M_flips.2.1 89 = .ok (.iastore, 1) := by decide +kernel
theorem d_M_flips_90 : decode M_M_flips.2.1 90 = .ok (.iinc 5 1, 3) := by decide +kernel
theorem d_M_flips_93 : decode M_M_flips.2.1 93 = .ok (.goto (-35), 3) := by decide +kernel
theorem d_M_flips_96 : decode M_M_flips.2.1 96 = .ok (.aload_n 0, 1) := by decide +kernel
theorem d_M_flips_97 : decode M_M_flips.2.1 97 = .ok (.getfield 30, 3) := by decide +kernel
theorem d_M_flips_100 : decode M_M_flips.2.1 100 = .ok (.iload 4, 2) := by decide +kernel
theorem d_M_flips_102 : decode M_M_flips.2.1 102 = .ok (.iconst 0, 1) := by decide +kernel
theorem d_M_flips_103 : decode M_M_flips.2.1 103 = .ok (.bastore, 1) := by decide +kernel
theorem d_M_flips_104 : decode M_M_flips.2.1 104 = .ok (.return_, 1) := by decide +kernel
theorem d_M_free_0 : decode M_M_free.2.1 0 = .ok (.iload_n 1, 1) := by decide +kernel
theorem d_M_free_1 : decode M_M_free.2.1 1 = .ok (.invokestatic 72, 3) := by decide +kernel
theorem d_M_free_4 : decode M_M_free.2.1 4 = .ok (.ifCond .eq 14, 3) := by decide +kernel
theorem d_M_free_7 : decode M_M_free.2.1 7 = .ok (.bipush 40, 2) := by decide +kernel
theorem d_M_free_9 : decode M_M_free.2.1 9 = .ok (.aload_n 0, 1) := by decide +kernel
theorem d_M_free_10 : decode M_M_free.2.1 10 = .ok (.iload_n 1, 1) := by decide +kernel
theorem d_M_free_11 : decode M_M_free.2.1 11 = .ok (.invokevirtual 131, 3) := by decide +kernel
theorem d_M_free_14 : decode M_M_free.2.1 14 = .ok (.isub, 1) := by decide +kernel
theorem d_M_free_15 : decode M_M_free.2.1 15 = .ok (.goto 5, 3) := by decide +kernel
theorem d_M_free_18 : decode M_M_free.2.1 18 = .ok (.bipush (-2), 2) := by decide +kernel
theorem d_M_free_20 : decode M_M_free.2.1 20 = .ok (.ireturn, 1) := by decide +kernel
theorem d_M_fresh_0 : decode M_M_fresh.2.1 0 = .ok (.iload_n 1, 1) := by decide +kernel
theorem d_M_fresh_1 : decode M_M_fresh.2.1 1 = .ok (.invokestatic 72, 3) := by decide +kernel
theorem d_M_fresh_4 : decode M_M_fresh.2.1 4 = .ok (.ifCond .eq 10, 3) := by decide +kernel
theorem d_M_fresh_7 : decode M_M_fresh.2.1 7 = .ok (.iload_n 2, 1) := by decide +kernel
theorem d_M_fresh_8 : decode M_M_fresh.2.1 8 = .ok (.invokestatic 125, 3) := by decide +kernel
theorem d_M_fresh_11 : decode M_M_fresh.2.1 11 = .ok (.ifCond .ne 8, 3) := by decide +kernel
theorem d_M_fresh_14 : decode M_M_fresh.2.1 14 = .ok (.bipush (-2), 2) := by decide +kernel
theorem d_M_fresh_16 : decode M_M_fresh.2.1 16 = .ok (.goto 22, 3) := by decide +kernel
theorem d_M_fresh_19 : decode M_M_fresh.2.1 19 = .ok (.aload_n 0, 1) := by decide +kernel
theorem d_M_fresh_20 : decode M_M_fresh.2.1 20 = .ok (.iload_n 1, 1) := by decide +kernel
theorem d_M_fresh_21 : decode M_M_fresh.2.1 21 = .ok (.iload_n 2, 1) := by decide +kernel
theorem d_M_fresh_22 : decode M_M_fresh.2.1 22 = .ok (.aload_n 0, 1) := by decide +kernel
theorem d_M_fresh_23 : decode M_M_fresh.2.1 23 = .ok (.iload_n 2, 1) := by decide +kernel
theorem d_M_fresh_24 : decode M_M_fresh.2.1 24 = .ok (.invokevirtual 140, 3) := by decide +kernel
theorem d_M_fresh_27 : decode M_M_fresh.2.1 27 = .ok (.invokevirtual 93, 3) := by decide +kernel
theorem d_M_fresh_30 : decode M_M_fresh.2.1 30 = .ok (.ifCond .eq 7, 3) := by decide +kernel
theorem d_M_fresh_33 : decode M_M_fresh.2.1 33 = .ok (.iconst 1, 1) := by decide +kernel
theorem d_M_fresh_34 : decode M_M_fresh.2.1 34 = .ok (.goto 4, 3) := by decide +kernel
theorem d_M_fresh_37 : decode M_M_fresh.2.1 37 = .ok (.iconst 0, 1) := by decide +kernel
theorem d_M_fresh_38 : decode M_M_fresh.2.1 38 = .ok (.ireturn, 1) := by decide +kernel
theorem d_M_get_0 : decode M_M_get.2.1 0 = .ok (.iload_n 1, 1) := by decide +kernel
theorem d_M_get_1 : decode M_M_get.2.1 1 = .ok (.invokestatic 125, 3) := by decide +kernel
theorem d_M_get_4 : decode M_M_get.2.1 4 = .ok (.ifCond .ne 6, 3) := by decide +kernel
theorem d_M_get_7 : decode M_M_get.2.1 7 = .ok (.bipush (-2), 2) := by decide +kernel
theorem d_M_get_9 : decode M_M_get.2.1 9 = .ok (.ireturn, 1) := by decide +kernel
theorem d_M_get_10 : decode M_M_get.2.1 10 = .ok (.aload_n 0, 1) := by decide +kernel
theorem d_M_get_11 : decode M_M_get.2.1 11 = .ok (.getfield 45, 3) := by decide +kernel
theorem d_M_get_14 : decode M_M_get.2.1 14 = .ok (.iload_n 1, 1) := by decide +kernel
theorem d_M_get_15 : decode M_M_get.2.1 15 = .ok (.baload, 1) := by decide +kernel
theorem d_M_get_16 : decode M_M_get.2.1 16 = .ok (.ifCond .eq 6, 3) := by decide +kernel
theorem d_M_get_19 : decode M_M_get.2.1 19 = .ok (.bipush (-3), 2) := by decide +kernel
theorem d_M_get_21 : decode M_M_get.2.1 21 = .ok (.ireturn, 1) := by decide +kernel
theorem d_M_get_22 : decode M_M_get.2.1 22 = .ok (.aload_n 0, 1) := by decide +kernel
theorem d_M_get_23 : decode M_M_get.2.1 23 = .ok (.iload_n 1, 1) := by decide +kernel
theorem d_M_get_24 : decode M_M_get.2.1 24 = .ok (.invokevirtual 140, 3) := by decide +kernel
theorem d_M_get_27 : decode M_M_get.2.1 27 = .ok (.istore_n 3, 1) := by decide +kernel
theorem d_M_get_28 : decode M_M_get.2.1 28 = .ok (.aload_n 0, 1) := by decide +kernel
theorem d_M_get_29 : decode M_M_get.2.1 29 = .ok (.iload_n 1, 1) := by decide +kernel
theorem d_M_get_30 : decode M_M_get.2.1 30 = .ok (.iload_n 3, 1) := by decide +kernel
theorem d_M_get_31 : decode M_M_get.2.1 31 = .ok (.iload_n 2, 1) := by decide +kernel
theorem d_M_get_32 : decode M_M_get.2.1 32 = .ok (.iconst 5, 1) := by decide +kernel
theorem d_M_get_33 : decode M_M_get.2.1 33 = .ok (.invokevirtual 143, 3) := by decide +kernel
theorem d_M_get_36 : decode M_M_get.2.1 36 = .ok (.iconst 5, 1) := by decide +kernel
theorem d_M_get_37 : decode M_M_get.2.1 37 = .ok (.if_icmp .ge 6, 3) := by decide +kernel
theorem d_M_get_40 : decode M_M_get.2.1 40 = .ok (.bipush (-4), 2) := by decide +kernel
theorem d_M_get_42 : decode M_M_get.2.1 42 = .ok (.ireturn, 1) := by decide +kernel
theorem d_M_get_43 : decode M_M_get.2.1 43 = .ok (.aload_n 0, 1) := by decide +kernel
theorem d_M_get_44 : decode M_M_get.2.1 44 = .ok (.iload_n 1, 1) := by decide +kernel
theorem d_M_get_45 : decode M_M_get.2.1 45 = .ok (.iload_n 3, 1) := by decide +kernel
theorem d_M_get_46 : decode M_M_get.2.1 46 = .ok (.invokevirtual 146, 3) := by decide +kernel
theorem d_M_get_49 : decode M_M_get.2.1 49 = .ok (.istore 4, 2) := by decide +kernel
theorem d_M_get_51 : decode M_M_get.2.1 51 = .ok (.iload 4, 2) := by decide +kernel
theorem d_M_get_53 : decode M_M_get.2.1 53 = .ok (.ifCond .ne 6, 3) := by decide +kernel
theorem d_M_get_56 : decode M_M_get.2.1 56 = .ok (.bipush (-6), 2) := by decide +kernel
theorem d_M_get_58 : decode M_M_get.2.1 58 = .ok (.ireturn, 1) := by decide +kernel
theorem d_M_get_59 : decode M_M_get.2.1 59 = .ok (.iconst 0, 1) := by decide +kernel
theorem d_M_get_60 : decode M_M_get.2.1 60 = .ok (.istore 5, 2) := by decide +kernel
theorem d_M_get_62 : decode M_M_get.2.1 62 = .ok (.iload 5, 2) := by decide +kernel
theorem d_M_get_64 : decode M_M_get.2.1 64 = .ok (.iload 4, 2) := by decide +kernel
theorem d_M_get_66 : decode M_M_get.2.1 66 = .ok (.invokestatic 83, 3) := by decide +kernel
theorem d_M_get_69 : decode M_M_get.2.1 69 = .ok (.if_icmp .ge 16, 3) := by decide +kernel
theorem d_M_get_72 : decode M_M_get.2.1 72 = .ok (.aload_n 0, 1) := by decide +kernel
theorem d_M_get_73 : decode M_M_get.2.1 73 = .ok (.iload_n 1, 1) := by decide +kernel
theorem d_M_get_74 : decode M_M_get.2.1 74 = .ok (.iload 5, 2) := by decide +kernel
theorem d_M_get_76 : decode M_M_get.2.1 76 = .ok (.invokevirtual 149, 3) := by decide +kernel
theorem d_M_get_79 : decode M_M_get.2.1 79 = .ok (.iinc 5 1, 3) := by decide +kernel
theorem d_M_get_82 : decode M_M_get.2.1 82 = .ok (.goto (-20), 3) := by decide +kernel
theorem d_M_get_85 : decode M_M_get.2.1 85 = .ok (.aload_n 0, 1) := by decide +kernel
theorem d_M_get_86 : decode M_M_get.2.1 86 = .ok (.iload 4, 2) := by decide +kernel
theorem d_M_get_88 : decode M_M_get.2.1 88 = .ok (.putfield 152, 3) := by decide +kernel
theorem d_M_get_91 : decode M_M_get.2.1 91 = .ok (.iload 4, 2) := by decide +kernel
theorem d_M_get_93 : decode M_M_get.2.1 93 = .ok (.ireturn, 1) := by decide +kernel
theorem d_M_getStripe_0 : decode M_M_getStripe.2.1 0 = .ok (.iconst 0, 1) := by decide +kernel
theorem d_M_getStripe_1 : decode M_M_getStripe.2.1 1 = .ok (.istore_n 3, 1) := by decide +kernel
theorem d_M_getStripe_2 : decode M_M_getStripe.2.1 2 = .ok (.iload_n 3, 1) := by decide +kernel
theorem d_M_getStripe_3 : decode M_M_getStripe.2.1 3 = .ok (.iconst 5, 1) := by decide +kernel
theorem d_M_getStripe_4 : decode M_M_getStripe.2.1 4 = .ok (.if_icmp .ge 111, 3) := by decide +kernel
theorem d_M_getStripe_7 : decode M_M_getStripe.2.1 7 = .ok (.aload_n 0, 1) := by decide +kernel
theorem d_M_getStripe_8 : decode M_M_getStripe.2.1 8 = .ok (.getfield 54, 3) := by decide +kernel
theorem d_M_getStripe_11 : decode M_M_getStripe.2.1 11 = .ok (.iload_n 3, 1) := by decide +kernel
theorem d_M_getStripe_12 : decode M_M_getStripe.2.1 12 = .ok (.iaload, 1) := by decide +kernel
theorem d_M_getStripe_13 : decode M_M_getStripe.2.1 13 = .ok (.iload_n 1, 1) := by decide +kernel
theorem d_M_getStripe_14 : decode M_M_getStripe.2.1 14 = .ok (.iconst 0, 1) := by decide +kernel
theorem d_M_getStripe_15 : decode M_M_getStripe.2.1 15 = .ok (.invokestatic 79, 3) := by decide +kernel
theorem d_M_getStripe_18 : decode M_M_getStripe.2.1 18 = .ok (.istore 4, 2) := by decide +kernel
theorem d_M_getStripe_20 : decode M_M_getStripe.2.1 20 = .ok (.iconst 0, 1) := by decide +kernel
theorem d_M_getStripe_21 : decode M_M_getStripe.2.1 21 = .ok (.istore 5, 2) := by decide +kernel
theorem d_M_getStripe_23 : decode M_M_getStripe.2.1 23 = .ok (.iload 5, 2) := by decide +kernel
theorem d_M_getStripe_25 : decode M_M_getStripe.2.1 25 = .ok (.iconst 5, 1) := by decide +kernel
theorem d_M_getStripe_26 : decode M_M_getStripe.2.1 26 = .ok (.if_icmp .ge 32, 3) := by decide +kernel
theorem d_M_getStripe_29 : decode M_M_getStripe.2.1 29 = .ok (.aload_n 0, 1) := by decide +kernel
theorem d_M_getStripe_30 : decode M_M_getStripe.2.1 30 = .ok (.getfield 51, 3) := by decide +kernel
theorem d_M_getStripe_33 : decode M_M_getStripe.2.1 33 = .ok (.bipush 16, 2) := by decide +kernel
theorem d_M_getStripe_35 : decode M_M_getStripe.2.1 35 = .ok (.iload_n 3, 1) := by decide +kernel
theorem d_M_getStripe_36 : decode M_M_getStripe.2.1 36 = .ok (.imul, 1) := by decide +kernel
theorem d_M_getStripe_37 : decode M_M_getStripe.2.1 37 = .ok (.iload 5, 2) := by decide +kernel
theorem d_M_getStripe_39 : decode M_M_getStripe.2.1 39 = .ok (.iadd, 1) := by decide +kernel
theorem d_M_getStripe_40 : decode M_M_getStripe.2.1 40 = .ok (.aload_n 0, 1) := by decide +kernel
theorem d_M_getStripe_41 : decode M_M_getStripe.2.1 41 = .ok (.getfield 54, 3) := by decide +kernel
theorem d_M_getStripe_44 : decode M_M_getStripe.2.1 44 = .ok (.iload_n 3, 1) := by decide +kernel
theorem d_M_getStripe_45 : decode M_M_getStripe.2.1 45 = .ok (.iaload, 1) := by decide +kernel
theorem d_M_getStripe_46 : decode M_M_getStripe.2.1 46 = .ok (.iload 5, 2) := by decide +kernel
theorem d_M_getStripe_48 : decode M_M_getStripe.2.1 48 = .ok (.invokestatic 76, 3) := by decide +kernel
theorem d_M_getStripe_51 : decode M_M_getStripe.2.1 51 = .ok (.iastore, 1) := by decide +kernel
theorem d_M_getStripe_52 : decode M_M_getStripe.2.1 52 = .ok (.iinc 5 1, 3) := by decide +kernel
theorem d_M_getStripe_55 : decode M_M_getStripe.2.1 55 = .ok (.goto (-32), 3) := by decide +kernel
theorem d_M_getStripe_58 : decode M_M_getStripe.2.1 58 = .ok (.iconst 0, 1) := by decide +kernel
theorem d_M_getStripe_59 : decode M_M_getStripe.2.1 59 = .ok (.istore 5, 2) := by decide +kernel
theorem d_M_getStripe_61 : decode M_M_getStripe.2.1 61 = .ok (.iload 5, 2) := by decide +kernel
theorem d_M_getStripe_63 : decode M_M_getStripe.2.1 63 = .ok (.iconst 3, 1) := by decide +kernel
theorem d_M_getStripe_64 : decode M_M_getStripe.2.1 64 = .ok (.if_icmp .ge 45, 3) := by decide +kernel
theorem d_M_getStripe_67 : decode M_M_getStripe.2.1 67 = .ok (.aload_n 0, 1) := by decide +kernel
theorem d_M_getStripe_68 : decode M_M_getStripe.2.1 68 = .ok (.getfield 51, 3) := by decide +kernel
theorem d_M_getStripe_71 : decode M_M_getStripe.2.1 71 = .ok (.bipush 16, 2) := by decide +kernel
theorem d_M_getStripe_73 : decode M_M_getStripe.2.1 73 = .ok (.iload_n 3, 1) := by decide +kernel
theorem d_M_getStripe_74 : decode M_M_getStripe.2.1 74 = .ok (.imul, 1) := by decide +kernel
theorem d_M_getStripe_75 : decode M_M_getStripe.2.1 75 = .ok (.iconst 5, 1) := by decide +kernel
theorem d_M_getStripe_76 : decode M_M_getStripe.2.1 76 = .ok (.iadd, 1) := by decide +kernel
theorem d_M_getStripe_77 : decode M_M_getStripe.2.1 77 = .ok (.iload 5, 2) := by decide +kernel
theorem d_M_getStripe_79 : decode M_M_getStripe.2.1 79 = .ok (.iadd, 1) := by decide +kernel
theorem d_M_getStripe_80 : decode M_M_getStripe.2.1 80 = .ok (.aload_n 0, 1) := by decide +kernel
theorem d_M_getStripe_81 : decode M_M_getStripe.2.1 81 = .ok (.getfield 27, 3) := by decide +kernel
theorem d_M_getStripe_84 : decode M_M_getStripe.2.1 84 = .ok (.aload_n 0, 1) := by decide +kernel
theorem d_M_getStripe_85 : decode M_M_getStripe.2.1 85 = .ok (.aload_n 0, 1) := by decide +kernel
theorem d_M_getStripe_86 : decode M_M_getStripe.2.1 86 = .ok (.getfield 54, 3) := by decide +kernel
theorem d_M_getStripe_89 : decode M_M_getStripe.2.1 89 = .ok (.iload_n 3, 1) := by decide +kernel
theorem d_M_getStripe_90 : decode M_M_getStripe.2.1 90 = .ok (.iaload, 1) := by decide +kernel
theorem d_M_getStripe_91 : decode M_M_getStripe.2.1 91 = .ok (.iload 4, 2) := by decide +kernel
theorem d_M_getStripe_93 : decode M_M_getStripe.2.1 93 = .ok (.iload_n 2, 1) := by decide +kernel
theorem d_M_getStripe_94 : decode M_M_getStripe.2.1 94 = .ok (.iconst 5, 1) := by decide +kernel
theorem d_M_getStripe_95 : decode M_M_getStripe.2.1 95 = .ok (.iload 5, 2) := by decide +kernel
theorem d_M_getStripe_97 : decode M_M_getStripe.2.1 97 = .ok (.iadd, 1) := by decide +kernel
theorem d_M_getStripe_98 : decode M_M_getStripe.2.1 98 = .ok (.invokevirtual 103, 3) := by decide +kernel
theorem d_M_getStripe_101 : decode M_M_getStripe.2.1 101 = .ok (.iaload, 1) := by decide +kernel
theorem d_M_getStripe_102 : decode M_M_getStripe.2.1 102 = .ok (.iastore, 1) := by decide +kernel
theorem d_M_getStripe_103 : decode M_M_getStripe.2.1 103 = .ok (.iinc 5 1, 3) := by decide +kernel
theorem d_M_getStripe_106 : decode M_M_getStripe.2.1 106 = .ok (.goto (-45), 3) := by decide +kernel
theorem d_M_getStripe_109 : decode M_M_getStripe.2.1 109 = .ok (.iinc 3 1, 3) := by decide +kernel
theorem d_M_getStripe_112 : decode M_M_getStripe.2.1 112 = .ok (.goto (-110), 3) := by decide +kernel
theorem d_M_getStripe_115 : decode M_M_getStripe.2.1 115 = .ok (.aload_n 0, 1) := by decide +kernel
theorem d_M_getStripe_116 : decode M_M_getStripe.2.1 116 = .ok (.iconst 5, 1) := by decide +kernel
theorem d_M_getStripe_117 : decode M_M_getStripe.2.1 117 = .ok (.iconst 3, 1) := by decide +kernel
theorem d_M_getStripe_118 : decode M_M_getStripe.2.1 118 = .ok (.invokevirtual 137, 3) := by decide +kernel
theorem d_M_getStripe_121 : decode M_M_getStripe.2.1 121 = .ok (.iconst 0, 1) := by decide +kernel
theorem d_M_getStripe_122 : decode M_M_getStripe.2.1 122 = .ok (.istore_n 3, 1) := by decide +kernel
theorem d_M_getStripe_123 : decode M_M_getStripe.2.1 123 = .ok (.iload_n 3, 1) := by decide +kernel
theorem d_M_getStripe_124 : decode M_M_getStripe.2.1 124 = .ok (.iconst 5, 1) := by decide +kernel
theorem d_M_getStripe_125 : decode M_M_getStripe.2.1 125 = .ok (.if_icmp .ge 49, 3) := by decide +kernel
theorem d_M_getStripe_128 : decode M_M_getStripe.2.1 128 = .ok (.iconst 0, 1) := by decide +kernel
theorem d_M_getStripe_129 : decode M_M_getStripe.2.1 129 = .ok (.istore 4, 2) := by decide +kernel
theorem d_M_getStripe_131 : decode M_M_getStripe.2.1 131 = .ok (.iload 4, 2) := by decide +kernel
theorem d_M_getStripe_133 : decode M_M_getStripe.2.1 133 = .ok (.iconst 3, 1) := by decide +kernel
theorem d_M_getStripe_134 : decode M_M_getStripe.2.1 134 = .ok (.if_icmp .ge 34, 3) := by decide +kernel
theorem d_M_getStripe_137 : decode M_M_getStripe.2.1 137 = .ok (.aload_n 0, 1) := by decide +kernel
theorem d_M_getStripe_138 : decode M_M_getStripe.2.1 138 = .ok (.getfield 57, 3) := by decide +kernel
theorem d_M_getStripe_141 : decode M_M_getStripe.2.1 141 = .ok (.iconst 3, 1) := by decide +kernel
theorem d_M_getStripe_142 : decode M_M_getStripe.2.1 142 = .ok (.iload_n 3, 1) := by decide +kernel
theorem d_M_getStripe_143 : decode M_M_getStripe.2.1 143 = .ok (.imul, 1) := by decide +kernel
theorem d_M_getStripe_144 : decode M_M_getStripe.2.1 144 = .ok (.iload 4, 2) := by decide +kernel
theorem d_M_getStripe_146 : decode M_M_getStripe.2.1 146 = .ok (.iadd, 1) := by decide +kernel
theorem d_M_getStripe_147 : decode M_M_getStripe.2.1 147 = .ok (.aload_n 0, 1) := by decide +kernel
theorem d_M_getStripe_148 : decode M_M_getStripe.2.1 148 = .ok (.getfield 51, 3) := by decide +kernel
theorem d_M_getStripe_151 : decode M_M_getStripe.2.1 151 = .ok (.bipush 16, 2) := by decide +kernel
theorem d_M_getStripe_153 : decode M_M_getStripe.2.1 153 = .ok (.iload_n 3, 1) := by decide +kernel
theorem d_M_getStripe_154 : decode M_M_getStripe.2.1 154 = .ok (.imul, 1) := by decide +kernel
theorem d_M_getStripe_155 : decode M_M_getStripe.2.1 155 = .ok (.iconst 5, 1) := by decide +kernel
theorem d_M_getStripe_156 : decode M_M_getStripe.2.1 156 = .ok (.iadd, 1) := by decide +kernel
theorem d_M_getStripe_157 : decode M_M_getStripe.2.1 157 = .ok (.iload 4, 2) := by decide +kernel
theorem d_M_getStripe_159 : decode M_M_getStripe.2.1 159 = .ok (.iadd, 1) := by decide +kernel
theorem d_M_getStripe_160 : decode M_M_getStripe.2.1 160 = .ok (.iaload, 1) := by decide +kernel
theorem d_M_getStripe_161 : decode M_M_getStripe.2.1 161 = .ok (.iastore, 1) := by decide +kernel
theorem d_M_getStripe_162 : decode M_M_getStripe.2.1 162 = .ok (.iinc 4 1, 3) := by decide +kernel
theorem d_M_getStripe_165 : decode M_M_getStripe.2.1 165 = .ok (.goto (-34), 3) := by decide +kernel
theorem d_M_getStripe_168 : decode M_M_getStripe.2.1 168 = .ok (.iinc 3 1, 3) := by decide +kernel
theorem d_M_getStripe_171 : decode M_M_getStripe.2.1 171 = .ok (.goto (-48), 3) := by decide +kernel
theorem d_M_getStripe_174 : decode M_M_getStripe.2.1 174 = .ok (.iconst 0, 1) := by decide +kernel
theorem d_M_getStripe_175 : decode M_M_getStripe.2.1 175 = .ok (.istore_n 3, 1) := by decide +kernel
theorem d_M_getStripe_176 : decode M_M_getStripe.2.1 176 = .ok (.iload_n 3, 1) := by decide +kernel
theorem d_M_getStripe_177 : decode M_M_getStripe.2.1 177 = .ok (.iconst 5, 1) := by decide +kernel
theorem d_M_getStripe_178 : decode M_M_getStripe.2.1 178 = .ok (.if_icmp .ge 161, 3) := by decide +kernel
theorem d_M_getStripe_181 : decode M_M_getStripe.2.1 181 = .ok (.aload_n 0, 1) := by decide +kernel
theorem d_M_getStripe_182 : decode M_M_getStripe.2.1 182 = .ok (.getfield 54, 3) := by decide +kernel
theorem d_M_getStripe_185 : decode M_M_getStripe.2.1 185 = .ok (.iload_n 3, 1) := by decide +kernel
theorem d_M_getStripe_186 : decode M_M_getStripe.2.1 186 = .ok (.iaload, 1) := by decide +kernel
theorem d_M_getStripe_187 : decode M_M_getStripe.2.1 187 = .ok (.iload_n 1, 1) := by decide +kernel
theorem d_M_getStripe_188 : decode M_M_getStripe.2.1 188 = .ok (.iconst 0, 1) := by decide +kernel
theorem d_M_getStripe_189 : decode M_M_getStripe.2.1 189 = .ok (.invokestatic 79, 3) := by decide +kernel
theorem d_M_getStripe_192 : decode M_M_getStripe.2.1 192 = .ok (.istore 4, 2) := by decide +kernel
theorem d_M_getStripe_194 : decode M_M_getStripe.2.1 194 = .ok (.iconst 0, 1) := by decide +kernel
theorem d_M_getStripe_195 : decode M_M_getStripe.2.1 195 = .ok (.istore 5, 2) := by decide +kernel
theorem d_M_getStripe_197 : decode M_M_getStripe.2.1 197 = .ok (.iload 5, 2) := by decide +kernel
theorem d_M_getStripe_199 : decode M_M_getStripe.2.1 199 = .ok (.iconst 5, 1) := by decide +kernel
theorem d_M_getStripe_200 : decode M_M_getStripe.2.1 200 = .ok (.if_icmp .ge 32, 3) := by decide +kernel
theorem d_M_getStripe_203 : decode M_M_getStripe.2.1 203 = .ok (.aload_n 0, 1) := by decide +kernel
theorem d_M_getStripe_204 : decode M_M_getStripe.2.1 204 = .ok (.getfield 51, 3) := by decide +kernel
theorem d_M_getStripe_207 : decode M_M_getStripe.2.1 207 = .ok (.bipush 16, 2) := by decide +kernel
theorem d_M_getStripe_209 : decode M_M_getStripe.2.1 209 = .ok (.iload_n 3, 1) := by decide +kernel
theorem d_M_getStripe_210 : decode M_M_getStripe.2.1 210 = .ok (.imul, 1) := by decide +kernel
theorem d_M_getStripe_211 : decode M_M_getStripe.2.1 211 = .ok (.iload 5, 2) := by decide +kernel
theorem d_M_getStripe_213 : decode M_M_getStripe.2.1 213 = .ok (.iadd, 1) := by decide +kernel
theorem d_M_getStripe_214 : decode M_M_getStripe.2.1 214 = .ok (.aload_n 0, 1) := by decide +kernel
theorem d_M_getStripe_215 : decode M_M_getStripe.2.1 215 = .ok (.getfield 54, 3) := by decide +kernel
theorem d_M_getStripe_218 : decode M_M_getStripe.2.1 218 = .ok (.iload_n 3, 1) := by decide +kernel
theorem d_M_getStripe_219 : decode M_M_getStripe.2.1 219 = .ok (.iaload, 1) := by decide +kernel
theorem d_M_getStripe_220 : decode M_M_getStripe.2.1 220 = .ok (.iload 5, 2) := by decide +kernel
theorem d_M_getStripe_222 : decode M_M_getStripe.2.1 222 = .ok (.invokestatic 76, 3) := by decide +kernel
theorem d_M_getStripe_225 : decode M_M_getStripe.2.1 225 = .ok (.iastore, 1) := by decide +kernel
theorem d_M_getStripe_226 : decode M_M_getStripe.2.1 226 = .ok (.iinc 5 1, 3) := by decide +kernel
theorem d_M_getStripe_229 : decode M_M_getStripe.2.1 229 = .ok (.goto (-32), 3) := by decide +kernel
theorem d_M_getStripe_232 : decode M_M_getStripe.2.1 232 = .ok (.iconst 0, 1) := by decide +kernel
theorem d_M_getStripe_233 : decode M_M_getStripe.2.1 233 = .ok (.istore 5, 2) := by decide +kernel
theorem d_M_getStripe_235 : decode M_M_getStripe.2.1 235 = .ok (.iload 5, 2) := by decide +kernel
theorem d_M_getStripe_237 : decode M_M_getStripe.2.1 237 = .ok (.iconst 5, 1) := by decide +kernel
theorem d_M_getStripe_238 : decode M_M_getStripe.2.1 238 = .ok (.if_icmp .ge 95, 3) := by decide +kernel
theorem d_M_getStripe_241 : decode M_M_getStripe.2.1 241 = .ok (.aload_n 0, 1) := by decide +kernel
theorem d_M_getStripe_242 : decode M_M_getStripe.2.1 242 = .ok (.getfield 27, 3) := by decide +kernel
theorem d_M_getStripe_245 : decode M_M_getStripe.2.1 245 = .ok (.aload_n 0, 1) := by decide +kernel
theorem d_M_getStripe_246 : decode M_M_getStripe.2.1 246 = .ok (.aload_n 0, 1) := by decide +kernel
theorem d_M_getStripe_247 : decode M_M_getStripe.2.1 247 = .ok (.getfield 54, 3) := by decide +kernel
theorem d_M_getStripe_250 : decode M_M_getStripe.2.1 250 = .ok (.iload_n 3, 1) := by decide +kernel
theorem d_M_getStripe_251 : decode M_M_getStripe.2.1 251 = .ok (.iaload, 1) := by decide +kernel
theorem d_M_getStripe_252 : decode M_M_getStripe.2.1 252 = .ok (.iload 4, 2) := by decide +kernel
theorem d_M_getStripe_254 : decode M_M_getStripe.2.1 254 = .ok (.iload_n 2, 1) := by decide +kernel
theorem d_M_getStripe_255 : decode M_M_getStripe.2.1 255 = .ok (.iload 5, 2) := by decide +kernel
theorem d_M_getStripe_257 : decode M_M_getStripe.2.1 257 = .ok (.invokevirtual 103, 3) := by decide +kernel
theorem d_M_getStripe_260 : decode M_M_getStripe.2.1 260 = .ok (.iaload, 1) := by decide +kernel
theorem d_M_getStripe_261 : decode M_M_getStripe.2.1 261 = .ok (.istore 6, 2) := by decide +kernel
theorem d_M_getStripe_263 : decode M_M_getStripe.2.1 263 = .ok (.iconst 0, 1) := by decide +kernel
theorem d_M_getStripe_264 : decode M_M_getStripe.2.1 264 = .ok (.istore 7, 2) := by decide +kernel
theorem d_M_getStripe_266 : decode M_M_getStripe.2.1 266 = .ok (.iload 7, 2) := by decide +kernel
theorem d_M_getStripe_268 : decode M_M_getStripe.2.1 268 = .ok (.iconst 3, 1) := by decide +kernel
theorem d_M_getStripe_269 : decode M_M_getStripe.2.1 269 = .ok (.if_icmp .ge 42, 3) := by decide +kernel
theorem d_M_getStripe_272 : decode M_M_getStripe.2.1 272 = .ok (.iload 6, 2) := by decide +kernel
theorem d_M_getStripe_274 : decode M_M_getStripe.2.1 274 = .ok (.aload_n 0, 1) := by decide +kernel
theorem d_M_getStripe_275 : decode M_M_getStripe.2.1 275 = .ok (.getfield 54, 3) := by decide +kernel
theorem d_M_getStripe_278 : decode M_M_getStripe.2.1 278 = .ok (.iload_n 3, 1) := by decide +kernel
theorem d_M_getStripe_279 : decode M_M_getStripe.2.1 279 = .ok (.iaload, 1) := by decide +kernel
theorem d_M_getStripe_280 : decode M_M_getStripe.2.1 280 = .ok (.iconst 5, 1) := by decide +kernel
theorem d_M_getStripe_281 : decode M_M_getStripe.2.1 281 = .ok (.iload 7, 2) := by decide +kernel
theorem d_M_getStripe_283 : decode M_M_getStripe.2.1 283 = .ok (.iadd, 1) := by decide +kernel
theorem d_M_getStripe_284 : decode M_M_getStripe.2.1 284 = .ok (.invokestatic 76, 3) := by decide +kernel
theorem d_M_getStripe_287 : decode M_M_getStripe.2.1 287 = .ok (.aload_n 0, 1) := by decide +kernel
theorem d_M_getStripe_288 : decode M_M_getStripe.2.1 288 = .ok (.getfield 57, 3) := by decide +kernel
theorem d_M_getStripe_291 : decode M_M_getStripe.2.1 291 = .ok (.iconst 3, 1) := by decide +kernel
theorem d_M_getStripe_292 : decode M_M_getStripe.2.1 292 = .ok (.iload 5, 2) := by decide +kernel
theorem d_M_getStripe_294 : decode M_M_getStripe.2.1 294 = .ok (.imul, 1) := by decide +kernel
theorem d_M_getStripe_295 : decode M_M_getStripe.2.1 295 = .ok (.iload 7, 2) := by decide +kernel
theorem d_M_getStripe_297 : decode M_M_getStripe.2.1 297 = .ok (.iadd, 1) := by decide +kernel
theorem d_M_getStripe_298 : decode M_M_getStripe.2.1 298 = .ok (.iaload, 1) := by decide +kernel
theorem d_M_getStripe_299 : decode M_M_getStripe.2.1 299 = .ok (.invokestatic 64, 3) := by decide +kernel
theorem d_M_getStripe_302 : decode M_M_getStripe.2.1 302 = .ok (.ixor, 1) := by decide +kernel
theorem d_M_getStripe_303 : decode M_M_getStripe.2.1 303 = .ok (.istore 6, 2) := by decide +kernel
theorem d_M_getStripe_305 : decode M_M_getStripe.2.1 305 = .ok (.iinc 7 1, 3) := by decide +kernel
theorem d_M_getStripe_308 : decode M_M_getStripe.2.1 308 = .ok (.goto (-42), 3) := by decide +kernel
theorem d_M_getStripe_311 : decode M_M_getStripe.2.1 311 = .ok (.aload_n 0, 1) := by decide +kernel
theorem d_M_getStripe_312 : decode M_M_getStripe.2.1 312 = .ok (.getfield 51, 3) := by decide +kernel
theorem d_M_getStripe_315 : decode M_M_getStripe.2.1 315 = .ok (.bipush 16, 2) := by decide +kernel
theorem d_M_getStripe_317 : decode M_M_getStripe.2.1 317 = .ok (.iload_n 3, 1) := by decide +kernel
theorem d_M_getStripe_318 : decode M_M_getStripe.2.1 318 = .ok (.imul, 1) := by decide +kernel
theorem d_M_getStripe_319 : decode M_M_getStripe.2.1 319 = .ok (.iconst 5, 1) := by decide +kernel
theorem d_M_getStripe_320 : decode M_M_getStripe.2.1 320 = .ok (.iadd, 1) := by decide +kernel
theorem d_M_getStripe_321 : decode M_M_getStripe.2.1 321 = .ok (.iload 5, 2) := by decide +kernel
theorem d_M_getStripe_323 : decode M_M_getStripe.2.1 323 = .ok (.iadd, 1) := by decide +kernel
theorem d_M_getStripe_324 : decode M_M_getStripe.2.1 324 = .ok (.iload 6, 2) := by decide +kernel
theorem d_M_getStripe_326 : decode M_M_getStripe.2.1 326 = .ok (.iastore, 1) := by decide +kernel
theorem d_M_getStripe_327 : decode M_M_getStripe.2.1 327 = .ok (.iinc 5 1, 3) := by decide +kernel
theorem d_M_getStripe_330 : decode M_M_getStripe.2.1 330 = .ok (.goto (-95), 3) := by decide +kernel
theorem d_M_getStripe_333 : decode M_M_getStripe.2.1 333 = .ok (.iinc 3 1, 3) := by decide +kernel
theorem d_M_getStripe_336 : decode M_M_getStripe.2.1 336 = .ok (.goto (-160), 3) := by decide +kernel
theorem d_M_getStripe_339 : decode M_M_getStripe.2.1 339 = .ok (.aload_n 0, 1) := by decide +kernel
theorem d_M_getStripe_340 : decode M_M_getStripe.2.1 340 = .ok (.iconst 5, 1) := by decide +kernel
theorem d_M_getStripe_341 : decode M_M_getStripe.2.1 341 = .ok (.iconst 5, 1) := by decide +kernel
theorem d_M_getStripe_342 : decode M_M_getStripe.2.1 342 = .ok (.invokevirtual 137, 3) := by decide +kernel
theorem d_M_getStripe_345 : decode M_M_getStripe.2.1 345 = .ok (.bipush 30, 2) := by decide +kernel
theorem d_M_getStripe_347 : decode M_M_getStripe.2.1 347 = .ok (.iload_n 2, 1) := by decide +kernel
theorem d_M_getStripe_348 : decode M_M_getStripe.2.1 348 = .ok (.imul, 1) := by decide +kernel
theorem d_M_getStripe_349 : decode M_M_getStripe.2.1 349 = .ok (.istore_n 3, 1) := by decide +kernel
theorem d_M_getStripe_350 : decode M_M_getStripe.2.1 350 = .ok (.iconst 0, 1) := by decide +kernel
theorem d_M_getStripe_351 : decode M_M_getStripe.2.1 351 = .ok (.istore 4, 2) := by decide +kernel
theorem d_M_getStripe_353 : decode M_M_getStripe.2.1 353 = .ok (.iload 4, 2) := by decide +kernel
theorem d_M_getStripe_355 : decode M_M_getStripe.2.1 355 = .ok (.iconst 5, 1) := by decide +kernel
theorem d_M_getStripe_356 : decode M_M_getStripe.2.1 356 = .ok (.if_icmp .ge 49, 3) := by decide +kernel
theorem d_M_getStripe_359 : decode M_M_getStripe.2.1 359 = .ok (.iload 4, 2) := by decide +kernel
theorem d_M_getStripe_361 : decode M_M_getStripe.2.1 361 = .ok (.istore 5, 2) := by decide +kernel
theorem d_M_getStripe_363 : decode M_M_getStripe.2.1 363 = .ok (.iload 5, 2) := by decide +kernel
theorem d_M_getStripe_365 : decode M_M_getStripe.2.1 365 = .ok (.iconst 5, 1) := by decide +kernel
theorem d_M_getStripe_366 : decode M_M_getStripe.2.1 366 = .ok (.if_icmp .ge 33, 3) := by decide +kernel
theorem d_M_getStripe_369 : decode M_M_getStripe.2.1 369 = .ok (.aload_n 0, 1) := by decide +kernel
theorem d_M_getStripe_370 : decode M_M_getStripe.2.1 370 = .ok (.getfield 48, 3) := by decide +kernel
theorem d_M_getStripe_373 : decode M_M_getStripe.2.1 373 = .ok (.iload_n 3, 1) := by decide +kernel
theorem d_M_getStripe_374 : decode M_M_getStripe.2.1 374 = .ok (.aload_n 0, 1) := by decide +kernel
theorem d_M_getStripe_375 : decode M_M_getStripe.2.1 375 = .ok (.getfield 51, 3) := by decide +kernel
theorem d_M_getStripe_378 : decode M_M_getStripe.2.1 378 = .ok (.bipush 16, 2) := by decide +kernel
theorem d_M_getStripe_380 : decode M_M_getStripe.2.1 380 = .ok (.iload 4, 2) := by decide +kernel
theorem d_M_getStripe_382 : decode M_M_getStripe.2.1 382 = .ok (.imul, 1) := by decide +kernel
theorem d_M_getStripe_383 : decode M_M_getStripe.2.1 383 = .ok (.iconst 5, 1) := by decide +kernel
theorem d_M_getStripe_384 : decode M_M_getStripe.2.1 384 = .ok (.iadd, 1) := by decide +kernel
theorem d_M_getStripe_385 : decode M_M_getStripe.2.1 385 = .ok (.iload 5, 2) := by decide +kernel
theorem d_M_getStripe_387 : decode M_M_getStripe.2.1 387 = .ok (.iadd, 1) := by decide +kernel
theorem d_M_getStripe_388 : decode M_M_getStripe.2.1 388 = .ok (.iaload, 1) := by decide +kernel
theorem d_M_getStripe_389 : decode M_M_getStripe.2.1 389 = .ok (.iastore, 1) := by decide +kernel
theorem d_M_getStripe_390 : decode M_M_getStripe.2.1 390 = .ok (.iinc 3 1, 3) := by decide +kernel
theorem d_M_getStripe_393 : decode M_M_getStripe.2.1 393 = .ok (.iinc 5 1, 3) := by decide +kernel
theorem d_M_getStripe_396 : decode M_M_getStripe.2.1 396 = .ok (.goto (-33), 3) := by decide +kernel
theorem d_M_getStripe_399 : decode M_M_getStripe.2.1 399 = .ok (.iinc 4 1, 3) := by decide +kernel
theorem d_M_getStripe_402 : decode M_M_getStripe.2.1 402 = .ok (.goto (-49), 3) := by decide +kernel
theorem d_M_getStripe_405 : decode M_M_getStripe.2.1 405 = .ok (.iconst 0, 1) := by decide +kernel
theorem d_M_getStripe_406 : decode M_M_getStripe.2.1 406 = .ok (.istore 4, 2) := by decide +kernel
theorem d_M_getStripe_408 : decode M_M_getStripe.2.1 408 = .ok (.iload 4, 2) := by decide +kernel
theorem d_M_getStripe_410 : decode M_M_getStripe.2.1 410 = .ok (.bipush 15, 2) := by decide +kernel
theorem d_M_getStripe_412 : decode M_M_getStripe.2.1 412 = .ok (.if_icmp .ge 25, 3) := by decide +kernel
theorem d_M_getStripe_415 : decode M_M_getStripe.2.1 415 = .ok (.aload_n 0, 1) := by decide +kernel
theorem d_M_getStripe_416 : decode M_M_getStripe.2.1 416 = .ok (.getfield 48, 3) := by decide +kernel
theorem d_M_getStripe_419 : decode M_M_getStripe.2.1 419 = .ok (.iload_n 3, 1) := by decide +kernel
theorem d_M_getStripe_420 : decode M_M_getStripe.2.1 420 = .ok (.aload_n 0, 1) := by decide +kernel
theorem d_M_getStripe_421 : decode M_M_getStripe.2.1 421 = .ok (.getfield 57, 3) := by decide +kernel
theorem d_M_getStripe_424 : decode M_M_getStripe.2.1 424 = .ok (.iload 4, 2) := by decide +kernel
theorem d_M_getStripe_426 : decode M_M_getStripe.2.1 426 = .ok (.iaload, 1) := by decide +kernel
theorem d_M_getStripe_427 : decode M_M_getStripe.2.1 427 = .ok (.iastore, 1) := by decide +kernel
theorem d_M_getStripe_428 : decode M_M_getStripe.2.1 428 = .ok (.iinc 3 1, 3) := by decide +kernel
theorem d_M_getStripe_431 : decode M_M_getStripe.2.1 431 = .ok (.iinc 4 1, 3) := by decide +kernel
theorem d_M_getStripe_434 : decode M_M_getStripe.2.1 434 = .ok (.goto (-26), 3) := by decide +kernel
theorem d_M_getStripe_437 : decode M_M_getStripe.2.1 437 = .ok (.return_, 1) := by decide +kernel
theorem d_M_givesUp_0 : decode M_M_givesUp.2.1 0 = .ok (.iload_n 1, 1) := by decide +kernel
theorem d_M_givesUp_1 : decode M_M_givesUp.2.1 1 = .ok (.iload_n 2, 1) := by decide +kernel
theorem d_M_givesUp_2 : decode M_M_givesUp.2.1 2 = .ok (.iload_n 3, 1) := by decide +kernel
theorem d_M_givesUp_3 : decode M_M_givesUp.2.1 3 = .ok (.invokestatic 79, 3) := by decide +kernel
theorem d_M_givesUp_6 : decode M_M_givesUp.2.1 6 = .ok (.istore 4, 2) := by decide +kernel
theorem d_M_givesUp_8 : decode M_M_givesUp.2.1 8 = .ok (.iconst 0, 1) := by decide +kernel
theorem d_M_givesUp_9 : decode M_M_givesUp.2.1 9 = .ok (.istore 5, 2) := by decide +kernel
theorem d_M_givesUp_11 : decode M_M_givesUp.2.1 11 = .ok (.iload 5, 2) := by decide +kernel
theorem d_M_givesUp_13 : decode M_M_givesUp.2.1 13 = .ok (.aload_n 0, 1) := by decide +kernel
theorem d_M_givesUp_14 : decode M_M_givesUp.2.1 14 = .ok (.getfield 36, 3) := by decide +kernel
theorem d_M_givesUp_17 : decode M_M_givesUp.2.1 17 = .ok (.iload 4, 2) := by decide +kernel
theorem d_M_givesUp_19 : decode M_M_givesUp.2.1 19 = .ok (.iaload, 1) := by decide +kernel
theorem d_M_givesUp_20 : decode M_M_givesUp.2.1 20 = .ok (.invokestatic 83, 3) := by decide +kernel
theorem d_M_givesUp_23 : decode M_M_givesUp.2.1 23 = .ok (.if_icmp .ge 43, 3) := by decide +kernel
theorem d_M_givesUp_26 : decode M_M_givesUp.2.1 26 = .ok (.aload_n 0, 1) := by decide +kernel
theorem d_M_givesUp_27 : decode M_M_givesUp.2.1 27 = .ok (.getfield 30, 3) := by decide +kernel
theorem d_M_givesUp_30 : decode M_M_givesUp.2.1 30 = .ok (.iload 4, 2) := by decide +kernel
theorem d_M_givesUp_32 : decode M_M_givesUp.2.1 32 = .ok (.baload, 1) := by decide +kernel
theorem d_M_givesUp_33 : decode M_M_givesUp.2.1 33 = .ok (.ifCond .eq 33, 3) := by decide +kernel
theorem d_M_givesUp_36 : decode M_M_givesUp.2.1 36 = .ok (.aload_n 0, 1) := by decide +kernel
theorem d_M_givesUp_37 : decode M_M_givesUp.2.1 37 = .ok (.getfield 24, 3) := by decide +kernel
theorem d_M_givesUp_40 : decode M_M_givesUp.2.1 40 = .ok (.bipush 40, 2) := by decide +kernel
theorem d_M_givesUp_42 : decode M_M_givesUp.2.1 42 = .ok (.iload_n 1, 1) := by decide +kernel
theorem d_M_givesUp_43 : decode M_M_givesUp.2.1 43 = .ok (.imul, 1) := by decide +kernel
theorem d_M_givesUp_44 : decode M_M_givesUp.2.1 44 = .ok (.aload_n 0, 1) := by decide +kernel
theorem d_M_givesUp_45 : decode M_M_givesUp.2.1 45 = .ok (.getfield 39, 3) := by decide +kernel
theorem d_M_givesUp_48 : decode M_M_givesUp.2.1 48 = .ok (.bipush 8, 2) := by decide +kernel
theorem d_M_givesUp_50 : decode M_M_givesUp.2.1 50 = .ok (.iload 4, 2) := by decide +kernel
theorem d_M_givesUp_52 : decode M_M_givesUp.2.1 52 = .ok (.imul, 1) := by decide +kernel
theorem d_M_givesUp_53 : decode M_M_givesUp.2.1 53 = .ok (.iload 5, 2) := by decide +kernel
theorem d_M_givesUp_55 : decode M_M_givesUp.2.1 55 = .ok (.iadd, 1) := by decide +kernel
theorem d_M_givesUp_56 : decode M_M_givesUp.2.1 56 = .ok (.iaload, 1) := by decide +kernel
theorem d_M_givesUp_57 : decode M_M_givesUp.2.1 57 = .ok (.iadd, 1) := by decide +kernel
theorem d_M_givesUp_58 : decode M_M_givesUp.2.1 58 = .ok (.iconst 0, 1) := by decide +kernel
theorem d_M_givesUp_59 : decode M_M_givesUp.2.1 59 = .ok (.bastore, 1) := by decide +kernel
theorem d_M_givesUp_60 : decode M_M_givesUp.2.1 60 = .ok (.iinc 5 1, 3) := by decide +kernel
theorem d_M_givesUp_63 : decode M_M_givesUp.2.1 63 = .ok (.goto (-52), 3) := by decide +kernel
theorem d_M_givesUp_66 : decode M_M_givesUp.2.1 66 = .ok (.aload_n 0, 1) := by decide +kernel
theorem d_M_givesUp_67 : decode M_M_givesUp.2.1 67 = .ok (.getfield 30, 3) := by decide +kernel
theorem d_M_givesUp_70 : decode M_M_givesUp.2.1 70 = .ok (.iload 4, 2) := by decide +kernel
theorem d_M_givesUp_72 : decode M_M_givesUp.2.1 72 = .ok (.iconst 0, 1) := by decide +kernel
theorem d_M_givesUp_73 : decode M_M_givesUp.2.1 73 = .ok (.bastore, 1) := by decide +kernel
theorem d_M_givesUp_74 : decode M_M_givesUp.2.1 74 = .ok (.return_, 1) := by decide +kernel
theorem d_M_goes_0 : decode M_M_goes.2.1 0 = .ok (.aload_n 0, 1) := by decide +kernel
theorem d_M_goes_1 : decode M_M_goes.2.1 1 = .ok (.getfield 42, 3) := by decide +kernel
theorem d_M_goes_4 : decode M_M_goes.2.1 4 = .ok (.iload_n 1, 1) := by decide +kernel
theorem d_M_goes_5 : decode M_M_goes.2.1 5 = .ok (.dup2, 1) := by decide +kernel
theorem d_M_goes_6 : decode M_M_goes.2.1 6 = .ok (.iaload, 1) := by decide +kernel
theorem d_M_goes_7 : decode M_M_goes.2.1 7 = .ok (.iconst 1, 1) := by decide +kernel
theorem d_M_goes_8 : decode M_M_goes.2.1 8 = .ok (.iadd, 1) := by decide +kernel
theorem d_M_goes_9 : decode M_M_goes.2.1 9 = .ok (.iastore, 1) := by decide +kernel
theorem d_M_goes_10 : decode M_M_goes.2.1 10 = .ok (.iconst 2, 1) := by decide +kernel
theorem d_M_goes_11 : decode M_M_goes.2.1 11 = .ok (.aload_n 0, 1) := by decide +kernel
theorem d_M_goes_12 : decode M_M_goes.2.1 12 = .ok (.invokevirtual 107, 3) := by decide +kernel
theorem d_M_goes_15 : decode M_M_goes.2.1 15 = .ok (.imul, 1) := by decide +kernel
theorem d_M_goes_16 : decode M_M_goes.2.1 16 = .ok (.istore_n 2, 1) := by decide +kernel
theorem d_M_goes_17 : decode M_M_goes.2.1 17 = .ok (.aload_n 0, 1) := by decide +kernel
theorem d_M_goes_18 : decode M_M_goes.2.1 18 = .ok (.getfield 13, 3) := by decide +kernel
theorem d_M_goes_21 : decode M_M_goes.2.1 21 = .ok (.iconst (-1), 1) := by decide +kernel
theorem d_M_goes_22 : decode M_M_goes.2.1 22 = .ok (.if_icmp .eq 11, 3) := by decide +kernel
theorem d_M_goes_25 : decode M_M_goes.2.1 25 = .ok (.aload_n 0, 1) := by decide +kernel
theorem d_M_goes_26 : decode M_M_goes.2.1 26 = .ok (.getfield 13, 3) := by decide +kernel
theorem d_M_goes_29 : decode M_M_goes.2.1 29 = .ok (.iload_n 2, 1) := by decide +kernel
theorem d_M_goes_30 : decode M_M_goes.2.1 30 = .ok (.if_icmp .le 7, 3) := by decide +kernel
theorem d_M_goes_33 : decode M_M_goes.2.1 33 = .ok (.iload_n 2, 1) := by decide +kernel
theorem d_M_goes_34 : decode M_M_goes.2.1 34 = .ok (.goto 7, 3) := by decide +kernel
theorem d_M_goes_37 : decode M_M_goes.2.1 37 = .ok (.aload_n 0, 1) := by decide +kernel
theorem d_M_goes_38 : decode M_M_goes.2.1 38 = .ok (.getfield 13, 3) := by decide +kernel
theorem d_M_goes_41 : decode M_M_goes.2.1 41 = .ok (.istore_n 3, 1) := by decide +kernel
theorem d_M_goes_42 : decode M_M_goes.2.1 42 = .ok (.aload_n 0, 1) := by decide +kernel
theorem d_M_goes_43 : decode M_M_goes.2.1 43 = .ok (.iconst (-1), 1) := by decide +kernel
theorem d_M_goes_44 : decode M_M_goes.2.1 44 = .ok (.putfield 13, 3) := by decide +kernel
theorem d_M_goes_47 : decode M_M_goes.2.1 47 = .ok (.iconst 0, 1) := by decide +kernel
theorem d_M_goes_48 : decode M_M_goes.2.1 48 = .ok (.istore 4, 2) := by decide +kernel
theorem d_M_goes_50 : decode M_M_goes.2.1 50 = .ok (.iconst 0, 1) := by decide +kernel
theorem d_M_goes_51 : decode M_M_goes.2.1 51 = .ok (.istore 5, 2) := by decide +kernel
theorem d_M_goes_53 : decode M_M_goes.2.1 53 = .ok (.iload 5, 2) := by decide +kernel
theorem d_M_goes_55 : decode M_M_goes.2.1 55 = .ok (.bipush 12, 2) := by decide +kernel
theorem d_M_goes_57 : decode M_M_goes.2.1 57 = .ok (.if_icmp .ge 61, 3) := by decide +kernel
theorem d_M_goes_60 : decode M_M_goes.2.1 60 = .ok (.iload 4, 2) := by decide +kernel
theorem d_M_goes_62 : decode M_M_goes.2.1 62 = .ok (.iload_n 3, 1) := by decide +kernel
theorem d_M_goes_63 : decode M_M_goes.2.1 63 = .ok (.if_icmp .ge 55, 3) := by decide +kernel
theorem d_M_goes_66 : decode M_M_goes.2.1 66 = .ok (.aload_n 0, 1) := by decide +kernel
theorem d_M_goes_67 : decode M_M_goes.2.1 67 = .ok (.getfield 17, 3) := by decide +kernel
theorem d_M_goes_70 : decode M_M_goes.2.1 70 = .ok (.iload 5, 2) := by decide +kernel
theorem d_M_goes_72 : decode M_M_goes.2.1 72 = .ok (.baload, 1) := by decide +kernel
theorem d_M_goes_73 : decode M_M_goes.2.1 73 = .ok (.ifCond .ne 39, 3) := by decide +kernel
theorem d_M_goes_76 : decode M_M_goes.2.1 76 = .ok (.aload_n 0, 1) := by decide +kernel
theorem d_M_goes_77 : decode M_M_goes.2.1 77 = .ok (.iload 5, 2) := by decide +kernel
theorem d_M_goes_79 : decode M_M_goes.2.1 79 = .ok (.iload_n 1, 1) := by decide +kernel
theorem d_M_goes_80 : decode M_M_goes.2.1 80 = .ok (.iconst 1, 1) := by decide +kernel
theorem d_M_goes_81 : decode M_M_goes.2.1 81 = .ok (.invokevirtual 89, 3) := by decide +kernel
theorem d_M_goes_84 : decode M_M_goes.2.1 84 = .ok (.aload_n 0, 1) := by decide +kernel
theorem d_M_goes_85 : decode M_M_goes.2.1 85 = .ok (.iload 5, 2) := by decide +kernel
theorem d_M_goes_87 : decode M_M_goes.2.1 87 = .ok (.iload_n 1, 1) := by decide +kernel
theorem d_M_goes_88 : decode M_M_goes.2.1 88 = .ok (.iconst 1, 1) := by decide +kernel
theorem d_M_goes_89 : decode M_M_goes.2.1 89 = .ok (.aload_n 0, 1) := by decide +kernel
theorem d_M_goes_90 : decode M_M_goes.2.1 90 = .ok (.getfield 42, 3) := by decide +kernel
theorem d_M_goes_93 : decode M_M_goes.2.1 93 = .ok (.iload_n 1, 1) := by decide +kernel
theorem d_M_goes_94 : decode M_M_goes.2.1 94 = .ok (.iaload, 1) := by decide +kernel
theorem d_M_goes_95 : decode M_M_goes.2.1 95 = .ok (.aload_n 0, 1) := by decide +kernel
theorem d_M_goes_96 : decode M_M_goes.2.1 96 = .ok (.getfield 96, 3) := by decide +kernel
theorem d_M_goes_99 : decode M_M_goes.2.1 99 = .ok (.invokevirtual 111, 3) := by decide +kernel
theorem d_M_goes_102 : decode M_M_goes.2.1 102 = .ok (.aload_n 0, 1) := by decide +kernel
theorem d_M_goes_103 : decode M_M_goes.2.1 103 = .ok (.iload 5, 2) := by decide +kernel
theorem d_M_goes_105 : decode M_M_goes.2.1 105 = .ok (.iload_n 1, 1) := by decide +kernel
theorem d_M_goes_106 : decode M_M_goes.2.1 106 = .ok (.invokevirtual 115, 3) := by decide +kernel
theorem d_M_goes_109 : decode M_M_goes.2.1 109 = .ok (.iinc 4 1, 3) := by decide +kernel
theorem d_M_goes_112 : decode M_M_goes.2.1 112 = .ok (.iinc 5 1, 3) := by decide +kernel
theorem d_M_goes_115 : decode M_M_goes.2.1 115 = .ok (.goto (-62), 3) := by decide +kernel
theorem d_M_goes_118 : decode M_M_goes.2.1 118 = .ok (.iconst 0, 1) := by decide +kernel
theorem d_M_goes_119 : decode M_M_goes.2.1 119 = .ok (.istore 5, 2) := by decide +kernel
theorem d_M_goes_121 : decode M_M_goes.2.1 121 = .ok (.iload 5, 2) := by decide +kernel
theorem d_M_goes_123 : decode M_M_goes.2.1 123 = .ok (.bipush 12, 2) := by decide +kernel
theorem d_M_goes_125 : decode M_M_goes.2.1 125 = .ok (.if_icmp .ge 35, 3) := by decide +kernel
theorem d_M_goes_128 : decode M_M_goes.2.1 128 = .ok (.iload 4, 2) := by decide +kernel
theorem d_M_goes_130 : decode M_M_goes.2.1 130 = .ok (.iload_n 3, 1) := by decide +kernel
theorem d_M_goes_131 : decode M_M_goes.2.1 131 = .ok (.if_icmp .ge 29, 3) := by decide +kernel
theorem d_M_goes_134 : decode M_M_goes.2.1 134 = .ok (.aload_n 0, 1) := by decide +kernel
theorem d_M_goes_135 : decode M_M_goes.2.1 135 = .ok (.getfield 17, 3) := by decide +kernel
theorem d_M_goes_138 : decode M_M_goes.2.1 138 = .ok (.iload 5, 2) := by decide +kernel
theorem d_M_goes_140 : decode M_M_goes.2.1 140 = .ok (.baload, 1) := by decide +kernel
theorem d_M_goes_141 : decode M_M_goes.2.1 141 = .ok (.ifCond .ne 13, 3) := by decide +kernel
theorem d_M_goes_144 : decode M_M_goes.2.1 144 = .ok (.aload_n 0, 1) := by decide +kernel
theorem d_M_goes_145 : decode M_M_goes.2.1 145 = .ok (.iload 5, 2) := by decide +kernel
theorem d_M_goes_147 : decode M_M_goes.2.1 147 = .ok (.iload_n 1, 1) := by decide +kernel
theorem d_M_goes_148 : decode M_M_goes.2.1 148 = .ok (.invokevirtual 119, 3) := by decide +kernel
theorem d_M_goes_151 : decode M_M_goes.2.1 151 = .ok (.iinc 4 1, 3) := by decide +kernel
theorem d_M_goes_154 : decode M_M_goes.2.1 154 = .ok (.iinc 5 1, 3) := by decide +kernel
theorem d_M_goes_157 : decode M_M_goes.2.1 157 = .ok (.goto (-36), 3) := by decide +kernel
theorem d_M_goes_160 : decode M_M_goes.2.1 160 = .ok (.aload_n 0, 1) := by decide +kernel
theorem d_M_goes_161 : decode M_M_goes.2.1 161 = .ok (.dup, 1) := by decide +kernel
theorem d_M_goes_162 : decode M_M_goes.2.1 162 = .ok (.getfield 122, 3) := by decide +kernel
theorem d_M_goes_165 : decode M_M_goes.2.1 165 = .ok (.iload 4, 2) := by decide +kernel
theorem d_M_goes_167 : decode M_M_goes.2.1 167 = .ok (.iadd, 1) := by decide +kernel
theorem d_M_goes_168 : decode M_M_goes.2.1 168 = .ok (.putfield 122, 3) := by decide +kernel
theorem d_M_goes_171 : decode M_M_goes.2.1 171 = .ok (.aload_n 0, 1) := by decide +kernel
theorem d_M_goes_172 : decode M_M_goes.2.1 172 = .ok (.getfield 45, 3) := by decide +kernel
theorem d_M_goes_175 : decode M_M_goes.2.1 175 = .ok (.iload_n 1, 1) := by decide +kernel
theorem d_M_goes_176 : decode M_M_goes.2.1 176 = .ok (.iload 4, 2) := by decide +kernel
theorem d_M_goes_178 : decode M_M_goes.2.1 178 = .ok (.iload_n 2, 1) := by decide +kernel
theorem d_M_goes_179 : decode M_M_goes.2.1 179 = .ok (.if_icmp .ge 7, 3) := by decide +kernel
theorem d_M_goes_182 : decode M_M_goes.2.1 182 = .ok (.iconst 1, 1) := by decide +kernel
theorem d_M_goes_183 : decode M_M_goes.2.1 183 = .ok (.goto 4, 3) := by decide +kernel
theorem d_M_goes_186 : decode M_M_goes.2.1 186 = .ok (.iconst 0, 1) := by decide +kernel
theorem d_M_goes_187 : decode M_M_goes.2.1 187 = .ok (.bastore, 1) := by decide +kernel
theorem d_M_goes_188 : decode M_M_goes.2.1 188 = .ok (.aload_n 0, 1) := by decide +kernel
theorem d_M_goes_189 : decode M_M_goes.2.1 189 = .ok (.getfield 45, 3) := by decide +kernel
theorem d_M_goes_192 : decode M_M_goes.2.1 192 = .ok (.iload_n 1, 1) := by decide +kernel
theorem d_M_goes_193 : decode M_M_goes.2.1 193 = .ok (.baload, 1) := by decide +kernel
theorem d_M_goes_194 : decode M_M_goes.2.1 194 = .ok (.ifCond .eq 7, 3) := by decide +kernel
theorem d_M_goes_197 : decode M_M_goes.2.1 197 = .ok (.iconst 0, 1) := by decide +kernel
theorem d_M_goes_198 : decode M_M_goes.2.1 198 = .ok (.goto 9, 3) := by decide +kernel
theorem d_M_goes_201 : decode M_M_goes.2.1 201 = .ok (.aload_n 0, 1) := by decide +kernel
theorem d_M_goes_202 : decode M_M_goes.2.1 202 = .ok (.getfield 42, 3) := by decide +kernel
theorem d_M_goes_205 : decode M_M_goes.2.1 205 = .ok (.iload_n 1, 1) := by decide +kernel
theorem d_M_goes_206 : decode M_M_goes.2.1 206 = .ok (.iaload, 1) := by decide +kernel
theorem d_M_goes_207 : decode M_M_goes.2.1 207 = .ok (.ireturn, 1) := by decide +kernel
theorem d_M_got_0 : decode M_M_got.2.1 0 = .ok (.iload_n 1, 1) := by decide +kernel
theorem d_M_got_1 : decode M_M_got.2.1 1 = .ok (.iconst 0, 1) := by decide +kernel
theorem d_M_got_2 : decode M_M_got.2.1 2 = .ok (.aload_n 0, 1) := by decide +kernel
theorem d_M_got_3 : decode M_M_got.2.1 3 = .ok (.getfield 152, 3) := by decide +kernel
theorem d_M_got_6 : decode M_M_got.2.1 6 = .ok (.iconst 1, 1) := by decide +kernel
theorem d_M_got_7 : decode M_M_got.2.1 7 = .ok (.isub, 1) := by decide +kernel
theorem d_M_got_8 : decode M_M_got.2.1 8 = .ok (.invokestatic 60, 3) := by decide +kernel
theorem d_M_got_11 : decode M_M_got.2.1 11 = .ok (.ifCond .eq 12, 3) := by decide +kernel
theorem d_M_got_14 : decode M_M_got.2.1 14 = .ok (.aload_n 0, 1) := by decide +kernel
theorem d_M_got_15 : decode M_M_got.2.1 15 = .ok (.getfield 48, 3) := by decide +kernel
theorem d_M_got_18 : decode M_M_got.2.1 18 = .ok (.iload_n 1, 1) := by decide +kernel
theorem d_M_got_19 : decode M_M_got.2.1 19 = .ok (.iaload, 1) := by decide +kernel
theorem d_M_got_20 : decode M_M_got.2.1 20 = .ok (.goto 4, 3) := by decide +kernel
theorem d_M_got_23 : decode M_M_got.2.1 23 = .ok (.iconst (-1), 1) := by decide +kernel
theorem d_M_got_24 : decode M_M_got.2.1 24 = .ok (.ireturn, 1) := by decide +kernel
theorem d_M_in_0 : decode M_M_in.2.1 0 = .ok (.iload_n 0, 1) := by decide +kernel
theorem d_M_in_1 : decode M_M_in.2.1 1 = .ok (.iload_n 1, 1) := by decide +kernel
theorem d_M_in_2 : decode M_M_in.2.1 2 = .ok (.if_icmp .lt 12, 3) := by decide +kernel
theorem d_M_in_5 : decode M_M_in.2.1 5 = .ok (.iload_n 0, 1) := by decide +kernel
theorem d_M_in_6 : decode M_M_in.2.1 6 = .ok (.iload_n 2, 1) := by decide +kernel
theorem d_M_in_7 : decode M_M_in.2.1 7 = .ok (.if_icmp .gt 7, 3) := by decide +kernel
theorem d_M_in_10 : decode M_M_in.2.1 10 = .ok (.iconst 1, 1) := by decide +kernel
theorem d_M_in_11 : decode M_M_in.2.1 11 = .ok (.goto 4, 3) := by decide +kernel
theorem d_M_in_14 : decode M_M_in.2.1 14 = .ok (.iconst 0, 1) := by decide +kernel
theorem d_M_in_15 : decode M_M_in.2.1 15 = .ok (.ireturn, 1) := by decide +kernel
theorem d_M_init_0 : decode M_M_init.2.1 0 = .ok (.aload_n 0, 1) := by decide +kernel
theorem d_M_init_1 : decode M_M_init.2.1 1 = .ok (.invokespecial 1, 3) := by decide +kernel
theorem d_M_init_4 : decode M_M_init.2.1 4 = .ok (.aload_n 0, 1) := by decide +kernel
theorem d_M_init_5 : decode M_M_init.2.1 5 = .ok (.sipush 240, 3) := by decide +kernel
theorem d_M_init_8 : decode M_M_init.2.1 8 = .ok (.newarray .int, 2) := by decide +kernel
theorem d_M_init_10 : decode M_M_init.2.1 10 = .ok (.putfield 7, 3) := by decide +kernel
theorem d_M_init_13 : decode M_M_init.2.1 13 = .ok (.aload_n 0, 1) := by decide +kernel
theorem d_M_init_14 : decode M_M_init.2.1 14 = .ok (.iconst (-1), 1) := by decide +kernel
theorem d_M_init_15 : decode M_M_init.2.1 15 = .ok (.putfield 13, 3) := by decide +kernel
theorem d_M_init_18 : decode M_M_init.2.1 18 = .ok (.aload_n 0, 1) := by decide +kernel
theorem d_M_init_19 : decode M_M_init.2.1 19 = .ok (.bipush 12, 2) := by decide +kernel
theorem d_M_init_21 : decode M_M_init.2.1 21 = .ok (.newarray .boolean, 2) := by decide +kernel
theorem d_M_init_23 : decode M_M_init.2.1 23 = .ok (.putfield 17, 3) := by decide +kernel
theorem d_M_init_26 : decode M_M_init.2.1 26 = .ok (.aload_n 0, 1) := by decide +kernel
theorem d_M_init_27 : decode M_M_init.2.1 27 = .ok (.bipush 12, 2) := by decide +kernel
theorem d_M_init_29 : decode M_M_init.2.1 29 = .ok (.newarray .int, 2) := by decide +kernel
theorem d_M_init_31 : decode M_M_init.2.1 31 = .ok (.putfield 21, 3) := by decide +kernel
theorem d_M_init_34 : decode M_M_init.2.1 34 = .ok (.aload_n 0, 1) := by decide +kernel
theorem d_M_init_35 : decode M_M_init.2.1 35 = .ok (.sipush 480, 3) := by decide +kernel
theorem d_M_init_38 : decode M_M_init.2.1 38 = .ok (.newarray .boolean, 2) := by decide +kernel
theorem d_M_init_40 : decode M_M_init.2.1 40 = .ok (.putfield 24, 3) := by decide +kernel
theorem d_M_init_43 : decode M_M_init.2.1 43 = .ok (.aload_n 0, 1) := by decide +kernel
theorem d_M_init_44 : decode M_M_init.2.1 44 = .ok (.sipush 3840, 3) := by decide +kernel
theorem d_M_init_47 : decode M_M_init.2.1 47 = .ok (.newarray .int, 2) := by decide +kernel
theorem d_M_init_49 : decode M_M_init.2.1 49 = .ok (.putfield 27, 3) := by decide +kernel
theorem d_M_init_52 : decode M_M_init.2.1 52 = .ok (.aload_n 0, 1) := by decide +kernel
theorem d_M_init_53 : decode M_M_init.2.1 53 = .ok (.sipush 144, 3) := by decide +kernel
theorem d_M_init_56 : decode M_M_init.2.1 56 = .ok (.newarray .boolean, 2) := by decide +kernel
theorem d_M_init_58 : decode M_M_init.2.1 58 = .ok (.putfield 30, 3) := by decide +kernel
theorem d_M_init_61 : decode M_M_init.2.1 61 = .ok (.aload_n 0, 1) := by decide +kernel
theorem d_M_init_62 : decode M_M_init.2.1 62 = .ok (.sipush 144, 3) := by decide +kernel
theorem d_M_init_65 : decode M_M_init.2.1 65 = .ok (.newarray .int, 2) := by decide +kernel
theorem d_M_init_67 : decode M_M_init.2.1 67 = .ok (.putfield 33, 3) := by decide +kernel
theorem d_M_init_70 : decode M_M_init.2.1 70 = .ok (.aload_n 0, 1) := by decide +kernel
theorem d_M_init_71 : decode M_M_init.2.1 71 = .ok (.sipush 144, 3) := by decide +kernel
theorem d_M_init_74 : decode M_M_init.2.1 74 = .ok (.newarray .int, 2) := by decide +kernel
theorem d_M_init_76 : decode M_M_init.2.1 76 = .ok (.putfield 36, 3) := by decide +kernel
theorem d_M_init_79 : decode M_M_init.2.1 79 = .ok (.aload_n 0, 1) := by decide +kernel
theorem d_M_init_80 : decode M_M_init.2.1 80 = .ok (.sipush 1152, 3) := by decide +kernel
theorem d_M_init_83 : decode M_M_init.2.1 83 = .ok (.newarray .int, 2) := by decide +kernel
theorem d_M_init_85 : decode M_M_init.2.1 85 = .ok (.putfield 39, 3) := by decide +kernel
theorem d_M_init_88 : decode M_M_init.2.1 88 = .ok (.aload_n 0, 1) := by decide +kernel
theorem d_M_init_89 : decode M_M_init.2.1 89 = .ok (.bipush 6, 2) := by decide +kernel
theorem d_M_init_91 : decode M_M_init.2.1 91 = .ok (.newarray .int, 2) := by decide +kernel
theorem d_M_init_93 : decode M_M_init.2.1 93 = .ok (.putfield 42, 3) := by decide +kernel
theorem d_M_init_96 : decode M_M_init.2.1 96 = .ok (.aload_n 0, 1) := by decide +kernel
theorem d_M_init_97 : decode M_M_init.2.1 97 = .ok (.bipush 6, 2) := by decide +kernel
theorem d_M_init_99 : decode M_M_init.2.1 99 = .ok (.newarray .boolean, 2) := by decide +kernel
theorem d_M_init_101 : decode M_M_init.2.1 101 = .ok (.putfield 45, 3) := by decide +kernel
theorem d_M_init_104 : decode M_M_init.2.1 104 = .ok (.aload_n 0, 1) := by decide +kernel
theorem d_M_init_105 : decode M_M_init.2.1 105 = .ok (.sipush 240, 3) := by decide +kernel
theorem d_M_init_108 : decode M_M_init.2.1 108 = .ok (.newarray .int, 2) := by decide +kernel
theorem d_M_init_110 : decode M_M_init.2.1 110 = .ok (.putfield 48, 3) := by decide +kernel
theorem d_M_init_113 : decode M_M_init.2.1 113 = .ok (.aload_n 0, 1) := by decide +kernel
theorem d_M_init_114 : decode M_M_init.2.1 114 = .ok (.sipush 128, 3) := by decide +kernel
theorem d_M_init_117 : decode M_M_init.2.1 117 = .ok (.newarray .int, 2) := by decide +kernel
theorem d_M_init_119 : decode M_M_init.2.1 119 = .ok (.putfield 51, 3) := by decide +kernel
theorem d_M_init_122 : decode M_M_init.2.1 122 = .ok (.aload_n 0, 1) := by decide +kernel
theorem d_M_init_123 : decode M_M_init.2.1 123 = .ok (.bipush 8, 2) := by decide +kernel
theorem d_M_init_125 : decode M_M_init.2.1 125 = .ok (.newarray .int, 2) := by decide +kernel
theorem d_M_init_127 : decode M_M_init.2.1 127 = .ok (.putfield 54, 3) := by decide +kernel
theorem d_M_init_130 : decode M_M_init.2.1 130 = .ok (.aload_n 0, 1) := by decide +kernel
theorem d_M_init_131 : decode M_M_init.2.1 131 = .ok (.bipush 15, 2) := by decide +kernel
theorem d_M_init_133 : decode M_M_init.2.1 133 = .ok (.newarray .int, 2) := by decide +kernel
theorem d_M_init_135 : decode M_M_init.2.1 135 = .ok (.putfield 57, 3) := by decide +kernel
theorem d_M_init_138 : decode M_M_init.2.1 138 = .ok (.return_, 1) := by decide +kernel
theorem d_M_inverse_0 : decode M_M_inverse.2.1 0 = .ok (.iconst 1, 1) := by decide +kernel
theorem d_M_inverse_1 : decode M_M_inverse.2.1 1 = .ok (.istore_n 1, 1) := by decide +kernel
theorem d_M_inverse_2 : decode M_M_inverse.2.1 2 = .ok (.iconst 0, 1) := by decide +kernel
theorem d_M_inverse_3 : decode M_M_inverse.2.1 3 = .ok (.istore_n 2, 1) := by decide +kernel
theorem d_M_inverse_4 : decode M_M_inverse.2.1 4 = .ok (.iload_n 2, 1) := by decide +kernel
theorem d_M_inverse_5 : decode M_M_inverse.2.1 5 = .ok (.sipush 254, 3) := by decide +kernel
theorem d_M_inverse_8 : decode M_M_inverse.2.1 8 = .ok (.if_icmp .ge 15, 3) := by decide +kernel
theorem d_M_inverse_11 : decode M_M_inverse.2.1 11 = .ok (.iload_n 1, 1) := by decide +kernel
theorem d_M_inverse_12 : decode M_M_inverse.2.1 12 = .ok (.iload_n 0, 1) := by decide +kernel
theorem d_M_inverse_13 : decode M_M_inverse.2.1 13 = .ok (.invokestatic 64, 3) := by decide +kernel
theorem d_M_inverse_16 : decode M_M_inverse.2.1 16 = .ok (.istore_n 1, 1) := by decide +kernel
theorem d_M_inverse_17 : decode M_M_inverse.2.1 17 = .ok (.iinc 2 1, 3) := by decide +kernel
theorem d_M_inverse_20 : decode M_M_inverse.2.1 20 = .ok (.goto (-16), 3) := by decide +kernel
theorem d_M_inverse_23 : decode M_M_inverse.2.1 23 = .ok (.iload_n 1, 1) := by decide +kernel
theorem d_M_inverse_24 : decode M_M_inverse.2.1 24 = .ok (.ireturn, 1) := by decide +kernel
theorem d_M_isFresh_0 : decode M_M_isFresh.2.1 0 = .ok (.iload_n 1, 1) := by decide +kernel
theorem d_M_isFresh_1 : decode M_M_isFresh.2.1 1 = .ok (.iload_n 2, 1) := by decide +kernel
theorem d_M_isFresh_2 : decode M_M_isFresh.2.1 2 = .ok (.iconst 0, 1) := by decide +kernel
theorem d_M_isFresh_3 : decode M_M_isFresh.2.1 3 = .ok (.invokestatic 79, 3) := by decide +kernel
theorem d_M_isFresh_6 : decode M_M_isFresh.2.1 6 = .ok (.istore 4, 2) := by decide +kernel
theorem d_M_isFresh_8 : decode M_M_isFresh.2.1 8 = .ok (.iload_n 3, 1) := by decide +kernel
theorem d_M_isFresh_9 : decode M_M_isFresh.2.1 9 = .ok (.ifCond .le 37, 3) := by decide +kernel
theorem d_M_isFresh_12 : decode M_M_isFresh.2.1 12 = .ok (.aload_n 0, 1) := by decide +kernel
theorem d_M_isFresh_13 : decode M_M_isFresh.2.1 13 = .ok (.getfield 17, 3) := by decide +kernel
theorem d_M_isFresh_16 : decode M_M_isFresh.2.1 16 = .ok (.iload_n 1, 1) := by decide +kernel
theorem d_M_isFresh_17 : decode M_M_isFresh.2.1 17 = .ok (.baload, 1) := by decide +kernel
theorem d_M_isFresh_18 : decode M_M_isFresh.2.1 18 = .ok (.ifCond .ne 28, 3) := by decide +kernel
theorem d_M_isFresh_21 : decode M_M_isFresh.2.1 21 = .ok (.aload_n 0, 1) := by decide +kernel
theorem d_M_isFresh_22 : decode M_M_isFresh.2.1 22 = .ok (.getfield 30, 3) := by decide +kernel
theorem d_M_isFresh_25 : decode M_M_isFresh.2.1 25 = .ok (.iload 4, 2) := by decide +kernel
theorem d_M_isFresh_27 : decode M_M_isFresh.2.1 27 = .ok (.baload, 1) := by decide +kernel
theorem d_M_isFresh_28 : decode M_M_isFresh.2.1 28 = .ok (.ifCond .eq 18, 3) := by decide +kernel
theorem d_M_isFresh_31 : decode M_M_isFresh.2.1 31 = .ok (.aload_n 0, 1) := by decide +kernel
theorem d_M_isFresh_32 : decode M_M_isFresh.2.1 32 = .ok (.getfield 33, 3) := by decide +kernel
theorem d_M_isFresh_35 : decode M_M_isFresh.2.1 35 = .ok (.iload 4, 2) := by decide +kernel
theorem d_M_isFresh_37 : decode M_M_isFresh.2.1 37 = .ok (.iaload, 1) := by decide +kernel
theorem d_M_isFresh_38 : decode M_M_isFresh.2.1 38 = .ok (.iload_n 3, 1) := by decide +kernel
theorem d_M_isFresh_39 : decode M_M_isFresh.2.1 39 = .ok (.if_icmp .ne 7, 3) := by decide +kernel
theorem d_M_isFresh_42 : decode M_M_isFresh.2.1 42 = .ok (.iconst 1, 1) := by decide +kernel
theorem d_M_isFresh_43 : decode M_M_isFresh.2.1 43 = .ok (.goto 4, 3) := by decide +kernel
theorem d_M_isFresh_46 : decode M_M_isFresh.2.1 46 = .ok (.iconst 0, 1) := by decide +kernel
theorem d_M_isFresh_47 : decode M_M_isFresh.2.1 47 = .ok (.ireturn, 1) := by decide +kernel
theorem d_M_isNode_0 : decode M_M_isNode.2.1 0 = .ok (.iload_n 0, 1) := by decide +kernel
theorem d_M_isNode_1 : decode M_M_isNode.2.1 1 = .ok (.iconst 0, 1) := by decide +kernel
theorem d_M_isNode_2 : decode M_M_isNode.2.1 2 = .ok (.bipush 11, 2) := by decide +kernel
theorem d_M_isNode_4 : decode M_M_isNode.2.1 4 = .ok (.invokestatic 60, 3) := by decide +kernel
theorem d_M_isNode_7 : decode M_M_isNode.2.1 7 = .ok (.ireturn, 1) := by decide +kernel
theorem d_M_isObject_0 : decode M_M_isObject.2.1 0 = .ok (.iload_n 0, 1) := by decide +kernel
theorem d_M_isObject_1 : decode M_M_isObject.2.1 1 = .ok (.iconst 0, 1) := by decide +kernel
theorem d_M_isObject_2 : decode M_M_isObject.2.1 2 = .ok (.iconst 5, 1) := by decide +kernel
theorem d_M_isObject_3 : decode M_M_isObject.2.1 3 = .ok (.invokestatic 60, 3) := by decide +kernel
theorem d_M_isObject_6 : decode M_M_isObject.2.1 6 = .ok (.ireturn, 1) := by decide +kernel
theorem d_M_leastFree_0 : decode M_M_leastFree.2.1 0 = .ok (.iconst 0, 1) := by decide +kernel
theorem d_M_leastFree_1 : decode M_M_leastFree.2.1 1 = .ok (.istore_n 2, 1) := by decide +kernel
theorem d_M_leastFree_2 : decode M_M_leastFree.2.1 2 = .ok (.aload_n 0, 1) := by decide +kernel
theorem d_M_leastFree_3 : decode M_M_leastFree.2.1 3 = .ok (.getfield 24, 3) := by decide +kernel
theorem d_M_leastFree_6 : decode M_M_leastFree.2.1 6 = .ok (.bipush 40, 2) := by decide +kernel
theorem d_M_leastFree_8 : decode M_M_leastFree.2.1 8 = .ok (.iload_n 1, 1) := by decide +kernel
theorem d_M_leastFree_9 : decode M_M_leastFree.2.1 9 = .ok (.imul, 1) := by decide +kernel
theorem d_M_leastFree_10 : decode M_M_leastFree.2.1 10 = .ok (.iload_n 2, 1) := by decide +kernel
theorem d_M_leastFree_11 : decode M_M_leastFree.2.1 11 = .ok (.iadd, 1) := by decide +kernel
theorem d_M_leastFree_12 : decode M_M_leastFree.2.1 12 = .ok (.baload, 1) := by decide +kernel
theorem d_M_leastFree_13 : decode M_M_leastFree.2.1 13 = .ok (.ifCond .eq 9, 3) := by decide +kernel
theorem d_M_leastFree_16 : decode M_M_leastFree.2.1 16 = .ok (.iinc 2 1, 3) := by decide +kernel
theorem d_M_leastFree_19 : decode M_M_leastFree.2.1 19 = .ok (.goto (-17), 3) := by decide +kernel
theorem d_M_leastFree_22 : decode M_M_leastFree.2.1 22 = .ok (.iload_n 2, 1) := by decide +kernel
theorem d_M_leastFree_23 : decode M_M_leastFree.2.1 23 = .ok (.ireturn, 1) := by decide +kernel
theorem d_M_live_0 : decode M_M_live.2.1 0 = .ok (.iconst 0, 1) := by decide +kernel
theorem d_M_live_1 : decode M_M_live.2.1 1 = .ok (.istore_n 1, 1) := by decide +kernel
theorem d_M_live_2 : decode M_M_live.2.1 2 = .ok (.iconst 0, 1) := by decide +kernel
theorem d_M_live_3 : decode M_M_live.2.1 3 = .ok (.istore_n 2, 1) := by decide +kernel
theorem d_M_live_4 : decode M_M_live.2.1 4 = .ok (.iload_n 2, 1) := by decide +kernel
theorem d_M_live_5 : decode M_M_live.2.1 5 = .ok (.bipush 12, 2) := by decide +kernel
theorem d_M_live_7 : decode M_M_live.2.1 7 = .ok (.if_icmp .ge 26, 3) := by decide +kernel
theorem d_M_live_10 : decode M_M_live.2.1 10 = .ok (.iload_n 1, 1) := by decide +kernel
theorem d_M_live_11 : decode M_M_live.2.1 11 = .ok (.aload_n 0, 1) := by decide +kernel
theorem d_M_live_12 : decode M_M_live.2.1 12 = .ok (.getfield 17, 3) := by decide +kernel
theorem d_M_live_15 : decode M_M_live.2.1 15 = .ok (.iload_n 2, 1) := by decide +kernel
theorem d_M_live_16 : decode M_M_live.2.1 16 = .ok (.baload, 1) := by decide +kernel
theorem d_M_live_17 : decode M_M_live.2.1 17 = .ok (.ifCond .eq 7, 3) := by decide +kernel
theorem d_M_live_20 : decode M_M_live.2.1 20 = .ok (.iconst 0, 1) := by decide +kernel
theorem d_M_live_21 : decode M_M_live.2.1 21 = .ok (.goto 4, 3) := by decide +kernel
theorem d_M_live_24 : decode M_M_live.2.1 24 = .ok (.iconst 1, 1) := by decide +kernel
theorem d_M_live_25 : decode M_M_live.2.1 25 = .ok (.iadd, 1) := by decide +kernel
theorem d_M_live_26 : decode M_M_live.2.1 26 = .ok (.istore_n 1, 1) := by decide +kernel
theorem d_M_live_27 : decode M_M_live.2.1 27 = .ok (.iinc 2 1, 3) := by decide +kernel
theorem d_M_live_30 : decode M_M_live.2.1 30 = .ok (.goto (-26), 3) := by decide +kernel
theorem d_M_live_33 : decode M_M_live.2.1 33 = .ok (.iload_n 1, 1) := by decide +kernel
theorem d_M_live_34 : decode M_M_live.2.1 34 = .ok (.ireturn, 1) := by decide +kernel
theorem d_M_matrix_0 : decode M_M_matrix.2.1 0 = .ok (.iload_n 2, 1) := by decide +kernel
theorem d_M_matrix_1 : decode M_M_matrix.2.1 1 = .ok (.iload_n 3, 1) := by decide +kernel
theorem d_M_matrix_2 : decode M_M_matrix.2.1 2 = .ok (.if_icmp .ge 7, 3) := by decide +kernel
theorem d_M_matrix_5 : decode M_M_matrix.2.1 5 = .ok (.iload_n 2, 1) := by decide +kernel
theorem d_M_matrix_6 : decode M_M_matrix.2.1 6 = .ok (.goto 4, 3) := by decide +kernel
theorem d_M_matrix_9 : decode M_M_matrix.2.1 9 = .ok (.iload_n 3, 1) := by decide +kernel
theorem d_M_matrix_10 : decode M_M_matrix.2.1 10 = .ok (.istore 4, 2) := by decide +kernel
theorem d_M_matrix_12 : decode M_M_matrix.2.1 12 = .ok (.iload_n 2, 1) := by decide +kernel
theorem d_M_matrix_13 : decode M_M_matrix.2.1 13 = .ok (.iload_n 3, 1) := by decide +kernel
theorem d_M_matrix_14 : decode M_M_matrix.2.1 14 = .ok (.if_icmp .ge 7, 3) := by decide +kernel
theorem d_M_matrix_17 : decode M_M_matrix.2.1 17 = .ok (.iload_n 3, 1) := by decide +kernel
theorem d_M_matrix_18 : decode M_M_matrix.2.1 18 = .ok (.goto 4, 3) := by decide +kernel
theorem d_M_matrix_21 : decode M_M_matrix.2.1 21 = .ok (.iload_n 2, 1) := by decide +kernel
theorem d_M_matrix_22 : decode M_M_matrix.2.1 22 = .ok (.istore 5, 2) := by decide +kernel
theorem d_M_matrix_24 : decode M_M_matrix.2.1 24 = .ok (.iload 4, 2) := by decide +kernel
theorem d_M_matrix_26 : decode M_M_matrix.2.1 26 = .ok (.iconst 4, 1) := by decide +kernel
theorem d_M_matrix_27 : decode M_M_matrix.2.1 27 = .ok (.if_icmp .le 5, 3) := by decide +kernel
theorem d_M_matrix_30 : decode M_M_matrix.2.1 30 = .ok (.iconst 0, 1) := by decide +kernel
theorem d_M_matrix_31 : decode M_M_matrix.2.1 31 = .ok (.ireturn, 1) := by decide +kernel
theorem d_M_matrix_32 : decode M_M_matrix.2.1 32 = .ok (.iload 5, 2) := by decide +kernel
theorem d_M_matrix_34 : decode M_M_matrix.2.1 34 = .ok (.iconst 5, 1) := by decide +kernel
theorem d_M_matrix_35 : decode M_M_matrix.2.1 35 = .ok (.if_icmp .ge 26, 3) := by decide +kernel
theorem d_M_matrix_38 : decode M_M_matrix.2.1 38 = .ok (.iconst 5, 1) := by decide +kernel
theorem d_M_matrix_39 : decode M_M_matrix.2.1 39 = .ok (.iload 4, 2) := by decide +kernel
theorem d_M_matrix_41 : decode M_M_matrix.2.1 41 = .ok (.imul, 1) := by decide +kernel
theorem d_M_matrix_42 : decode M_M_matrix.2.1 42 = .ok (.iload 4, 2) := by decide +kernel
theorem d_M_matrix_44 : decode M_M_matrix.2.1 44 = .ok (.iload 4, 2) := by decide +kernel
theorem d_M_matrix_46 : decode M_M_matrix.2.1 46 = .ok (.iconst 1, 1) := by decide +kernel
theorem d_M_matrix_47 : decode M_M_matrix.2.1 47 = .ok (.isub, 1) := by decide +kernel
theorem d_M_matrix_48 : decode M_M_matrix.2.1 48 = .ok (.imul, 1) := by decide +kernel
theorem d_M_matrix_49 : decode M_M_matrix.2.1 49 = .ok (.iconst 2, 1) := by decide +kernel
theorem d_M_matrix_50 : decode M_M_matrix.2.1 50 = .ok (.idiv, 1) := by decide +kernel
theorem d_M_matrix_51 : decode M_M_matrix.2.1 51 = .ok (.isub, 1) := by decide +kernel
theorem d_M_matrix_52 : decode M_M_matrix.2.1 52 = .ok (.iload 5, 2) := by decide +kernel
theorem d_M_matrix_54 : decode M_M_matrix.2.1 54 = .ok (.iadd, 1) := by decide +kernel
theorem d_M_matrix_55 : decode M_M_matrix.2.1 55 = .ok (.iload 4, 2) := by decide +kernel
theorem d_M_matrix_57 : decode M_M_matrix.2.1 57 = .ok (.isub, 1) := by decide +kernel
theorem d_M_matrix_58 : decode M_M_matrix.2.1 58 = .ok (.goto 15, 3) := by decide +kernel
theorem d_M_matrix_61 : decode M_M_matrix.2.1 61 = .ok (.bipush 15, 2) := by decide +kernel
theorem d_M_matrix_63 : decode M_M_matrix.2.1 63 = .ok (.iconst 3, 1) := by decide +kernel
theorem d_M_matrix_64 : decode M_M_matrix.2.1 64 = .ok (.iload 4, 2) := by decide +kernel
theorem d_M_matrix_66 : decode M_M_matrix.2.1 66 = .ok (.imul, 1) := by decide +kernel
theorem d_M_matrix_67 : decode M_M_matrix.2.1 67 = .ok (.iadd, 1) := by decide +kernel
theorem d_M_matrix_68 : decode M_M_matrix.2.1 68 = .ok (.iload 5, 2) := by decide +kernel
theorem d_M_matrix_70 : decode M_M_matrix.2.1 70 = .ok (.iadd, 1) := by decide +kernel
theorem d_M_matrix_71 : decode M_M_matrix.2.1 71 = .ok (.iconst 5, 1) := by decide +kernel
theorem d_M_matrix_72 : decode M_M_matrix.2.1 72 = .ok (.isub, 1) := by decide +kernel
theorem d_M_matrix_73 : decode M_M_matrix.2.1 73 = .ok (.istore 6, 2) := by decide +kernel
theorem d_M_matrix_75 : decode M_M_matrix.2.1 75 = .ok (.bipush 30, 2) := by decide +kernel
theorem d_M_matrix_77 : decode M_M_matrix.2.1 77 = .ok (.iload_n 1, 1) := by decide +kernel
theorem d_M_matrix_78 : decode M_M_matrix.2.1 78 = .ok (.imul, 1) := by decide +kernel
theorem d_M_matrix_79 : decode M_M_matrix.2.1 79 = .ok (.iload 6, 2) := by decide +kernel
theorem d_M_matrix_81 : decode M_M_matrix.2.1 81 = .ok (.iadd, 1) := by decide +kernel
theorem d_M_matrix_82 : decode M_M_matrix.2.1 82 = .ok (.istore 7, 2) := by decide +kernel
theorem d_M_matrix_84 : decode M_M_matrix.2.1 84 = .ok (.iload 7, 2) := by decide +kernel
theorem d_M_matrix_86 : decode M_M_matrix.2.1 86 = .ok (.aload_n 0, 1) := by decide +kernel
theorem d_M_matrix_87 : decode M_M_matrix.2.1 87 = .ok (.getfield 96, 3) := by decide +kernel
theorem d_M_matrix_90 : decode M_M_matrix.2.1 90 = .ok (.if_icmp .ge 13, 3) := by decide +kernel
theorem d_M_matrix_93 : decode M_M_matrix.2.1 93 = .ok (.aload_n 0, 1) := by decide +kernel
theorem d_M_matrix_94 : decode M_M_matrix.2.1 94 = .ok (.getfield 7, 3) := by decide +kernel
theorem d_M_matrix_97 : decode M_M_matrix.2.1 97 = .ok (.iload 7, 2) := by decide +kernel
theorem d_M_matrix_99 : decode M_M_matrix.2.1 99 = .ok (.iaload, 1) := by decide +kernel
theorem d_M_matrix_100 : decode M_M_matrix.2.1 100 = .ok (.goto 4, 3) := by decide +kernel
theorem d_M_matrix_103 : decode M_M_matrix.2.1 103 = .ok (.iconst 0, 1) := by decide +kernel
theorem d_M_matrix_104 : decode M_M_matrix.2.1 104 = .ok (.ireturn, 1) := by decide +kernel
theorem d_M_newest_0 : decode M_M_newest.2.1 0 = .ok (.iconst 0, 1) := by decide +kernel
theorem d_M_newest_1 : decode M_M_newest.2.1 1 = .ok (.istore_n 2, 1) := by decide +kernel
theorem d_M_newest_2 : decode M_M_newest.2.1 2 = .ok (.iconst 0, 1) := by decide +kernel
theorem d_M_newest_3 : decode M_M_newest.2.1 3 = .ok (.istore_n 3, 1) := by decide +kernel
theorem d_M_newest_4 : decode M_M_newest.2.1 4 = .ok (.iload_n 3, 1) := by decide +kernel
theorem d_M_newest_5 : decode M_M_newest.2.1 5 = .ok (.bipush 12, 2) := by decide +kernel
theorem d_M_newest_7 : decode M_M_newest.2.1 7 = .ok (.if_icmp .ge 140, 3) := by decide +kernel
theorem d_M_newest_10 : decode M_M_newest.2.1 10 = .ok (.iload_n 3, 1) := by decide +kernel
theorem d_M_newest_11 : decode M_M_newest.2.1 11 = .ok (.iload_n 1, 1) := by decide +kernel
theorem d_M_newest_12 : decode M_M_newest.2.1 12 = .ok (.iconst 0, 1) := by decide +kernel
theorem d_M_newest_13 : decode M_M_newest.2.1 13 = .ok (.invokestatic 79, 3) := by decide +kernel
theorem d_M_newest_16 : decode M_M_newest.2.1 16 = .ok (.istore 4, 2) := by decide +kernel
theorem d_M_newest_18 : decode M_M_newest.2.1 18 = .ok (.aload_n 0, 1) := by decide +kernel
theorem d_M_newest_19 : decode M_M_newest.2.1 19 = .ok (.getfield 17, 3) := by decide +kernel
theorem d_M_newest_22 : decode M_M_newest.2.1 22 = .ok (.iload_n 3, 1) := by decide +kernel
theorem d_M_newest_23 : decode M_M_newest.2.1 23 = .ok (.baload, 1) := by decide +kernel
theorem d_M_newest_24 : decode M_M_newest.2.1 24 = .ok (.ifCond .ne 117, 3) := by decide +kernel
theorem d_M_newest_27 : decode M_M_newest.2.1 27 = .ok (.aload_n 0, 1) := by decide +kernel
theorem d_M_newest_28 : decode M_M_newest.2.1 28 = .ok (.getfield 30, 3) := by decide +kernel
theorem d_M_newest_31 : decode M_M_newest.2.1 31 = .ok (.iload 4, 2) := by decide +kernel
theorem d_M_newest_33 : decode M_M_newest.2.1 33 = .ok (.baload, 1) := by decide +kernel
theorem d_M_newest_34 : decode M_M_newest.2.1 34 = .ok (.ifCond .eq 107, 3) := by decide +kernel
theorem d_M_newest_37 : decode M_M_newest.2.1 37 = .ok (.aload_n 0, 1) := by decide +kernel
theorem d_M_newest_38 : decode M_M_newest.2.1 38 = .ok (.getfield 33, 3) := by decide +kernel
theorem d_M_newest_41 : decode M_M_newest.2.1 41 = .ok (.iload 4, 2) := by decide +kernel
theorem d_M_newest_43 : decode M_M_newest.2.1 43 = .ok (.iaload, 1) := by decide +kernel
theorem d_M_newest_44 : decode M_M_newest.2.1 44 = .ok (.iload_n 2, 1) := by decide +kernel
theorem d_M_newest_45 : decode M_M_newest.2.1 45 = .ok (.if_icmp .le 96, 3) := by decide +kernel
theorem d_M_newest_48 : decode M_M_newest.2.1 48 = .ok (.iconst 0, 1) := by decide +kernel
theorem d_M_newest_49 : decode M_M_newest.2.1 49 = .ok (.istore 5, 2) := by decide +kernel
theorem d_M_newest_51 : decode M_M_newest.2.1 51 = .ok (.iconst 0, 1) := by decide +kernel
theorem d_M_newest_52 : decode M_M_newest.2.1 52 = .ok (.istore 6, 2) := by decide +kernel
theorem d_M_newest_54 : decode M_M_newest.2.1 54 = .ok (.iload 6, 2) := by decide +kernel
theorem d_M_newest_56 : decode M_M_newest.2.1 56 = .ok (.bipush 12, 2) := by decide +kernel
theorem d_M_newest_58 : decode M_M_newest.2.1 58 = .ok (.if_icmp .ge 65, 3) := by decide +kernel
theorem d_M_newest_61 : decode M_M_newest.2.1 61 = .ok (.iload 6, 2) := by decide +kernel
theorem d_M_newest_63 : decode M_M_newest.2.1 63 = .ok (.iload_n 1, 1) := by decide +kernel
theorem d_M_newest_64 : decode M_M_newest.2.1 64 = .ok (.iconst 0, 1) := by decide +kernel
theorem d_M_newest_65 : decode M_M_newest.2.1 65 = .ok (.invokestatic 79, 3) := by decide +kernel
theorem d_M_newest_68 : decode M_M_newest.2.1 68 = .ok (.istore 7, 2) := by decide +kernel
theorem d_M_newest_70 : decode M_M_newest.2.1 70 = .ok (.iload 5, 2) := by decide +kernel
theorem d_M_newest_72 : decode M_M_newest.2.1 72 = .ok (.aload_n 0, 1) := by decide +kernel
theorem d_M_newest_73 : decode M_M_newest.2.1 73 = .ok (.getfield 17, 3) := by decide +kernel
theorem d_M_newest_76 : decode M_M_newest.2.1 76 = .ok (.iload 6, 2) := by decide +kernel
theorem d_M_newest_78 : decode M_M_newest.2.1 78 = .ok (.baload, 1) := by decide +kernel
theorem d_M_newest_79 : decode M_M_newest.2.1 79 = .ok (.ifCond .ne 34, 3) := by decide +kernel
theorem d_M_newest_82 : decode M_M_newest.2.1 82 = .ok (.aload_n 0, 1) := by decide +kernel
theorem d_M_newest_83 : decode M_M_newest.2.1 83 = .ok (.getfield 30, 3) := by decide +kernel
theorem d_M_newest_86 : decode M_M_newest.2.1 86 = .ok (.iload 7, 2) := by decide +kernel
theorem d_M_newest_88 : decode M_M_newest.2.1 88 = .ok (.baload, 1) := by decide +kernel
theorem d_M_newest_89 : decode M_M_newest.2.1 89 = .ok (.ifCond .eq 24, 3) := by decide +kernel
theorem d_M_newest_92 : decode M_M_newest.2.1 92 = .ok (.aload_n 0, 1) := by decide +kernel
theorem d_M_newest_93 : decode M_M_newest.2.1 93 = .ok (.getfield 33, 3) := by decide +kernel
theorem d_M_newest_96 : decode M_M_newest.2.1 96 = .ok (.iload 7, 2) := by decide +kernel
theorem d_M_newest_98 : decode M_M_newest.2.1 98 = .ok (.iaload, 1) := by decide +kernel
theorem d_M_newest_99 : decode M_M_newest.2.1 99 = .ok (.aload_n 0, 1) := by decide +kernel
theorem d_M_newest_100 : decode M_M_newest.2.1 100 = .ok (.getfield 33, 3) := by decide +kernel
theorem d_M_newest_103 : decode M_M_newest.2.1 103 = .ok (.iload 4, 2) := by decide +kernel
theorem d_M_newest_105 : decode M_M_newest.2.1 105 = .ok (.iaload, 1) := by decide +kernel
theorem d_M_newest_106 : decode M_M_newest.2.1 106 = .ok (.if_icmp .ne 7, 3) := by decide +kernel
theorem d_M_newest_109 : decode M_M_newest.2.1 109 = .ok (.iconst 1, 1) := by decide +kernel
theorem d_M_newest_110 : decode M_M_newest.2.1 110 = .ok (.goto 4, 3) := by decide +kernel
theorem d_M_newest_113 : decode M_M_newest.2.1 113 = .ok (.iconst 0, 1) := by decide +kernel
theorem d_M_newest_114 : decode M_M_newest.2.1 114 = .ok (.iadd, 1) := by decide +kernel
theorem d_M_newest_115 : decode M_M_newest.2.1 115 = .ok (.istore 5, 2) := by decide +kernel
theorem d_M_newest_117 : decode M_M_newest.2.1 117 = .ok (.iinc 6 1, 3) := by decide +kernel
theorem d_M_newest_120 : decode M_M_newest.2.1 120 = .ok (.goto (-66), 3) := by decide +kernel
theorem d_M_newest_123 : decode M_M_newest.2.1 123 = .ok (.iload 5, 2) := by decide +kernel
theorem d_M_newest_125 : decode M_M_newest.2.1 125 = .ok (.iconst 5, 1) := by decide +kernel
theorem d_M_newest_126 : decode M_M_newest.2.1 126 = .ok (.if_icmp .lt 13, 3) := by decide +kernel
theorem d_M_newest_129 : decode M_M_newest.2.1 129 = .ok (.aload_n 0, 1) := by decide +kernel
theorem d_M_newest_130 : decode M_M_newest.2.1 130 = .ok (.getfield 33, 3) := by decide +kernel
theorem d_M_newest_133 : decode M_M_newest.2.1 133 = .ok (.iload 4, 2) := by decide +kernel
theorem d_M_newest_135 : decode M_M_newest.2.1 135 = .ok (.iaload, 1) := by decide +kernel
theorem d_M_newest_136 : decode M_M_newest.2.1 136 = .ok (.goto 4, 3) := by decide +kernel
theorem d_M_newest_139 : decode M_M_newest.2.1 139 = .ok (.iload_n 2, 1) := by decide +kernel
theorem d_M_newest_140 : decode M_M_newest.2.1 140 = .ok (.istore_n 2, 1) := by decide +kernel
theorem d_M_newest_141 : decode M_M_newest.2.1 141 = .ok (.iinc 3 1, 3) := by decide +kernel
theorem d_M_newest_144 : decode M_M_newest.2.1 144 = .ok (.goto (-140), 3) := by decide +kernel
theorem d_M_newest_147 : decode M_M_newest.2.1 147 = .ok (.iload_n 2, 1) := by decide +kernel
theorem d_M_newest_148 : decode M_M_newest.2.1 148 = .ok (.ireturn, 1) := by decide +kernel
theorem d_M_open_0 : decode M_M_open.2.1 0 = .ok (.iload_n 1, 1) := by decide +kernel
theorem d_M_open_1 : decode M_M_open.2.1 1 = .ok (.invokestatic 125, 3) := by decide +kernel
theorem d_M_open_4 : decode M_M_open.2.1 4 = .ok (.ifCond .ne 8, 3) := by decide +kernel
theorem d_M_open_7 : decode M_M_open.2.1 7 = .ok (.bipush (-2), 2) := by decide +kernel
theorem d_M_open_9 : decode M_M_open.2.1 9 = .ok (.goto 17, 3) := by decide +kernel
theorem d_M_open_12 : decode M_M_open.2.1 12 = .ok (.aload_n 0, 1) := by decide +kernel
theorem d_M_open_13 : decode M_M_open.2.1 13 = .ok (.getfield 45, 3) := by decide +kernel
theorem d_M_open_16 : decode M_M_open.2.1 16 = .ok (.iload_n 1, 1) := by decide +kernel
theorem d_M_open_17 : decode M_M_open.2.1 17 = .ok (.baload, 1) := by decide +kernel
theorem d_M_open_18 : decode M_M_open.2.1 18 = .ok (.ifCond .eq 7, 3) := by decide +kernel
theorem d_M_open_21 : decode M_M_open.2.1 21 = .ok (.iconst 1, 1) := by decide +kernel
theorem d_M_open_22 : decode M_M_open.2.1 22 = .ok (.goto 4, 3) := by decide +kernel
theorem d_M_open_25 : decode M_M_open.2.1 25 = .ok (.iconst 0, 1) := by decide +kernel
theorem d_M_open_26 : decode M_M_open.2.1 26 = .ok (.ireturn, 1) := by decide +kernel
theorem d_M_over_0 : decode M_M_over.2.1 0 = .ok (.iload_n 1, 1) := by decide +kernel
theorem d_M_over_1 : decode M_M_over.2.1 1 = .ok (.iconst 0, 1) := by decide +kernel
theorem d_M_over_2 : decode M_M_over.2.1 2 = .ok (.sipush 255, 3) := by decide +kernel
theorem d_M_over_5 : decode M_M_over.2.1 5 = .ok (.invokestatic 60, 3) := by decide +kernel
theorem d_M_over_8 : decode M_M_over.2.1 8 = .ok (.ifCond .eq 14, 3) := by decide +kernel
theorem d_M_over_11 : decode M_M_over.2.1 11 = .ok (.iload_n 2, 1) := by decide +kernel
theorem d_M_over_12 : decode M_M_over.2.1 12 = .ok (.iconst 0, 1) := by decide +kernel
theorem d_M_over_13 : decode M_M_over.2.1 13 = .ok (.sipush 255, 3) := by decide +kernel
theorem d_M_over_16 : decode M_M_over.2.1 16 = .ok (.invokestatic 60, 3) := by decide +kernel
theorem d_M_over_19 : decode M_M_over.2.1 19 = .ok (.ifCond .ne 8, 3) := by decide +kernel
theorem d_M_over_22 : decode M_M_over.2.1 22 = .ok (.bipush (-2), 2) := by decide +kernel
theorem d_M_over_24 : decode M_M_over.2.1 24 = .ok (.goto 20, 3) := by decide +kernel
theorem d_M_over_27 : decode M_M_over.2.1 27 = .ok (.iload_n 2, 1) := by decide +kernel
theorem d_M_over_28 : decode M_M_over.2.1 28 = .ok (.ifCond .ne 8, 3) := by decide +kernel
theorem d_M_over_31 : decode M_M_over.2.1 31 = .ok (.bipush (-7), 2) := by decide +kernel
theorem d_M_over_33 : decode M_M_over.2.1 33 = .ok (.goto 11, 3) := by decide +kernel
theorem d_M_over_36 : decode M_M_over.2.1 36 = .ok (.iload_n 1, 1) := by decide +kernel
theorem d_M_over_37 : decode M_M_over.2.1 37 = .ok (.iload_n 2, 1) := by decide +kernel
theorem d_M_over_38 : decode M_M_over.2.1 38 = .ok (.invokestatic 68, 3) := by decide +kernel
theorem d_M_over_41 : decode M_M_over.2.1 41 = .ok (.invokestatic 64, 3) := by decide +kernel
theorem d_M_over_44 : decode M_M_over.2.1 44 = .ok (.ireturn, 1) := by decide +kernel
theorem d_M_product_0 : decode M_M_product.2.1 0 = .ok (.iconst 0, 1) := by decide +kernel
theorem d_M_product_1 : decode M_M_product.2.1 1 = .ok (.istore_n 2, 1) := by decide +kernel
theorem d_M_product_2 : decode M_M_product.2.1 2 = .ok (.iload_n 0, 1) := by decide +kernel
theorem d_M_product_3 : decode M_M_product.2.1 3 = .ok (.istore_n 3, 1) := by decide +kernel
theorem d_M_product_4 : decode M_M_product.2.1 4 = .ok (.iconst 0, 1) := by decide +kernel
theorem d_M_product_5 : decode M_M_product.2.1 5 = .ok (.istore 4, 2) := by decide +kernel
theorem d_M_product_7 : decode M_M_product.2.1 7 = .ok (.iload 4, 2) := by decide +kernel
theorem d_M_product_9 : decode M_M_product.2.1 9 = .ok (.bipush 8, 2) := by decide +kernel
theorem d_M_product_11 : decode M_M_product.2.1 11 = .ok (.if_icmp .ge 45, 3) := by decide +kernel
theorem d_M_product_14 : decode M_M_product.2.1 14 = .ok (.iload_n 2, 1) := by decide +kernel
theorem d_M_product_15 : decode M_M_product.2.1 15 = .ok (.iload_n 1, 1) := by decide +kernel
theorem d_M_product_16 : decode M_M_product.2.1 16 = .ok (.iload 4, 2) := by decide +kernel
theorem d_M_product_18 : decode M_M_product.2.1 18 = .ok (.ishr, 1) := by decide +kernel
theorem d_M_product_19 : decode M_M_product.2.1 19 = .ok (.iconst 1, 1) := by decide +kernel
theorem d_M_product_20 : decode M_M_product.2.1 20 = .ok (.iand, 1) := by decide +kernel
theorem d_M_product_21 : decode M_M_product.2.1 21 = .ok (.iconst 1, 1) := by decide +kernel
theorem d_M_product_22 : decode M_M_product.2.1 22 = .ok (.if_icmp .ne 7, 3) := by decide +kernel
theorem d_M_product_25 : decode M_M_product.2.1 25 = .ok (.iload_n 3, 1) := by decide +kernel
theorem d_M_product_26 : decode M_M_product.2.1 26 = .ok (.goto 4, 3) := by decide +kernel
theorem d_M_product_29 : decode M_M_product.2.1 29 = .ok (.iconst 0, 1) := by decide +kernel
theorem d_M_product_30 : decode M_M_product.2.1 30 = .ok (.ixor, 1) := by decide +kernel
theorem d_M_product_31 : decode M_M_product.2.1 31 = .ok (.istore_n 2, 1) := by decide +kernel
theorem d_M_product_32 : decode M_M_product.2.1 32 = .ok (.iload_n 3, 1) := by decide +kernel
theorem d_M_product_33 : decode M_M_product.2.1 33 = .ok (.iconst 1, 1) := by decide +kernel
theorem d_M_product_34 : decode M_M_product.2.1 34 = .ok (.ishl, 1) := by decide +kernel
theorem d_M_product_35 : decode M_M_product.2.1 35 = .ok (.iload_n 3, 1) := by decide +kernel
theorem d_M_product_36 : decode M_M_product.2.1 36 = .ok (.bipush 127, 2) := by decide +kernel
theorem d_M_product_38 : decode M_M_product.2.1 38 = .ok (.if_icmp .le 9, 3) := by decide +kernel
theorem d_M_product_41 : decode M_M_product.2.1 41 = .ok (.sipush 285, 3) := by decide +kernel
theorem d_M_product_44 : decode M_M_product.2.1 44 = .ok (.goto 4, 3) := by decide +kernel
theorem d_M_product_47 : decode M_M_product.2.1 47 = .ok (.iconst 0, 1) := by decide +kernel
theorem d_M_product_48 : decode M_M_product.2.1 48 = .ok (.ixor, 1) := by decide +kernel
theorem d_M_product_49 : decode M_M_product.2.1 49 = .ok (.istore_n 3, 1) := by decide +kernel
theorem d_M_product_50 : decode M_M_product.2.1 50 = .ok (.iinc 4 1, 3) := by decide +kernel
theorem d_M_product_53 : decode M_M_product.2.1 53 = .ok (.goto (-46), 3) := by decide +kernel
theorem d_M_product_56 : decode M_M_product.2.1 56 = .ok (.iload_n 2, 1) := by decide +kernel
theorem d_M_product_57 : decode M_M_product.2.1 57 = .ok (.ireturn, 1) := by decide +kernel
theorem d_M_put_0 : decode M_M_put.2.1 0 = .ok (.aload_n 0, 1) := by decide +kernel
theorem d_M_put_1 : decode M_M_put.2.1 1 = .ok (.iload_n 1, 1) := by decide +kernel
theorem d_M_put_2 : decode M_M_put.2.1 2 = .ok (.invokevirtual 128, 3) := by decide +kernel
theorem d_M_put_5 : decode M_M_put.2.1 5 = .ok (.istore_n 2, 1) := by decide +kernel
theorem d_M_put_6 : decode M_M_put.2.1 6 = .ok (.iload_n 2, 1) := by decide +kernel
theorem d_M_put_7 : decode M_M_put.2.1 7 = .ok (.ifCond .eq 5, 3) := by decide +kernel
theorem d_M_put_10 : decode M_M_put.2.1 10 = .ok (.iload_n 2, 1) := by decide +kernel
theorem d_M_put_11 : decode M_M_put.2.1 11 = .ok (.ireturn, 1) := by decide +kernel
theorem d_M_put_12 : decode M_M_put.2.1 12 = .ok (.iconst 0, 1) := by decide +kernel
theorem d_M_put_13 : decode M_M_put.2.1 13 = .ok (.istore_n 3, 1) := by decide +kernel
theorem d_M_put_14 : decode M_M_put.2.1 14 = .ok (.iload_n 3, 1) := by decide +kernel
theorem d_M_put_15 : decode M_M_put.2.1 15 = .ok (.bipush 12, 2) := by decide +kernel
theorem d_M_put_17 : decode M_M_put.2.1 17 = .ok (.if_icmp .ge 39, 3) := by decide +kernel
theorem d_M_put_20 : decode M_M_put.2.1 20 = .ok (.aload_n 0, 1) := by decide +kernel
theorem d_M_put_21 : decode M_M_put.2.1 21 = .ok (.getfield 17, 3) := by decide +kernel
theorem d_M_put_24 : decode M_M_put.2.1 24 = .ok (.iload_n 3, 1) := by decide +kernel
theorem d_M_put_25 : decode M_M_put.2.1 25 = .ok (.baload, 1) := by decide +kernel
theorem d_M_put_26 : decode M_M_put.2.1 26 = .ok (.ifCond .ne 24, 3) := by decide +kernel
theorem d_M_put_29 : decode M_M_put.2.1 29 = .ok (.bipush 40, 2) := by decide +kernel
theorem d_M_put_31 : decode M_M_put.2.1 31 = .ok (.aload_n 0, 1) := by decide +kernel
theorem d_M_put_32 : decode M_M_put.2.1 32 = .ok (.iload_n 3, 1) := by decide +kernel
theorem d_M_put_33 : decode M_M_put.2.1 33 = .ok (.invokevirtual 131, 3) := by decide +kernel
theorem d_M_put_36 : decode M_M_put.2.1 36 = .ok (.isub, 1) := by decide +kernel
theorem d_M_put_37 : decode M_M_put.2.1 37 = .ok (.aload_n 0, 1) := by decide +kernel
theorem d_M_put_38 : decode M_M_put.2.1 38 = .ok (.getfield 96, 3) := by decide +kernel
theorem d_M_put_41 : decode M_M_put.2.1 41 = .ok (.invokestatic 83, 3) := by decide +kernel
theorem d_M_put_44 : decode M_M_put.2.1 44 = .ok (.if_icmp .ge 6, 3) := by decide +kernel
theorem d_M_put_47 : decode M_M_put.2.1 47 = .ok (.bipush (-5), 2) := by decide +kernel
theorem d_M_put_49 : decode M_M_put.2.1 49 = .ok (.ireturn, 1) := by decide +kernel
theorem d_M_put_50 : decode M_M_put.2.1 50 = .ok (.iinc 3 1, 3) := by decide +kernel
theorem d_M_put_53 : decode M_M_put.2.1 53 = .ok (.goto (-39), 3) := by decide +kernel
theorem d_M_put_56 : decode M_M_put.2.1 56 = .ok (.aload_n 0, 1) := by decide +kernel
theorem d_M_put_57 : decode M_M_put.2.1 57 = .ok (.getfield 96, 3) := by decide +kernel
theorem d_M_put_60 : decode M_M_put.2.1 60 = .ok (.ifCond .ne 6, 3) := by decide +kernel
theorem d_M_put_63 : decode M_M_put.2.1 63 = .ok (.bipush (-6), 2) := by decide +kernel
theorem d_M_put_65 : decode M_M_put.2.1 65 = .ok (.ireturn, 1) := by decide +kernel
theorem d_M_put_66 : decode M_M_put.2.1 66 = .ok (.aload_n 0, 1) := by decide +kernel
theorem d_M_put_67 : decode M_M_put.2.1 67 = .ok (.iload_n 1, 1) := by decide +kernel
theorem d_M_put_68 : decode M_M_put.2.1 68 = .ok (.invokevirtual 134, 3) := by decide +kernel
theorem d_M_put_71 : decode M_M_put.2.1 71 = .ok (.istore_n 3, 1) := by decide +kernel
theorem d_M_put_72 : decode M_M_put.2.1 72 = .ok (.aload_n 0, 1) := by decide +kernel
theorem d_M_put_73 : decode M_M_put.2.1 73 = .ok (.iconst 0, 1) := by decide +kernel
