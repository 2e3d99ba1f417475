theorem dX8_account_78 : decode cX8_account 78 = .ok (.getfield 3, 3) := by decide +kernel
theorem dX8_account_81 : decode cX8_account 81 = .ok (.imul, 1) := by decide +kernel
theorem dX8_account_82 : decode cX8_account 82 = .ok (.iload_n 3, 1) := by decide +kernel
theorem dX8_account_83 : decode cX8_account 83 = .ok (.iadd, 1) := by decide +kernel
theorem dX8_account_84 : decode cX8_account 84 = .ok (.iconst (-1), 1) := by decide +kernel
theorem dX8_account_85 : decode cX8_account 85 = .ok (.iastore, 1) := by decide +kernel
theorem dX8_account_86 : decode cX8_account 86 = .ok (.iinc 3 1, 3) := by decide +kernel
theorem dX8_account_89 : decode cX8_account 89 = .ok (.goto (-22), 3) := by decide +kernel
theorem dX8_account_92 : decode cX8_account 92 = .ok (.aload_n 0, 1) := by decide +kernel
theorem dX8_account_93 : decode cX8_account 93 = .ok (.dup, 1) := by decide +kernel
theorem dX8_account_94 : decode cX8_account 94 = .ok (.getfield 3, 3) := by decide +kernel
theorem dX8_account_97 : decode cX8_account 97 = .ok (.iconst 1, 1) := by decide +kernel
theorem dX8_account_98 : decode cX8_account 98 = .ok (.iadd, 1) := by decide +kernel
theorem dX8_account_99 : decode cX8_account 99 = .ok (.putfield 3, 3) := by decide +kernel
theorem dX8_account_102 : decode cX8_account 102 = .ok (.aload_n 0, 1) := by decide +kernel
theorem dX8_account_103 : decode cX8_account 103 = .ok (.getfield 3, 3) := by decide +kernel
theorem dX8_account_106 : decode cX8_account 106 = .ok (.iconst 1, 1) := by decide +kernel
theorem dX8_account_107 : decode cX8_account 107 = .ok (.isub, 1) := by decide +kernel
theorem dX8_account_108 : decode cX8_account 108 = .ok (.ireturn, 1) := by decide +kernel
theorem dX8_tick_0 : decode cX8_tick 0 = .ok (.iload_n 1, 1) := by decide +kernel
theorem dX8_tick_1 : decode cX8_tick 1 = .ok (.iconst 1, 1) := by decide +kernel
theorem dX8_tick_2 : decode cX8_tick 2 = .ok (.if_icmp .lt 10, 3) := by decide +kernel
theorem dX8_tick_5 : decode cX8_tick 5 = .ok (.iload_n 1, 1) := by decide +kernel
theorem dX8_tick_6 : decode cX8_tick 6 = .ok (.sipush 10000, 3) := by decide +kernel
theorem dX8_tick_9 : decode cX8_tick 9 = .ok (.if_icmp .le 6, 3) := by decide +kernel
theorem dX8_tick_12 : decode cX8_tick 12 = .ok (.bipush (-2), 2) := by decide +kernel
theorem dX8_tick_14 : decode cX8_tick 14 = .ok (.ireturn, 1) := by decide +kernel
theorem dX8_tick_15 : decode cX8_tick 15 = .ok (.aload_n 0, 1) := by decide +kernel
theorem dX8_tick_16 : decode cX8_tick 16 = .ok (.getfield 24, 3) := by decide +kernel
theorem dX8_tick_19 : decode cX8_tick 19 = .ok (.iload_n 1, 1) := by decide +kernel
theorem dX8_tick_20 : decode cX8_tick 20 = .ok (.iadd, 1) := by decide +kernel
theorem dX8_tick_21 : decode cX8_tick 21 = .ok (.ldc 27, 2) := by decide +kernel
theorem dX8_tick_23 : decode cX8_tick 23 = .ok (.if_icmp .le 6, 3) := by decide +kernel
theorem dX8_tick_26 : decode cX8_tick 26 = .ok (.bipush (-3), 2) := by decide +kernel
theorem dX8_tick_28 : decode cX8_tick 28 = .ok (.ireturn, 1) := by decide +kernel
theorem dX8_tick_29 : decode cX8_tick 29 = .ok (.aload_n 0, 1) := by decide +kernel
theorem dX8_tick_30 : decode cX8_tick 30 = .ok (.dup, 1) := by decide +kernel
theorem dX8_tick_31 : decode cX8_tick 31 = .ok (.getfield 24, 3) := by decide +kernel
theorem dX8_tick_34 : decode cX8_tick 34 = .ok (.iload_n 1, 1) := by decide +kernel
theorem dX8_tick_35 : decode cX8_tick 35 = .ok (.iadd, 1) := by decide +kernel
theorem dX8_tick_36 : decode cX8_tick 36 = .ok (.putfield 24, 3) := by decide +kernel
theorem dX8_tick_39 : decode cX8_tick 39 = .ok (.aload_n 0, 1) := by decide +kernel
theorem dX8_tick_40 : decode cX8_tick 40 = .ok (.getfield 24, 3) := by decide +kernel
theorem dX8_tick_43 : decode cX8_tick 43 = .ok (.ireturn, 1) := by decide +kernel
theorem dX8_lies_0 : decode cX8_lies 0 = .ok (.iload_n 1, 1) := by decide +kernel
theorem dX8_lies_1 : decode cX8_lies 1 = .ok (.istore_n 3, 1) := by decide +kernel
theorem dX8_lies_2 : decode cX8_lies 2 = .ok (.iload_n 3, 1) := by decide +kernel
theorem dX8_lies_3 : decode cX8_lies 3 = .ok (.iconst (-1), 1) := by decide +kernel
theorem dX8_lies_4 : decode cX8_lies 4 = .ok (.if_icmp .eq 18, 3) := by decide +kernel
theorem dX8_lies_7 : decode cX8_lies 7 = .ok (.iload_n 3, 1) := by decide +kernel
theorem dX8_lies_8 : decode cX8_lies 8 = .ok (.iload_n 2, 1) := by decide +kernel
theorem dX8_lies_9 : decode cX8_lies 9 = .ok (.if_icmp .eq 13, 3) := by decide +kernel
theorem dX8_lies_12 : decode cX8_lies 12 = .ok (.aload_n 0, 1) := by decide +kernel
theorem dX8_lies_13 : decode cX8_lies 13 = .ok (.getfield 18, 3) := by decide +kernel
theorem dX8_lies_16 : decode cX8_lies 16 = .ok (.iload_n 3, 1) := by decide +kernel
theorem dX8_lies_17 : decode cX8_lies 17 = .ok (.iaload, 1) := by decide +kernel
theorem dX8_lies_18 : decode cX8_lies 18 = .ok (.istore_n 3, 1) := by decide +kernel
theorem dX8_lies_19 : decode cX8_lies 19 = .ok (.goto (-17), 3) := by decide +kernel
theorem dX8_lies_22 : decode cX8_lies 22 = .ok (.iload_n 3, 1) := by decide +kernel
theorem dX8_lies_23 : decode cX8_lies 23 = .ok (.iload_n 2, 1) := by decide +kernel
theorem dX8_lies_24 : decode cX8_lies 24 = .ok (.if_icmp .ne 7, 3) := by decide +kernel
theorem dX8_lies_27 : decode cX8_lies 27 = .ok (.iconst 1, 1) := by decide +kernel
theorem dX8_lies_28 : decode cX8_lies 28 = .ok (.goto 4, 3) := by decide +kernel
theorem dX8_lies_31 : decode cX8_lies 31 = .ok (.iconst 0, 1) := by decide +kernel
theorem dX8_lies_32 : decode cX8_lies 32 = .ok (.ireturn, 1) := by decide +kernel
theorem dX8_limit_0 : decode cX8_limit 0 = .ok (.aload_n 0, 1) := by decide +kernel
theorem dX8_limit_1 : decode cX8_limit 1 = .ok (.iload_n 1, 1) := by decide +kernel
theorem dX8_limit_2 : decode cX8_limit 2 = .ok (.invokevirtual 11, 3) := by decide +kernel
theorem dX8_limit_5 : decode cX8_limit 5 = .ok (.ifCond .eq 21, 3) := by decide +kernel
theorem dX8_limit_8 : decode cX8_limit 8 = .ok (.iload_n 2, 1) := by decide +kernel
theorem dX8_limit_9 : decode cX8_limit 9 = .ok (.invokestatic 28, 3) := by decide +kernel
theorem dX8_limit_12 : decode cX8_limit 12 = .ok (.ifCond .eq 14, 3) := by decide +kernel
theorem dX8_limit_15 : decode cX8_limit 15 = .ok (.iload_n 3, 1) := by decide +kernel
theorem dX8_limit_16 : decode cX8_limit 16 = .ok (.iconst (-1), 1) := by decide +kernel
theorem dX8_limit_17 : decode cX8_limit 17 = .ok (.if_icmp .lt 9, 3) := by decide +kernel
theorem dX8_limit_20 : decode cX8_limit 20 = .ok (.iload_n 3, 1) := by decide +kernel
theorem dX8_limit_21 : decode cX8_limit 21 = .ok (.ldc 31, 2) := by decide +kernel
theorem dX8_limit_23 : decode cX8_limit 23 = .ok (.if_icmp .le 6, 3) := by decide +kernel
theorem dX8_limit_26 : decode cX8_limit 26 = .ok (.bipush (-2), 2) := by decide +kernel
theorem dX8_limit_28 : decode cX8_limit 28 = .ok (.ireturn, 1) := by decide +kernel
theorem dX8_limit_29 : decode cX8_limit 29 = .ok (.aload_n 0, 1) := by decide +kernel
theorem dX8_limit_30 : decode cX8_limit 30 = .ok (.getfield 21, 3) := by decide +kernel
theorem dX8_limit_33 : decode cX8_limit 33 = .ok (.iconst 4, 1) := by decide +kernel
theorem dX8_limit_34 : decode cX8_limit 34 = .ok (.iload_n 1, 1) := by decide +kernel
theorem dX8_limit_35 : decode cX8_limit 35 = .ok (.imul, 1) := by decide +kernel
theorem dX8_limit_36 : decode cX8_limit 36 = .ok (.iload_n 2, 1) := by decide +kernel
theorem dX8_limit_37 : decode cX8_limit 37 = .ok (.iadd, 1) := by decide +kernel
theorem dX8_limit_38 : decode cX8_limit 38 = .ok (.iload_n 3, 1) := by decide +kernel
theorem dX8_limit_39 : decode cX8_limit 39 = .ok (.iastore, 1) := by decide +kernel
theorem dX8_limit_40 : decode cX8_limit 40 = .ok (.iconst 0, 1) := by decide +kernel
theorem dX8_limit_41 : decode cX8_limit 41 = .ok (.ireturn, 1) := by decide +kernel
theorem dX8_cell_0 : decode cX8_cell 0 = .ok (.iconst 4, 1) := by decide +kernel
theorem dX8_cell_1 : decode cX8_cell 1 = .ok (.iload_n 0, 1) := by decide +kernel
theorem dX8_cell_2 : decode cX8_cell 2 = .ok (.imul, 1) := by decide +kernel
theorem dX8_cell_3 : decode cX8_cell 3 = .ok (.iload_n 1, 1) := by decide +kernel
theorem dX8_cell_4 : decode cX8_cell 4 = .ok (.iadd, 1) := by decide +kernel
theorem dX8_cell_5 : decode cX8_cell 5 = .ok (.bipush 100, 2) := by decide +kernel
theorem dX8_cell_7 : decode cX8_cell 7 = .ok (.imul, 1) := by decide +kernel
theorem dX8_cell_8 : decode cX8_cell 8 = .ok (.iload_n 2, 1) := by decide +kernel
theorem dX8_cell_9 : decode cX8_cell 9 = .ok (.iadd, 1) := by decide +kernel
theorem dX8_cell_10 : decode cX8_cell 10 = .ok (.ireturn, 1) := by decide +kernel
theorem dX8_forget_0 : decode cX8_forget 0 = .ok (.iconst 0, 1) := by decide +kernel
theorem dX8_forget_1 : decode cX8_forget 1 = .ok (.istore_n 1, 1) := by decide +kernel
theorem dX8_forget_2 : decode cX8_forget 2 = .ok (.iconst 0, 1) := by decide +kernel
theorem dX8_forget_3 : decode cX8_forget 3 = .ok (.istore_n 2, 1) := by decide +kernel
theorem dX8_forget_4 : decode cX8_forget 4 = .ok (.iload_n 2, 1) := by decide +kernel
theorem dX8_forget_5 : decode cX8_forget 5 = .ok (.aload_n 0, 1) := by decide +kernel
theorem dX8_forget_6 : decode cX8_forget 6 = .ok (.getfield 32, 3) := by decide +kernel
theorem dX8_forget_9 : decode cX8_forget 9 = .ok (.if_icmp .ge 65, 3) := by decide +kernel
theorem dX8_forget_12 : decode cX8_forget 12 = .ok (.aload_n 0, 1) := by decide +kernel
theorem dX8_forget_13 : decode cX8_forget 13 = .ok (.getfield 24, 3) := by decide +kernel
theorem dX8_forget_16 : decode cX8_forget 16 = .ok (.aload_n 0, 1) := by decide +kernel
theorem dX8_forget_17 : decode cX8_forget 17 = .ok (.getfield 35, 3) := by decide +kernel
theorem dX8_forget_20 : decode cX8_forget 20 = .ok (.iload_n 2, 1) := by decide +kernel
theorem dX8_forget_21 : decode cX8_forget 21 = .ok (.iaload, 1) := by decide +kernel
theorem dX8_forget_22 : decode cX8_forget 22 = .ok (.sipush 1000, 3) := by decide +kernel
theorem dX8_forget_25 : decode cX8_forget 25 = .ok (.iadd, 1) := by decide +kernel
theorem dX8_forget_26 : decode cX8_forget 26 = .ok (.if_icmp .ge 42, 3) := by decide +kernel
theorem dX8_forget_29 : decode cX8_forget 29 = .ok (.aload_n 0, 1) := by decide +kernel
theorem dX8_forget_30 : decode cX8_forget 30 = .ok (.getfield 38, 3) := by decide +kernel
theorem dX8_forget_33 : decode cX8_forget 33 = .ok (.iload_n 1, 1) := by decide +kernel
theorem dX8_forget_34 : decode cX8_forget 34 = .ok (.aload_n 0, 1) := by decide +kernel
theorem dX8_forget_35 : decode cX8_forget 35 = .ok (.getfield 38, 3) := by decide +kernel
theorem dX8_forget_38 : decode cX8_forget 38 = .ok (.iload_n 2, 1) := by decide +kernel
theorem dX8_forget_39 : decode cX8_forget 39 = .ok (.laload, 1) := by decide +kernel
theorem dX8_forget_40 : decode cX8_forget 40 = .ok (.lastore, 1) := by decide +kernel
theorem dX8_forget_41 : decode cX8_forget 41 = .ok (.aload_n 0, 1) := by decide +kernel
theorem dX8_forget_42 : decode cX8_forget 42 = .ok (.getfield 42, 3) := by decide +kernel
theorem dX8_forget_45 : decode cX8_forget 45 = .ok (.iload_n 1, 1) := by decide +kernel
theorem dX8_forget_46 : decode cX8_forget 46 = .ok (.aload_n 0, 1) := by decide +kernel
theorem dX8_forget_47 : decode cX8_forget 47 = .ok (.getfield 42, 3) := by decide +kernel
theorem dX8_forget_50 : decode cX8_forget 50 = .ok (.iload_n 2, 1) := by decide +kernel
theorem dX8_forget_51 : decode cX8_forget 51 = .ok (.iaload, 1) := by decide +kernel
theorem dX8_forget_52 : decode cX8_forget 52 = .ok (.iastore, 1) := by decide +kernel
theorem dX8_forget_53 : decode cX8_forget 53 = .ok (.aload_n 0, 1) := by decide +kernel
theorem dX8_forget_54 : decode cX8_forget 54 = .ok (.getfield 35, 3) := by decide +kernel
theorem dX8_forget_57 : decode cX8_forget 57 = .ok (.iload_n 1, 1) := by decide +kernel
theorem dX8_forget_58 : decode cX8_forget 58 = .ok (.aload_n 0, 1) := by decide +kernel
theorem dX8_forget_59 : decode cX8_forget 59 = .ok (.getfield 35, 3) := by decide +kernel
theorem dX8_forget_62 : decode cX8_forget 62 = .ok (.iload_n 2, 1) := by decide +kernel
theorem dX8_forget_63 : decode cX8_forget 63 = .ok (.iaload, 1) := by decide +kernel
theorem dX8_forget_64 : decode cX8_forget 64 = .ok (.iastore, 1) := by decide +kernel
theorem dX8_forget_65 : decode cX8_forget 65 = .ok (.iinc 1 1, 3) := by decide +kernel
theorem dX8_forget_68 : decode cX8_forget 68 = .ok (.iinc 2 1, 3) := by decide +kernel
theorem dX8_forget_71 : decode cX8_forget 71 = .ok (.goto (-67), 3) := by decide +kernel
theorem dX8_forget_74 : decode cX8_forget 74 = .ok (.aload_n 0, 1) := by decide +kernel
theorem dX8_forget_75 : decode cX8_forget 75 = .ok (.iload_n 1, 1) := by decide +kernel
theorem dX8_forget_76 : decode cX8_forget 76 = .ok (.putfield 32, 3) := by decide +kernel
theorem dX8_forget_79 : decode cX8_forget 79 = .ok (.return_, 1) := by decide +kernel
theorem dX8_come_0 : decode cX8_come 0 = .ok (.iload 6, 2) := by decide +kernel
theorem dX8_come_2 : decode cX8_come 2 = .ok (.aload_n 0, 1) := by decide +kernel
theorem dX8_come_3 : decode cX8_come 3 = .ok (.getfield 24, 3) := by decide +kernel
theorem dX8_come_6 : decode cX8_come 6 = .ok (.if_icmp .le 6, 3) := by decide +kernel
theorem dX8_come_9 : decode cX8_come 9 = .ok (.bipush (-4), 2) := by decide +kernel
theorem dX8_come_11 : decode cX8_come 11 = .ok (.ireturn, 1) := by decide +kernel
theorem dX8_come_12 : decode cX8_come 12 = .ok (.iload 6, 2) := by decide +kernel
theorem dX8_come_14 : decode cX8_come 14 = .ok (.aload_n 0, 1) := by decide +kernel
theorem dX8_come_15 : decode cX8_come 15 = .ok (.getfield 24, 3) := by decide +kernel
theorem dX8_come_18 : decode cX8_come 18 = .ok (.sipush 500, 3) := by decide +kernel
theorem dX8_come_21 : decode cX8_come 21 = .ok (.isub, 1) := by decide +kernel
theorem dX8_come_22 : decode cX8_come 22 = .ok (.if_icmp .ge 6, 3) := by decide +kernel
theorem dX8_come_25 : decode cX8_come 25 = .ok (.bipush (-5), 2) := by decide +kernel
theorem dX8_come_27 : decode cX8_come 27 = .ok (.ireturn, 1) := by decide +kernel
theorem dX8_come_28 : decode cX8_come 28 = .ok (.aload_n 0, 1) := by decide +kernel
theorem dX8_come_29 : decode cX8_come 29 = .ok (.invokevirtual 45, 3) := by decide +kernel
theorem dX8_come_32 : decode cX8_come 32 = .ok (.aload_n 0, 1) := by decide +kernel
theorem dX8_come_33 : decode cX8_come 33 = .ok (.getfield 14, 3) := by decide +kernel
theorem dX8_come_36 : decode cX8_come 36 = .ok (.iload_n 3, 1) := by decide +kernel
theorem dX8_come_37 : decode cX8_come 37 = .ok (.iaload, 1) := by decide +kernel
theorem dX8_come_38 : decode cX8_come 38 = .ok (.istore 7, 2) := by decide +kernel
theorem dX8_come_40 : decode cX8_come 40 = .ok (.iconst 0, 1) := by decide +kernel
theorem dX8_come_41 : decode cX8_come 41 = .ok (.istore 8, 2) := by decide +kernel
theorem dX8_come_43 : decode cX8_come 43 = .ok (.iload 8, 2) := by decide +kernel
theorem dX8_come_45 : decode cX8_come 45 = .ok (.aload_n 0, 1) := by decide +kernel
theorem dX8_come_46 : decode cX8_come 46 = .ok (.getfield 32, 3) := by decide +kernel
theorem dX8_come_49 : decode cX8_come 49 = .ok (.if_icmp .ge 36, 3) := by decide +kernel
theorem dX8_come_52 : decode cX8_come 52 = .ok (.aload_n 0, 1) := by decide +kernel
theorem dX8_come_53 : decode cX8_come 53 = .ok (.getfield 38, 3) := by decide +kernel
theorem dX8_come_56 : decode cX8_come 56 = .ok (.iload 8, 2) := by decide +kernel
theorem dX8_come_58 : decode cX8_come 58 = .ok (.laload, 1) := by decide +kernel
theorem dX8_come_59 : decode cX8_come 59 = .ok (.lload_n 1, 1) := by decide +kernel
theorem dX8_come_60 : decode cX8_come 60 = .ok (.lcmp, 1) := by decide +kernel
theorem dX8_come_61 : decode cX8_come 61 = .ok (.ifCond .ne 18, 3) := by decide +kernel
theorem dX8_come_64 : decode cX8_come 64 = .ok (.aload_n 0, 1) := by decide +kernel
theorem dX8_come_65 : decode cX8_come 65 = .ok (.getfield 42, 3) := by decide +kernel
theorem dX8_come_68 : decode cX8_come 68 = .ok (.iload 8, 2) := by decide +kernel
theorem dX8_come_70 : decode cX8_come 70 = .ok (.iaload, 1) := by decide +kernel
theorem dX8_come_71 : decode cX8_come 71 = .ok (.iload 7, 2) := by decide +kernel
theorem dX8_come_73 : decode cX8_come 73 = .ok (.if_icmp .ne 6, 3) := by decide +kernel
theorem dX8_come_76 : decode cX8_come 76 = .ok (.bipush (-6), 2) := by decide +kernel
theorem dX8_come_78 : decode cX8_come 78 = .ok (.ireturn, 1) := by decide +kernel
theorem dX8_come_79 : decode cX8_come 79 = .ok (.iinc 8 1, 3) := by decide +kernel
theorem dX8_come_82 : decode cX8_come 82 = .ok (.goto (-39), 3) := by decide +kernel
theorem dX8_come_85 : decode cX8_come 85 = .ok (.aload_n 0, 1) := by decide +kernel
theorem dX8_come_86 : decode cX8_come 86 = .ok (.getfield 32, 3) := by decide +kernel
theorem dX8_come_89 : decode cX8_come 89 = .ok (.sipush 300, 3) := by decide +kernel
theorem dX8_come_92 : decode cX8_come 92 = .ok (.if_icmp .ne 6, 3) := by decide +kernel
theorem dX8_come_95 : decode cX8_come 95 = .ok (.bipush (-3), 2) := by decide +kernel
theorem dX8_come_97 : decode cX8_come 97 = .ok (.ireturn, 1) := by decide +kernel
theorem dX8_come_98 : decode cX8_come 98 = .ok (.aload_n 0, 1) := by decide +kernel
theorem dX8_come_99 : decode cX8_come 99 = .ok (.getfield 38, 3) := by decide +kernel
theorem dX8_come_102 : decode cX8_come 102 = .ok (.aload_n 0, 1) := by decide +kernel
theorem dX8_come_103 : decode cX8_come 103 = .ok (.getfield 32, 3) := by decide +kernel
theorem dX8_come_106 : decode cX8_come 106 = .ok (.lload_n 1, 1) := by decide +kernel
theorem dX8_come_107 : decode cX8_come 107 = .ok (.lastore, 1) := by decide +kernel
theorem dX8_come_108 : decode cX8_come 108 = .ok (.aload_n 0, 1) := by decide +kernel
theorem dX8_come_109 : decode cX8_come 109 = .ok (.getfield 42, 3) := by decide +kernel
theorem dX8_come_112 : decode cX8_come 112 = .ok (.aload_n 0, 1) := by decide +kernel
theorem dX8_come_113 : decode cX8_come 113 = .ok (.getfield 32, 3) := by decide +kernel
theorem dX8_come_116 : decode cX8_come 116 = .ok (.iload 7, 2) := by decide +kernel
theorem dX8_come_118 : decode cX8_come 118 = .ok (.iastore, 1) := by decide +kernel
theorem dX8_come_119 : decode cX8_come 119 = .ok (.aload_n 0, 1) := by decide +kernel
theorem dX8_come_120 : decode cX8_come 120 = .ok (.getfield 35, 3) := by decide +kernel
theorem dX8_come_123 : decode cX8_come 123 = .ok (.aload_n 0, 1) := by decide +kernel
theorem dX8_come_124 : decode cX8_come 124 = .ok (.getfield 32, 3) := by decide +kernel
theorem dX8_come_127 : decode cX8_come 127 = .ok (.iload 6, 2) := by decide +kernel
theorem dX8_come_129 : decode cX8_come 129 = .ok (.iastore, 1) := by decide +kernel
theorem dX8_come_130 : decode cX8_come 130 = .ok (.aload_n 0, 1) := by decide +kernel
theorem dX8_come_131 : decode cX8_come 131 = .ok (.dup, 1) := by decide +kernel
theorem dX8_come_132 : decode cX8_come 132 = .ok (.getfield 32, 3) := by decide +kernel
theorem dX8_come_135 : decode cX8_come 135 = .ok (.iconst 1, 1) := by decide +kernel
theorem dX8_come_136 : decode cX8_come 136 = .ok (.iadd, 1) := by decide +kernel
theorem dX8_come_137 : decode cX8_come 137 = .ok (.putfield 32, 3) := by decide +kernel
theorem dX8_come_140 : decode cX8_come 140 = .ok (.iload 6, 2) := by decide +kernel
theorem dX8_come_142 : decode cX8_come 142 = .ok (.sipush 1000, 3) := by decide +kernel
theorem dX8_come_145 : decode cX8_come 145 = .ok (.idiv, 1) := by decide +kernel
theorem dX8_come_146 : decode cX8_come 146 = .ok (.istore 8, 2) := by decide +kernel
theorem dX8_come_148 : decode cX8_come 148 = .ok (.iload 8, 2) := by decide +kernel
theorem dX8_come_150 : decode cX8_come 150 = .ok (.aload_n 0, 1) := by decide +kernel
theorem dX8_come_151 : decode cX8_come 151 = .ok (.getfield 49, 3) := by decide +kernel
theorem dX8_come_154 : decode cX8_come 154 = .ok (.iload 7, 2) := by decide +kernel
theorem dX8_come_156 : decode cX8_come 156 = .ok (.iaload, 1) := by decide +kernel
theorem dX8_come_157 : decode cX8_come 157 = .ok (.if_icmp .ge 7, 3) := by decide +kernel
theorem dX8_come_160 : decode cX8_come 160 = .ok (.iconst 1, 1) := by decide +kernel
theorem dX8_come_161 : decode cX8_come 161 = .ok (.goto 4, 3) := by decide +kernel
theorem dX8_come_164 : decode cX8_come 164 = .ok (.iconst 0, 1) := by decide +kernel
theorem dX8_come_165 : decode cX8_come 165 = .ok (.istore 9, 2) := by decide +kernel
theorem dX8_come_167 : decode cX8_come 167 = .ok (.iload 9, 2) := by decide +kernel
theorem dX8_come_169 : decode cX8_come 169 = .ok (.ifCond .eq 15, 3) := by decide +kernel
theorem dX8_come_172 : decode cX8_come 172 = .ok (.aload_n 0, 1) := by decide +kernel
theorem dX8_come_173 : decode cX8_come 173 = .ok (.iload 7, 2) := by decide +kernel
theorem dX8_come_175 : decode cX8_come 175 = .ok (.iload 4, 2) := by decide +kernel
theorem dX8_come_177 : decode cX8_come 177 = .ok (.iload 8, 2) := by decide +kernel
theorem dX8_come_179 : decode cX8_come 179 = .ok (.iload 5, 2) := by decide +kernel
theorem dX8_come_181 : decode cX8_come 181 = .ok (.invokevirtual 52, 3) := by decide +kernel
theorem dX8_come_184 : decode cX8_come 184 = .ok (.aload_n 0, 1) := by decide +kernel
theorem dX8_come_185 : decode cX8_come 185 = .ok (.getfield 56, 3) := by decide +kernel
theorem dX8_come_188 : decode cX8_come 188 = .ok (.iload_n 3, 1) := by decide +kernel
theorem dX8_come_189 : decode cX8_come 189 = .ok (.iload 4, 2) := by decide +kernel
theorem dX8_come_191 : decode cX8_come 191 = .ok (.iload 8, 2) := by decide +kernel
theorem dX8_come_193 : decode cX8_come 193 = .ok (.invokestatic 59, 3) := by decide +kernel
theorem dX8_come_196 : decode cX8_come 196 = .ok (.dup2, 1) := by decide +kernel
theorem dX8_come_197 : decode cX8_come 197 = .ok (.laload, 1) := by decide +kernel
theorem dX8_come_198 : decode cX8_come 198 = .ok (.iload 5, 2) := by decide +kernel
theorem dX8_come_200 : decode cX8_come 200 = .ok (.i2l, 1) := by decide +kernel
theorem dX8_come_201 : decode cX8_come 201 = .ok (.ladd, 1) := by decide +kernel
theorem dX8_come_202 : decode cX8_come 202 = .ok (.lastore, 1) := by decide +kernel
theorem dX8_come_203 : decode cX8_come 203 = .ok (.iload 9, 2) := by decide +kernel
theorem dX8_come_205 : decode cX8_come 205 = .ok (.ifCond .eq 7, 3) := by decide +kernel
theorem dX8_come_208 : decode cX8_come 208 = .ok (.iconst 1, 1) := by decide +kernel
theorem dX8_come_209 : decode cX8_come 209 = .ok (.goto 4, 3) := by decide +kernel
theorem dX8_come_212 : decode cX8_come 212 = .ok (.iconst 0, 1) := by decide +kernel
theorem dX8_come_213 : decode cX8_come 213 = .ok (.ireturn, 1) := by decide +kernel
theorem dX8_areUnits_0 : decode cX8_areUnits 0 = .ok (.iload_n 0, 1) := by decide +kernel
theorem dX8_areUnits_1 : decode cX8_areUnits 1 = .ok (.iconst 1, 1) := by decide +kernel
theorem dX8_areUnits_2 : decode cX8_areUnits 2 = .ok (.if_icmp .lt 13, 3) := by decide +kernel
theorem dX8_areUnits_5 : decode cX8_areUnits 5 = .ok (.iload_n 0, 1) := by decide +kernel
theorem dX8_areUnits_6 : decode cX8_areUnits 6 = .ok (.ldc 63, 2) := by decide +kernel
theorem dX8_areUnits_8 : decode cX8_areUnits 8 = .ok (.if_icmp .gt 7, 3) := by decide +kernel
theorem dX8_areUnits_11 : decode cX8_areUnits 11 = .ok (.iconst 1, 1) := by decide +kernel
theorem dX8_areUnits_12 : decode cX8_areUnits 12 = .ok (.goto 4, 3) := by decide +kernel
theorem dX8_areUnits_15 : decode cX8_areUnits 15 = .ok (.iconst 0, 1) := by decide +kernel
theorem dX8_areUnits_16 : decode cX8_areUnits 16 = .ok (.ireturn, 1) := by decide +kernel
theorem dX8_event_0 : decode cX8_event 0 = .ok (.aload_n 0, 1) := by decide +kernel
theorem dX8_event_1 : decode cX8_event 1 = .ok (.iload_n 3, 1) := by decide +kernel
theorem dX8_event_2 : decode cX8_event 2 = .ok (.invokevirtual 11, 3) := by decide +kernel
theorem dX8_event_5 : decode cX8_event 5 = .ok (.ifCond .eq 24, 3) := by decide +kernel
theorem dX8_event_8 : decode cX8_event 8 = .ok (.iload 4, 2) := by decide +kernel
theorem dX8_event_10 : decode cX8_event 10 = .ok (.invokestatic 28, 3) := by decide +kernel
theorem dX8_event_13 : decode cX8_event 13 = .ok (.ifCond .eq 16, 3) := by decide +kernel
theorem dX8_event_16 : decode cX8_event 16 = .ok (.iload 5, 2) := by decide +kernel
theorem dX8_event_18 : decode cX8_event 18 = .ok (.invokestatic 64, 3) := by decide +kernel
theorem dX8_event_21 : decode cX8_event 21 = .ok (.ifCond .eq 8, 3) := by decide +kernel
theorem dX8_event_24 : decode cX8_event 24 = .ok (.iload 6, 2) := by decide +kernel
theorem dX8_event_26 : decode cX8_event 26 = .ok (.ifCond .ge 6, 3) := by decide +kernel
theorem dX8_event_29 : decode cX8_event 29 = .ok (.bipush (-2), 2) := by decide +kernel
theorem dX8_event_31 : decode cX8_event 31 = .ok (.ireturn, 1) := by decide +kernel
theorem dX8_event_32 : decode cX8_event 32 = .ok (.aload_n 0, 1) := by decide +kernel
theorem dX8_event_33 : decode cX8_event 33 = .ok (.lload_n 1, 1) := by decide +kernel
theorem dX8_event_34 : decode cX8_event 34 = .ok (.iload_n 3, 1) := by decide +kernel
theorem dX8_event_35 : decode cX8_event 35 = .ok (.iload 4, 2) := by decide +kernel
theorem dX8_event_37 : decode cX8_event 37 = .ok (.iload 5, 2) := by decide +kernel
theorem dX8_event_39 : decode cX8_event 39 = .ok (.iload 6, 2) := by decide +kernel
theorem dX8_event_41 : decode cX8_event 41 = .ok (.invokevirtual 67, 3) := by decide +kernel
theorem dX8_event_44 : decode cX8_event 44 = .ok (.ireturn, 1) := by decide +kernel
theorem dX8_used_0 : decode cX8_used 0 = .ok (.aload_n 0, 1) := by decide +kernel
theorem dX8_used_1 : decode cX8_used 1 = .ok (.iload_n 1, 1) := by decide +kernel
theorem dX8_used_2 : decode cX8_used 2 = .ok (.invokevirtual 11, 3) := by decide +kernel
theorem dX8_used_5 : decode cX8_used 5 = .ok (.ifCond .eq 30, 3) := by decide +kernel
theorem dX8_used_8 : decode cX8_used 8 = .ok (.iload_n 2, 1) := by decide +kernel
theorem dX8_used_9 : decode cX8_used 9 = .ok (.invokestatic 28, 3) := by decide +kernel
theorem dX8_used_12 : decode cX8_used 12 = .ok (.ifCond .eq 23, 3) := by decide +kernel
theorem dX8_used_15 : decode cX8_used 15 = .ok (.iload_n 3, 1) := by decide +kernel
theorem dX8_used_16 : decode cX8_used 16 = .ok (.ifCond .lt 19, 3) := by decide +kernel
theorem dX8_used_19 : decode cX8_used 19 = .ok (.iload_n 3, 1) := by decide +kernel
theorem dX8_used_20 : decode cX8_used 20 = .ok (.bipush 100, 2) := by decide +kernel
theorem dX8_used_22 : decode cX8_used 22 = .ok (.if_icmp .ge 13, 3) := by decide +kernel
theorem dX8_used_25 : decode cX8_used 25 = .ok (.aload_n 0, 1) := by decide +kernel
theorem dX8_used_26 : decode cX8_used 26 = .ok (.iload_n 1, 1) := by decide +kernel
theorem dX8_used_27 : decode cX8_used 27 = .ok (.iload_n 2, 1) := by decide +kernel
theorem dX8_used_28 : decode cX8_used 28 = .ok (.iload_n 3, 1) := by decide +kernel
theorem dX8_used_29 : decode cX8_used 29 = .ok (.invokevirtual 71, 3) := by decide +kernel
theorem dX8_used_32 : decode cX8_used 32 = .ok (.goto 6, 3) := by decide +kernel
theorem dX8_used_35 : decode cX8_used 35 = .ok (.ldc2_w 75, 3) := by decide +kernel
theorem dX8_used_38 : decode cX8_used 38 = .ok (.lreturn, 1) := by decide +kernel
theorem dX8_usedOf_0 : decode cX8_usedOf 0 = .ok (.lconst 0, 1) := by decide +kernel
theorem dX8_usedOf_1 : decode cX8_usedOf 1 = .ok (.lstore 4, 2) := by decide +kernel
theorem dX8_usedOf_3 : decode cX8_usedOf 3 = .ok (.iconst 0, 1) := by decide +kernel
theorem dX8_usedOf_4 : decode cX8_usedOf 4 = .ok (.istore 6, 2) := by decide +kernel
theorem dX8_usedOf_6 : decode cX8_usedOf 6 = .ok (.iload 6, 2) := by decide +kernel
theorem dX8_usedOf_8 : decode cX8_usedOf 8 = .ok (.aload_n 0, 1) := by decide +kernel
theorem dX8_usedOf_9 : decode cX8_usedOf 9 = .ok (.getfield 3, 3) := by decide +kernel
theorem dX8_usedOf_12 : decode cX8_usedOf 12 = .ok (.if_icmp .ge 40, 3) := by decide +kernel
theorem dX8_usedOf_15 : decode cX8_usedOf 15 = .ok (.lload 4, 2) := by decide +kernel
theorem dX8_usedOf_17 : decode cX8_usedOf 17 = .ok (.aload_n 0, 1) := by decide +kernel
theorem dX8_usedOf_18 : decode cX8_usedOf 18 = .ok (.iload 6, 2) := by decide +kernel
theorem dX8_usedOf_20 : decode cX8_usedOf 20 = .ok (.iload_n 1, 1) := by decide +kernel
theorem dX8_usedOf_21 : decode cX8_usedOf 21 = .ok (.invokevirtual 77, 3) := by decide +kernel
theorem dX8_usedOf_24 : decode cX8_usedOf 24 = .ok (.ifCond .eq 18, 3) := by decide +kernel
theorem dX8_usedOf_27 : decode cX8_usedOf 27 = .ok (.aload_n 0, 1) := by decide +kernel
theorem dX8_usedOf_28 : decode cX8_usedOf 28 = .ok (.getfield 56, 3) := by decide +kernel
theorem dX8_usedOf_31 : decode cX8_usedOf 31 = .ok (.iload 6, 2) := by decide +kernel
theorem dX8_usedOf_33 : decode cX8_usedOf 33 = .ok (.iload_n 2, 1) := by decide +kernel
theorem dX8_usedOf_34 : decode cX8_usedOf 34 = .ok (.iload_n 3, 1) := by decide +kernel
theorem dX8_usedOf_35 : decode cX8_usedOf 35 = .ok (.invokestatic 59, 3) := by decide +kernel
theorem dX8_usedOf_38 : decode cX8_usedOf 38 = .ok (.laload, 1) := by decide +kernel
theorem dX8_usedOf_39 : decode cX8_usedOf 39 = .ok (.goto 4, 3) := by decide +kernel
theorem dX8_usedOf_42 : decode cX8_usedOf 42 = .ok (.lconst 0, 1) := by decide +kernel
theorem dX8_usedOf_43 : decode cX8_usedOf 43 = .ok (.ladd, 1) := by decide +kernel
theorem dX8_usedOf_44 : decode cX8_usedOf 44 = .ok (.lstore 4, 2) := by decide +kernel
theorem dX8_usedOf_46 : decode cX8_usedOf 46 = .ok (.iinc 6 1, 3) := by decide +kernel
theorem dX8_usedOf_49 : decode cX8_usedOf 49 = .ok (.goto (-43), 3) := by decide +kernel
theorem dX8_usedOf_52 : decode cX8_usedOf 52 = .ok (.lload 4, 2) := by decide +kernel
theorem dX8_usedOf_54 : decode cX8_usedOf 54 = .ok (.lreturn, 1) := by decide +kernel
theorem dX8_isOpen_0 : decode cX8_isOpen 0 = .ok (.iload_n 1, 1) := by decide +kernel
theorem dX8_isOpen_1 : decode cX8_isOpen 1 = .ok (.ifCond .lt 40, 3) := by decide +kernel
theorem dX8_isOpen_4 : decode cX8_isOpen 4 = .ok (.iload_n 1, 1) := by decide +kernel
theorem dX8_isOpen_5 : decode cX8_isOpen 5 = .ok (.aload_n 0, 1) := by decide +kernel
theorem dX8_isOpen_6 : decode cX8_isOpen 6 = .ok (.getfield 81, 3) := by decide +kernel
theorem dX8_isOpen_9 : decode cX8_isOpen 9 = .ok (.if_icmp .ge 32, 3) := by decide +kernel
theorem dX8_isOpen_12 : decode cX8_isOpen 12 = .ok (.aload_n 0, 1) := by decide +kernel
theorem dX8_isOpen_13 : decode cX8_isOpen 13 = .ok (.getfield 84, 3) := by decide +kernel
theorem dX8_isOpen_16 : decode cX8_isOpen 16 = .ok (.iload_n 1, 1) := by decide +kernel
theorem dX8_isOpen_17 : decode cX8_isOpen 17 = .ok (.baload, 1) := by decide +kernel
theorem dX8_isOpen_18 : decode cX8_isOpen 18 = .ok (.ifCond .ne 23, 3) := by decide +kernel
theorem dX8_isOpen_21 : decode cX8_isOpen 21 = .ok (.aload_n 0, 1) := by decide +kernel
theorem dX8_isOpen_22 : decode cX8_isOpen 22 = .ok (.getfield 24, 3) := by decide +kernel
theorem dX8_isOpen_25 : decode cX8_isOpen 25 = .ok (.aload_n 0, 1) := by decide +kernel
theorem dX8_isOpen_26 : decode cX8_isOpen 26 = .ok (.getfield 88, 3) := by decide +kernel
theorem dX8_isOpen_29 : decode cX8_isOpen 29 = .ok (.iload_n 1, 1) := by decide +kernel
theorem dX8_isOpen_30 : decode cX8_isOpen 30 = .ok (.iaload, 1) := by decide +kernel
theorem dX8_isOpen_31 : decode cX8_isOpen 31 = .ok (.bipush 60, 2) := by decide +kernel
theorem dX8_isOpen_33 : decode cX8_isOpen 33 = .ok (.iadd, 1) := by decide +kernel
theorem dX8_isOpen_34 : decode cX8_isOpen 34 = .ok (.if_icmp .ge 7, 3) := by decide +kernel
theorem dX8_isOpen_37 : decode cX8_isOpen 37 = .ok (.iconst 1, 1) := by decide +kernel
theorem dX8_isOpen_38 : decode cX8_isOpen 38 = .ok (.goto 4, 3) := by decide +kernel
theorem dX8_isOpen_41 : decode cX8_isOpen 41 = .ok (.iconst 0, 1) := by decide +kernel
theorem dX8_isOpen_42 : decode cX8_isOpen 42 = .ok (.ireturn, 1) := by decide +kernel
theorem dX8_open_0 : decode cX8_open 0 = .ok (.iconst 0, 1) := by decide +kernel
theorem dX8_open_1 : decode cX8_open 1 = .ok (.istore_n 1, 1) := by decide +kernel
theorem dX8_open_2 : decode cX8_open 2 = .ok (.iconst 0, 1) := by decide +kernel
theorem dX8_open_3 : decode cX8_open 3 = .ok (.istore_n 2, 1) := by decide +kernel
theorem dX8_open_4 : decode cX8_open 4 = .ok (.iload_n 2, 1) := by decide +kernel
theorem dX8_open_5 : decode cX8_open 5 = .ok (.aload_n 0, 1) := by decide +kernel
theorem dX8_open_6 : decode cX8_open 6 = .ok (.getfield 81, 3) := by decide +kernel
theorem dX8_open_9 : decode cX8_open 9 = .ok (.if_icmp .ge 25, 3) := by decide +kernel
theorem dX8_open_12 : decode cX8_open 12 = .ok (.iload_n 1, 1) := by decide +kernel
theorem dX8_open_13 : decode cX8_open 13 = .ok (.aload_n 0, 1) := by decide +kernel
theorem dX8_open_14 : decode cX8_open 14 = .ok (.iload_n 2, 1) := by decide +kernel
theorem dX8_open_15 : decode cX8_open 15 = .ok (.invokevirtual 91, 3) := by decide +kernel
theorem dX8_open_18 : decode cX8_open 18 = .ok (.ifCond .eq 7, 3) := by decide +kernel
theorem dX8_open_21 : decode cX8_open 21 = .ok (.iconst 1, 1) := by decide +kernel
theorem dX8_open_22 : decode cX8_open 22 = .ok (.goto 4, 3) := by decide +kernel
theorem dX8_open_25 : decode cX8_open 25 = .ok (.iconst 0, 1) := by decide +kernel
theorem dX8_open_26 : decode cX8_open 26 = .ok (.iadd, 1) := by decide +kernel
theorem dX8_open_27 : decode cX8_open 27 = .ok (.istore_n 1, 1) := by decide +kernel
theorem dX8_open_28 : decode cX8_open 28 = .ok (.iinc 2 1, 3) := by decide +kernel
theorem dX8_open_31 : decode cX8_open 31 = .ok (.goto (-27), 3) := by decide +kernel
theorem dX8_open_34 : decode cX8_open 34 = .ok (.iload_n 1, 1) := by decide +kernel
theorem dX8_open_35 : decode cX8_open 35 = .ok (.ireturn, 1) := by decide +kernel
theorem dX8_held_0 : decode cX8_held 0 = .ok (.aload_n 0, 1) := by decide +kernel
theorem dX8_held_1 : decode cX8_held 1 = .ok (.iload_n 1, 1) := by decide +kernel
theorem dX8_held_2 : decode cX8_held 2 = .ok (.invokevirtual 11, 3) := by decide +kernel
theorem dX8_held_5 : decode cX8_held 5 = .ok (.ifCond .eq 19, 3) := by decide +kernel
theorem dX8_held_8 : decode cX8_held 8 = .ok (.iload_n 2, 1) := by decide +kernel
theorem dX8_held_9 : decode cX8_held 9 = .ok (.invokestatic 28, 3) := by decide +kernel
theorem dX8_held_12 : decode cX8_held 12 = .ok (.ifCond .eq 12, 3) := by decide +kernel
theorem dX8_held_15 : decode cX8_held 15 = .ok (.aload_n 0, 1) := by decide +kernel
theorem dX8_held_16 : decode cX8_held 16 = .ok (.iload_n 1, 1) := by decide +kernel
theorem dX8_held_17 : decode cX8_held 17 = .ok (.iload_n 2, 1) := by decide +kernel
theorem dX8_held_18 : decode cX8_held 18 = .ok (.invokevirtual 94, 3) := by decide +kernel
theorem dX8_held_21 : decode cX8_held 21 = .ok (.goto 5, 3) := by decide +kernel
theorem dX8_held_24 : decode cX8_held 24 = .ok (.bipush (-2), 2) := by decide +kernel
theorem dX8_held_26 : decode cX8_held 26 = .ok (.ireturn, 1) := by decide +kernel
theorem dX8_heldOf_0 : decode cX8_heldOf 0 = .ok (.iconst 0, 1) := by decide +kernel
theorem dX8_heldOf_1 : decode cX8_heldOf 1 = .ok (.istore_n 3, 1) := by decide +kernel
theorem dX8_heldOf_2 : decode cX8_heldOf 2 = .ok (.iconst 0, 1) := by decide +kernel
theorem dX8_heldOf_3 : decode cX8_heldOf 3 = .ok (.istore 4, 2) := by decide +kernel
theorem dX8_heldOf_5 : decode cX8_heldOf 5 = .ok (.iload 4, 2) := by decide +kernel
theorem dX8_heldOf_7 : decode cX8_heldOf 7 = .ok (.aload_n 0, 1) := by decide +kernel
theorem dX8_heldOf_8 : decode cX8_heldOf 8 = .ok (.getfield 81, 3) := by decide +kernel
theorem dX8_heldOf_11 : decode cX8_heldOf 11 = .ok (.if_icmp .ge 58, 3) := by decide +kernel
theorem dX8_heldOf_14 : decode cX8_heldOf 14 = .ok (.iload_n 3, 1) := by decide +kernel
theorem dX8_heldOf_15 : decode cX8_heldOf 15 = .ok (.aload_n 0, 1) := by decide +kernel
theorem dX8_heldOf_16 : decode cX8_heldOf 16 = .ok (.iload 4, 2) := by decide +kernel
theorem dX8_heldOf_18 : decode cX8_heldOf 18 = .ok (.invokevirtual 91, 3) := by decide +kernel
theorem dX8_heldOf_21 : decode cX8_heldOf 21 = .ok (.ifCond .eq 39, 3) := by decide +kernel
theorem dX8_heldOf_24 : decode cX8_heldOf 24 = .ok (.aload_n 0, 1) := by decide +kernel
theorem dX8_heldOf_25 : decode cX8_heldOf 25 = .ok (.getfield 98, 3) := by decide +kernel
theorem dX8_heldOf_28 : decode cX8_heldOf 28 = .ok (.iload 4, 2) := by decide +kernel
theorem dX8_heldOf_30 : decode cX8_heldOf 30 = .ok (.iaload, 1) := by decide +kernel
theorem dX8_heldOf_31 : decode cX8_heldOf 31 = .ok (.iload_n 2, 1) := by decide +kernel
theorem dX8_heldOf_32 : decode cX8_heldOf 32 = .ok (.if_icmp .ne 28, 3) := by decide +kernel
theorem dX8_heldOf_35 : decode cX8_heldOf 35 = .ok (.aload_n 0, 1) := by decide +kernel
theorem dX8_heldOf_36 : decode cX8_heldOf 36 = .ok (.aload_n 0, 1) := by decide +kernel
theorem dX8_heldOf_37 : decode cX8_heldOf 37 = .ok (.getfield 101, 3) := by decide +kernel
theorem dX8_heldOf_40 : decode cX8_heldOf 40 = .ok (.iload 4, 2) := by decide +kernel
theorem dX8_heldOf_42 : decode cX8_heldOf 42 = .ok (.iaload, 1) := by decide +kernel
theorem dX8_heldOf_43 : decode cX8_heldOf 43 = .ok (.iload_n 1, 1) := by decide +kernel
theorem dX8_heldOf_44 : decode cX8_heldOf 44 = .ok (.invokevirtual 77, 3) := by decide +kernel
theorem dX8_heldOf_47 : decode cX8_heldOf 47 = .ok (.ifCond .eq 13, 3) := by decide +kernel
theorem dX8_heldOf_50 : decode cX8_heldOf 50 = .ok (.aload_n 0, 1) := by decide +kernel
theorem dX8_heldOf_51 : decode cX8_heldOf 51 = .ok (.getfield 104, 3) := by decide +kernel
theorem dX8_heldOf_54 : decode cX8_heldOf 54 = .ok (.iload 4, 2) := by decide +kernel
theorem dX8_heldOf_56 : decode cX8_heldOf 56 = .ok (.iaload, 1) := by decide +kernel
theorem dX8_heldOf_57 : decode cX8_heldOf 57 = .ok (.goto 4, 3) := by decide +kernel
theorem dX8_heldOf_60 : decode cX8_heldOf 60 = .ok (.iconst 0, 1) := by decide +kernel
theorem dX8_heldOf_61 : decode cX8_heldOf 61 = .ok (.iadd, 1) := by decide +kernel
theorem dX8_heldOf_62 : decode cX8_heldOf 62 = .ok (.istore_n 3, 1) := by decide +kernel
theorem dX8_heldOf_63 : decode cX8_heldOf 63 = .ok (.iinc 4 1, 3) := by decide +kernel
theorem dX8_heldOf_66 : decode cX8_heldOf 66 = .ok (.goto (-61), 3) := by decide +kernel
theorem dX8_heldOf_69 : decode cX8_heldOf 69 = .ok (.iload_n 3, 1) := by decide +kernel
theorem dX8_heldOf_70 : decode cX8_heldOf 70 = .ok (.ireturn, 1) := by decide +kernel
theorem dX8_roomOf_0 : decode cX8_roomOf 0 = .ok (.ldc2_w 107, 3) := by decide +kernel
theorem dX8_roomOf_3 : decode cX8_roomOf 3 = .ok (.lstore_n 3, 1) := by decide +kernel
theorem dX8_roomOf_4 : decode cX8_roomOf 4 = .ok (.iload_n 1, 1) := by decide +kernel
theorem dX8_roomOf_5 : decode cX8_roomOf 5 = .ok (.istore 5, 2) := by decide +kernel
theorem dX8_roomOf_7 : decode cX8_roomOf 7 = .ok (.iload 5, 2) := by decide +kernel
theorem dX8_roomOf_9 : decode cX8_roomOf 9 = .ok (.iconst (-1), 1) := by decide +kernel
theorem dX8_roomOf_10 : decode cX8_roomOf 10 = .ok (.if_icmp .eq 72, 3) := by decide +kernel
theorem dX8_roomOf_13 : decode cX8_roomOf 13 = .ok (.aload_n 0, 1) := by decide +kernel
theorem dX8_roomOf_14 : decode cX8_roomOf 14 = .ok (.getfield 21, 3) := by decide +kernel
theorem dX8_roomOf_17 : decode cX8_roomOf 17 = .ok (.iconst 4, 1) := by decide +kernel
theorem dX8_roomOf_18 : decode cX8_roomOf 18 = .ok (.iload 5, 2) := by decide +kernel
theorem dX8_roomOf_20 : decode cX8_roomOf 20 = .ok (.imul, 1) := by decide +kernel
theorem dX8_roomOf_21 : decode cX8_roomOf 21 = .ok (.iload_n 2, 1) := by decide +kernel
theorem dX8_roomOf_22 : decode cX8_roomOf 22 = .ok (.iadd, 1) := by decide +kernel
theorem dX8_roomOf_23 : decode cX8_roomOf 23 = .ok (.iaload, 1) := by decide +kernel
theorem dX8_roomOf_24 : decode cX8_roomOf 24 = .ok (.iconst (-1), 1) := by decide +kernel
theorem dX8_roomOf_25 : decode cX8_roomOf 25 = .ok (.if_icmp .eq 45, 3) := by decide +kernel
theorem dX8_roomOf_28 : decode cX8_roomOf 28 = .ok (.lload_n 3, 1) := by decide +kernel
theorem dX8_roomOf_29 : decode cX8_roomOf 29 = .ok (.aload_n 0, 1) := by decide +kernel
theorem dX8_roomOf_30 : decode cX8_roomOf 30 = .ok (.getfield 21, 3) := by decide +kernel
theorem dX8_roomOf_33 : decode cX8_roomOf 33 = .ok (.iconst 4, 1) := by decide +kernel
theorem dX8_roomOf_34 : decode cX8_roomOf 34 = .ok (.iload 5, 2) := by decide +kernel
theorem dX8_roomOf_36 : decode cX8_roomOf 36 = .ok (.imul, 1) := by decide +kernel
theorem dX8_roomOf_37 : decode cX8_roomOf 37 = .ok (.iload_n 2, 1) := by decide +kernel
theorem dX8_roomOf_38 : decode cX8_roomOf 38 = .ok (.iadd, 1) := by decide +kernel
theorem dX8_roomOf_39 : decode cX8_roomOf 39 = .ok (.iaload, 1) := by decide +kernel
theorem dX8_roomOf_40 : decode cX8_roomOf 40 = .ok (.i2l, 1) := by decide +kernel
theorem dX8_roomOf_41 : decode cX8_roomOf 41 = .ok (.aload_n 0, 1) := by decide +kernel
theorem dX8_roomOf_42 : decode cX8_roomOf 42 = .ok (.iload 5, 2) := by decide +kernel
theorem dX8_roomOf_44 : decode cX8_roomOf 44 = .ok (.iload_n 2, 1) := by decide +kernel
theorem dX8_roomOf_45 : decode cX8_roomOf 45 = .ok (.aload_n 0, 1) := by decide +kernel
theorem dX8_roomOf_46 : decode cX8_roomOf 46 = .ok (.getfield 24, 3) := by decide +kernel
theorem dX8_roomOf_49 : decode cX8_roomOf 49 = .ok (.sipush 1000, 3) := by decide +kernel
theorem dX8_roomOf_52 : decode cX8_roomOf 52 = .ok (.idiv, 1) := by decide +kernel
theorem dX8_roomOf_53 : decode cX8_roomOf 53 = .ok (.invokevirtual 71, 3) := by decide +kernel
theorem dX8_roomOf_56 : decode cX8_roomOf 56 = .ok (.lsub, 1) := by decide +kernel
theorem dX8_roomOf_57 : decode cX8_roomOf 57 = .ok (.aload_n 0, 1) := by decide +kernel
theorem dX8_roomOf_58 : decode cX8_roomOf 58 = .ok (.iload 5, 2) := by decide +kernel
theorem dX8_roomOf_60 : decode cX8_roomOf 60 = .ok (.iload_n 2, 1) := by decide +kernel
theorem dX8_roomOf_61 : decode cX8_roomOf 61 = .ok (.invokevirtual 94, 3) := by decide +kernel
theorem dX8_roomOf_64 : decode cX8_roomOf 64 = .ok (.i2l, 1) := by decide +kernel
theorem dX8_roomOf_65 : decode cX8_roomOf 65 = .ok (.lsub, 1) := by decide +kernel
theorem dX8_roomOf_66 : decode cX8_roomOf 66 = .ok (.invokestatic 109, 3) := by decide +kernel
theorem dX8_roomOf_69 : decode cX8_roomOf 69 = .ok (.lstore_n 3, 1) := by decide +kernel
theorem dX8_roomOf_70 : decode cX8_roomOf 70 = .ok (.aload_n 0, 1) := by decide +kernel
theorem dX8_roomOf_71 : decode cX8_roomOf 71 = .ok (.getfield 18, 3) := by decide +kernel
theorem dX8_roomOf_74 : decode cX8_roomOf 74 = .ok (.iload 5, 2) := by decide +kernel
theorem dX8_roomOf_76 : decode cX8_roomOf 76 = .ok (.iaload, 1) := by decide +kernel
theorem dX8_roomOf_77 : decode cX8_roomOf 77 = .ok (.istore 5, 2) := by decide +kernel
theorem dX8_roomOf_79 : decode cX8_roomOf 79 = .ok (.goto (-72), 3) := by decide +kernel
theorem dX8_roomOf_82 : decode cX8_roomOf 82 = .ok (.lload_n 3, 1) := by decide +kernel
theorem dX8_roomOf_83 : decode cX8_roomOf 83 = .ok (.lreturn, 1) := by decide +kernel
theorem dX8_room_0 : decode cX8_room 0 = .ok (.aload_n 0, 1) := by decide +kernel
theorem dX8_room_1 : decode cX8_room 1 = .ok (.iload_n 1, 1) := by decide +kernel
theorem dX8_room_2 : decode cX8_room 2 = .ok (.invokevirtual 11, 3) := by decide +kernel
theorem dX8_room_5 : decode cX8_room 5 = .ok (.ifCond .eq 24, 3) := by decide +kernel
theorem dX8_room_8 : decode cX8_room 8 = .ok (.iload_n 2, 1) := by decide +kernel
theorem dX8_room_9 : decode cX8_room 9 = .ok (.invokestatic 28, 3) := by decide +kernel
theorem dX8_room_12 : decode cX8_room 12 = .ok (.ifCond .eq 17, 3) := by decide +kernel
theorem dX8_room_15 : decode cX8_room 15 = .ok (.lconst 0, 1) := by decide +kernel
theorem dX8_room_16 : decode cX8_room 16 = .ok (.aload_n 0, 1) := by decide +kernel
theorem dX8_room_17 : decode cX8_room 17 = .ok (.iload_n 1, 1) := by decide +kernel
theorem dX8_room_18 : decode cX8_room 18 = .ok (.iload_n 2, 1) := by decide +kernel
theorem dX8_room_19 : decode cX8_room 19 = .ok (.invokevirtual 115, 3) := by decide +kernel
theorem dX8_room_22 : decode cX8_room 22 = .ok (.invokestatic 119, 3) := by decide +kernel
theorem dX8_room_25 : decode cX8_room 25 = .ok (.l2i, 1) := by decide +kernel
theorem dX8_room_26 : decode cX8_room 26 = .ok (.goto 5, 3) := by decide +kernel
theorem dX8_room_29 : decode cX8_room 29 = .ok (.bipush (-2), 2) := by decide +kernel
theorem dX8_room_31 : decode cX8_room 31 = .ok (.ireturn, 1) := by decide +kernel
theorem dX8_request_0 : decode cX8_request 0 = .ok (.aload_n 0, 1) := by decide +kernel
theorem dX8_request_1 : decode cX8_request 1 = .ok (.iload_n 1, 1) := by decide +kernel
theorem dX8_request_2 : decode cX8_request 2 = .ok (.invokevirtual 11, 3) := by decide +kernel
theorem dX8_request_5 : decode cX8_request 5 = .ok (.ifCond .eq 17, 3) := by decide +kernel
theorem dX8_request_8 : decode cX8_request 8 = .ok (.iload_n 2, 1) := by decide +kernel
theorem dX8_request_9 : decode cX8_request 9 = .ok (.invokestatic 28, 3) := by decide +kernel
theorem dX8_request_12 : decode cX8_request 12 = .ok (.ifCond .eq 10, 3) := by decide +kernel
theorem dX8_request_15 : decode cX8_request 15 = .ok (.iload_n 3, 1) := by decide +kernel
theorem dX8_request_16 : decode cX8_request 16 = .ok (.invokestatic 64, 3) := by decide +kernel
theorem dX8_request_19 : decode cX8_request 19 = .ok (.ifCond .ne 6, 3) := by decide +kernel
theorem dX8_request_22 : decode cX8_request 22 = .ok (.bipush (-2), 2) := by decide +kernel
theorem dX8_request_24 : decode cX8_request 24 = .ok (.ireturn, 1) := by decide +kernel
theorem dX8_request_25 : decode cX8_request 25 = .ok (.aload_n 0, 1) := by decide +kernel
theorem dX8_request_26 : decode cX8_request 26 = .ok (.invokevirtual 122, 3) := by decide +kernel
theorem dX8_request_29 : decode cX8_request 29 = .ok (.bipush 40, 2) := by decide +kernel
theorem dX8_request_31 : decode cX8_request 31 = .ok (.if_icmp .eq 13, 3) := by decide +kernel
theorem dX8_request_34 : decode cX8_request 34 = .ok (.aload_n 0, 1) := by decide +kernel
theorem dX8_request_35 : decode cX8_request 35 = .ok (.getfield 81, 3) := by decide +kernel
theorem dX8_request_38 : decode cX8_request 38 = .ok (.sipush 200, 3) := by decide +kernel
theorem dX8_request_41 : decode cX8_request 41 = .ok (.if_icmp .ne 6, 3) := by decide +kernel
theorem dX8_request_44 : decode cX8_request 44 = .ok (.bipush (-3), 2) := by decide +kernel
theorem dX8_request_46 : decode cX8_request 46 = .ok (.ireturn, 1) := by decide +kernel
theorem dX8_request_47 : decode cX8_request 47 = .ok (.iload_n 3, 1) := by decide +kernel
theorem dX8_request_48 : decode cX8_request 48 = .ok (.i2l, 1) := by decide +kernel
theorem dX8_request_49 : decode cX8_request 49 = .ok (.aload_n 0, 1) := by decide +kernel
theorem dX8_request_50 : decode cX8_request 50 = .ok (.iload_n 1, 1) := by decide +kernel
theorem dX8_request_51 : decode cX8_request 51 = .ok (.iload_n 2, 1) := by decide +kernel
theorem dX8_request_52 : decode cX8_request 52 = .ok (.invokevirtual 115, 3) := by decide +kernel
theorem dX8_request_55 : decode cX8_request 55 = .ok (.lcmp, 1) := by decide +kernel
theorem dX8_request_56 : decode cX8_request 56 = .ok (.ifCond .le 6, 3) := by decide +kernel
theorem dX8_request_59 : decode cX8_request 59 = .ok (.bipush (-7), 2) := by decide +kernel
theorem dX8_request_61 : decode cX8_request 61 = .ok (.ireturn, 1) := by decide +kernel
theorem dX8_request_62 : decode cX8_request 62 = .ok (.aload_n 0, 1) := by decide +kernel
theorem dX8_request_63 : decode cX8_request 63 = .ok (.getfield 101, 3) := by decide +kernel
theorem dX8_request_66 : decode cX8_request 66 = .ok (.aload_n 0, 1) := by decide +kernel
theorem dX8_request_67 : decode cX8_request 67 = .ok (.getfield 81, 3) := by decide +kernel
theorem dX8_request_70 : decode cX8_request 70 = .ok (.iload_n 1, 1) := by decide +kernel
theorem dX8_request_71 : decode cX8_request 71 = .ok (.iastore, 1) := by decide +kernel
theorem dX8_request_72 : decode cX8_request 72 = .ok (.aload_n 0, 1) := by decide +kernel
theorem dX8_request_73 : decode cX8_request 73 = .ok (.getfield 98, 3) := by decide +kernel
theorem dX8_request_76 : decode cX8_request 76 = .ok (.aload_n 0, 1) := by decide +kernel
theorem dX8_request_77 : decode cX8_request 77 = .ok (.getfield 81, 3) := by decide +kernel
theorem dX8_request_80 : decode cX8_request 80 = .ok (.iload_n 2, 1) := by decide +kernel
theorem dX8_request_81 : decode cX8_request 81 = .ok (.iastore, 1) := by decide +kernel
theorem dX8_request_82 : decode cX8_request 82 = .ok (.aload_n 0, 1) := by decide +kernel
theorem dX8_request_83 : decode cX8_request 83 = .ok (.getfield 104, 3) := by decide +kernel
theorem dX8_request_86 : decode cX8_request 86 = .ok (.aload_n 0, 1) := by decide +kernel
theorem dX8_request_87 : decode cX8_request 87 = .ok (.getfield 81, 3) := by decide +kernel
theorem dX8_request_90 : decode cX8_request 90 = .ok (.iload_n 3, 1) := by decide +kernel
theorem dX8_request_91 : decode cX8_request 91 = .ok (.iastore, 1) := by decide +kernel
theorem dX8_request_92 : decode cX8_request 92 = .ok (.aload_n 0, 1) := by decide +kernel
theorem dX8_request_93 : decode cX8_request 93 = .ok (.getfield 88, 3) := by decide +kernel
theorem dX8_request_96 : decode cX8_request 96 = .ok (.aload_n 0, 1) := by decide +kernel
theorem dX8_request_97 : decode cX8_request 97 = .ok (.getfield 81, 3) := by decide +kernel
theorem dX8_request_100 : decode cX8_request 100 = .ok (.aload_n 0, 1) := by decide +kernel
theorem dX8_request_101 : decode cX8_request 101 = .ok (.getfield 24, 3) := by decide +kernel
theorem dX8_request_104 : decode cX8_request 104 = .ok (.iastore, 1) := by decide +kernel
theorem dX8_request_105 : decode cX8_request 105 = .ok (.aload_n 0, 1) := by decide +kernel
theorem dX8_request_106 : decode cX8_request 106 = .ok (.getfield 84, 3) := by decide +kernel
theorem dX8_request_109 : decode cX8_request 109 = .ok (.aload_n 0, 1) := by decide +kernel
theorem dX8_request_110 : decode cX8_request 110 = .ok (.getfield 81, 3) := by decide +kernel
theorem dX8_request_113 : decode cX8_request 113 = .ok (.iconst 0, 1) := by decide +kernel
theorem dX8_request_114 : decode cX8_request 114 = .ok (.bastore, 1) := by decide +kernel
theorem dX8_request_115 : decode cX8_request 115 = .ok (.aload_n 0, 1) := by decide +kernel
theorem dX8_request_116 : decode cX8_request 116 = .ok (.dup, 1) := by decide +kernel
theorem dX8_request_117 : decode cX8_request 117 = .ok (.getfield 81, 3) := by decide +kernel
theorem dX8_request_120 : decode cX8_request 120 = .ok (.iconst 1, 1) := by decide +kernel
theorem dX8_request_121 : decode cX8_request 121 = .ok (.iadd, 1) := by decide +kernel
theorem dX8_request_122 : decode cX8_request 122 = .ok (.putfield 81, 3) := by decide +kernel
theorem dX8_request_125 : decode cX8_request 125 = .ok (.aload_n 0, 1) := by decide +kernel
theorem dX8_request_126 : decode cX8_request 126 = .ok (.getfield 81, 3) := by decide +kernel
theorem dX8_request_129 : decode cX8_request 129 = .ok (.iconst 1, 1) := by decide +kernel
theorem dX8_request_130 : decode cX8_request 130 = .ok (.isub, 1) := by decide +kernel
theorem dX8_request_131 : decode cX8_request 131 = .ok (.ireturn, 1) := by decide +kernel
theorem dX8_settle_0 : decode cX8_settle 0 = .ok (.aload_n 0, 1) := by decide +kernel
theorem dX8_settle_1 : decode cX8_settle 1 = .ok (.iload_n 1, 1) := by decide +kernel
theorem dX8_settle_2 : decode cX8_settle 2 = .ok (.invokevirtual 91, 3) := by decide +kernel
theorem dX8_settle_5 : decode cX8_settle 5 = .ok (.ifCond .eq 17, 3) := by decide +kernel
theorem dX8_settle_8 : decode cX8_settle 8 = .ok (.iload_n 2, 1) := by decide +kernel
theorem dX8_settle_9 : decode cX8_settle 9 = .ok (.ifCond .lt 13, 3) := by decide +kernel
theorem dX8_settle_12 : decode cX8_settle 12 = .ok (.iload_n 2, 1) := by decide +kernel
theorem dX8_settle_13 : decode cX8_settle 13 = .ok (.aload_n 0, 1) := by decide +kernel
theorem dX8_settle_14 : decode cX8_settle 14 = .ok (.getfield 104, 3) := by decide +kernel
theorem dX8_settle_17 : decode cX8_settle 17 = .ok (.iload_n 1, 1) := by decide +kernel
theorem dX8_settle_18 : decode cX8_settle 18 = .ok (.iaload, 1) := by decide +kernel
theorem dX8_settle_19 : decode cX8_settle 19 = .ok (.if_icmp .le 6, 3) := by decide +kernel
theorem dX8_settle_22 : decode cX8_settle 22 = .ok (.bipush (-2), 2) := by decide +kernel
theorem dX8_settle_24 : decode cX8_settle 24 = .ok (.ireturn, 1) := by decide +kernel
theorem dX8_settle_25 : decode cX8_settle 25 = .ok (.iload_n 2, 1) := by decide +kernel
theorem dX8_settle_26 : decode cX8_settle 26 = .ok (.ifCond .ne 7, 3) := by decide +kernel
theorem dX8_settle_29 : decode cX8_settle 29 = .ok (.iconst 0, 1) := by decide +kernel
theorem dX8_settle_30 : decode cX8_settle 30 = .ok (.goto 25, 3) := by decide +kernel
theorem dX8_settle_33 : decode cX8_settle 33 = .ok (.aload_n 0, 1) := by decide +kernel
theorem dX8_settle_34 : decode cX8_settle 34 = .ok (.lload_n 3, 1) := by decide +kernel
theorem dX8_settle_35 : decode cX8_settle 35 = .ok (.aload_n 0, 1) := by decide +kernel
theorem dX8_settle_36 : decode cX8_settle 36 = .ok (.getfield 101, 3) := by decide +kernel
theorem dX8_settle_39 : decode cX8_settle 39 = .ok (.iload_n 1, 1) := by decide +kernel
theorem dX8_settle_40 : decode cX8_settle 40 = .ok (.iaload, 1) := by decide +kernel
theorem dX8_settle_41 : decode cX8_settle 41 = .ok (.aload_n 0, 1) := by decide +kernel
theorem dX8_settle_42 : decode cX8_settle 42 = .ok (.getfield 98, 3) := by decide +kernel
theorem dX8_settle_45 : decode cX8_settle 45 = .ok (.iload_n 1, 1) := by decide +kernel
theorem dX8_settle_46 : decode cX8_settle 46 = .ok (.iaload, 1) := by decide +kernel
theorem dX8_settle_47 : decode cX8_settle 47 = .ok (.iload_n 2, 1) := by decide +kernel
theorem dX8_settle_48 : decode cX8_settle 48 = .ok (.aload_n 0, 1) := by decide +kernel
theorem dX8_settle_49 : decode cX8_settle 49 = .ok (.getfield 24, 3) := by decide +kernel
theorem dX8_settle_52 : decode cX8_settle 52 = .ok (.invokevirtual 67, 3) := by decide +kernel
theorem dX8_settle_55 : decode cX8_settle 55 = .ok (.istore 5, 2) := by decide +kernel
theorem dX8_settle_57 : decode cX8_settle 57 = .ok (.aload_n 0, 1) := by decide +kernel
theorem dX8_settle_58 : decode cX8_settle 58 = .ok (.getfield 84, 3) := by decide +kernel
theorem dX8_settle_61 : decode cX8_settle 61 = .ok (.iload_n 1, 1) := by decide +kernel
theorem dX8_settle_62 : decode cX8_settle 62 = .ok (.iload 5, 2) := by decide +kernel
theorem dX8_settle_64 : decode cX8_settle 64 = .ok (.ifCond .lt 7, 3) := by decide +kernel
theorem dX8_settle_67 : decode cX8_settle 67 = .ok (.iconst 1, 1) := by decide +kernel
theorem dX8_settle_68 : decode cX8_settle 68 = .ok (.goto 4, 3) := by decide +kernel
theorem dX8_settle_71 : decode cX8_settle 71 = .ok (.iconst 0, 1) := by decide +kernel
theorem dX8_settle_72 : decode cX8_settle 72 = .ok (.bastore, 1) := by decide +kernel
theorem dX8_settle_73 : decode cX8_settle 73 = .ok (.iload 5, 2) := by decide +kernel
theorem dX8_settle_75 : decode cX8_settle 75 = .ok (.ireturn, 1) := by decide +kernel
theorem dX8_drop_0 : decode cX8_drop 0 = .ok (.aload_n 0, 1) := by decide +kernel
theorem dX8_drop_1 : decode cX8_drop 1 = .ok (.iload_n 1, 1) := by decide +kernel
theorem dX8_drop_2 : decode cX8_drop 2 = .ok (.invokevirtual 91, 3) := by decide +kernel
theorem dX8_drop_5 : decode cX8_drop 5 = .ok (.ifCond .ne 6, 3) := by decide +kernel
theorem dX8_drop_8 : decode cX8_drop 8 = .ok (.bipush (-2), 2) := by decide +kernel
theorem dX8_drop_10 : decode cX8_drop 10 = .ok (.ireturn, 1) := by decide +kernel
theorem dX8_drop_11 : decode cX8_drop 11 = .ok (.aload_n 0, 1) := by decide +kernel
theorem dX8_drop_12 : decode cX8_drop 12 = .ok (.getfield 84, 3) := by decide +kernel
theorem dX8_drop_15 : decode cX8_drop 15 = .ok (.iload_n 1, 1) := by decide +kernel
theorem dX8_drop_16 : decode cX8_drop 16 = .ok (.iconst 1, 1) := by decide +kernel
theorem dX8_drop_17 : decode cX8_drop 17 = .ok (.bastore, 1) := by decide +kernel
theorem dX8_drop_18 : decode cX8_drop 18 = .ok (.aload_n 0, 1) := by decide +kernel
theorem dX8_drop_19 : decode cX8_drop 19 = .ok (.getfield 104, 3) := by decide +kernel
theorem dX8_drop_22 : decode cX8_drop 22 = .ok (.iload_n 1, 1) := by decide +kernel
theorem dX8_drop_23 : decode cX8_drop 23 = .ok (.iaload, 1) := by decide +kernel
theorem dX8_drop_24 : decode cX8_drop 24 = .ok (.ireturn, 1) := by decide +kernel
theorem dX8_hold_0 : decode cX8_hold 0 = .ok (.iload_n 1, 1) := by decide +kernel
theorem dX8_hold_1 : decode cX8_hold 1 = .ok (.ifCond .lt 11, 3) := by decide +kernel
theorem dX8_hold_4 : decode cX8_hold 4 = .ok (.iload_n 1, 1) := by decide +kernel
theorem dX8_hold_5 : decode cX8_hold 5 = .ok (.aload_n 0, 1) := by decide +kernel
theorem dX8_hold_6 : decode cX8_hold 6 = .ok (.getfield 81, 3) := by decide +kernel
theorem dX8_hold_9 : decode cX8_hold 9 = .ok (.if_icmp .lt 6, 3) := by decide +kernel
theorem dX8_hold_12 : decode cX8_hold 12 = .ok (.bipush (-2), 2) := by decide +kernel
theorem dX8_hold_14 : decode cX8_hold 14 = .ok (.ireturn, 1) := by decide +kernel
theorem dX8_hold_15 : decode cX8_hold 15 = .ok (.iload_n 2, 1) := by decide +kernel
theorem dX8_hold_16 : decode cX8_hold 16 = .ok (.tableswitch 78 0 4 #[36, 43, 50, 57, 64], 36) := by decide +kernel
theorem dX8_hold_52 : decode cX8_hold 52 = .ok (.aload_n 0, 1) := by decide +kernel
theorem dX8_hold_53 : decode cX8_hold 53 = .ok (.getfield 101, 3) := by decide +kernel
theorem dX8_hold_56 : decode cX8_hold 56 = .ok (.iload_n 1, 1) := by decide +kernel
theorem dX8_hold_57 : decode cX8_hold 57 = .ok (.iaload, 1) := by decide +kernel
theorem dX8_hold_58 : decode cX8_hold 58 = .ok (.ireturn, 1) := by decide +kernel
theorem dX8_hold_59 : decode cX8_hold 59 = .ok (.aload_n 0, 1) := by decide +kernel
theorem dX8_hold_60 : decode cX8_hold 60 = .ok (.getfield 98, 3) := by decide +kernel
theorem dX8_hold_63 : decode cX8_hold 63 = .ok (.iload_n 1, 1) := by decide +kernel
theorem dX8_hold_64 : decode cX8_hold 64 = .ok (.iaload, 1) := by decide +kernel
theorem dX8_hold_65 : decode cX8_hold 65 = .ok (.ireturn, 1) := by decide +kernel
theorem dX8_hold_66 : decode cX8_hold 66 = .ok (.aload_n 0, 1) := by decide +kernel
theorem dX8_hold_67 : decode cX8_hold 67 = .ok (.getfield 104, 3) := by decide +kernel
theorem dX8_hold_70 : decode cX8_hold 70 = .ok (.iload_n 1, 1) := by decide +kernel
theorem dX8_hold_71 : decode cX8_hold 71 = .ok (.iaload, 1) := by decide +kernel
theorem dX8_hold_72 : decode cX8_hold 72 = .ok (.ireturn, 1) := by decide +kernel
theorem dX8_hold_73 : decode cX8_hold 73 = .ok (.aload_n 0, 1) := by decide +kernel
theorem dX8_hold_74 : decode cX8_hold 74 = .ok (.getfield 88, 3) := by decide +kernel
theorem dX8_hold_77 : decode cX8_hold 77 = .ok (.iload_n 1, 1) := by decide +kernel
theorem dX8_hold_78 : decode cX8_hold 78 = .ok (.iaload, 1) := by decide +kernel
theorem dX8_hold_79 : decode cX8_hold 79 = .ok (.ireturn, 1) := by decide +kernel
theorem dX8_hold_80 : decode cX8_hold 80 = .ok (.aload_n 0, 1) := by decide +kernel
theorem dX8_hold_81 : decode cX8_hold 81 = .ok (.iload_n 1, 1) := by decide +kernel
theorem dX8_hold_82 : decode cX8_hold 82 = .ok (.invokevirtual 91, 3) := by decide +kernel
theorem dX8_hold_85 : decode cX8_hold 85 = .ok (.ifCond .eq 7, 3) := by decide +kernel
theorem dX8_hold_88 : decode cX8_hold 88 = .ok (.iconst 1, 1) := by decide +kernel
theorem dX8_hold_89 : decode cX8_hold 89 = .ok (.goto 4, 3) := by decide +kernel
theorem dX8_hold_92 : decode cX8_hold 92 = .ok (.iconst 0, 1) := by decide +kernel
theorem dX8_hold_93 : decode cX8_hold 93 = .ok (.ireturn, 1) := by decide +kernel
theorem dX8_hold_94 : decode cX8_hold 94 = .ok (.bipush (-2), 2) := by decide +kernel
theorem dX8_hold_96 : decode cX8_hold 96 = .ok (.ireturn, 1) := by decide +kernel
theorem dX8_init_0 : decode cX8_init 0 = .ok (.aload_n 0, 1) := by decide +kernel
theorem dX8_init_1 : decode cX8_init 1 = .ok (.invokespecial 126, 3) := by decide +kernel
theorem dX8_init_4 : decode cX8_init 4 = .ok (.aload_n 0, 1) := by decide +kernel
theorem dX8_init_5 : decode cX8_init 5 = .ok (.bipush 24, 2) := by decide +kernel
theorem dX8_init_7 : decode cX8_init 7 = .ok (.newarray .int, 2) := by decide +kernel
theorem dX8_init_9 : decode cX8_init 9 = .ok (.putfield 14, 3) := by decide +kernel
theorem dX8_init_12 : decode cX8_init 12 = .ok (.aload_n 0, 1) := by decide +kernel
theorem dX8_init_13 : decode cX8_init 13 = .ok (.bipush 24, 2) := by decide +kernel
theorem dX8_init_15 : decode cX8_init 15 = .ok (.newarray .int, 2) := by decide +kernel
theorem dX8_init_17 : decode cX8_init 17 = .ok (.putfield 18, 3) := by decide +kernel
theorem dX8_init_20 : decode cX8_init 20 = .ok (.aload_n 0, 1) := by decide +kernel
theorem dX8_init_21 : decode cX8_init 21 = .ok (.bipush 96, 2) := by decide +kernel
theorem dX8_init_23 : decode cX8_init 23 = .ok (.newarray .int, 2) := by decide +kernel
theorem dX8_init_25 : decode cX8_init 25 = .ok (.putfield 21, 3) := by decide +kernel
