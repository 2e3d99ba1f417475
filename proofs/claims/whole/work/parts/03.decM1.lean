theorem dX5_costByTiers_5 : decode cX5_costByTiers 5 = .ok (.iconst 0, 1) := by decide +kernel
theorem dX5_costByTiers_6 : decode cX5_costByTiers 6 = .ok (.istore 7, 2) := by decide +kernel
theorem dX5_costByTiers_8 : decode cX5_costByTiers 8 = .ok (.iload 7, 2) := by decide +kernel
theorem dX5_costByTiers_10 : decode cX5_costByTiers 10 = .ok (.aload_n 0, 1) := by decide +kernel
theorem dX5_costByTiers_11 : decode cX5_costByTiers 11 = .ok (.getfield 22, 3) := by decide +kernel
theorem dX5_costByTiers_14 : decode cX5_costByTiers 14 = .ok (.if_icmp .ge 78, 3) := by decide +kernel
theorem dX5_costByTiers_17 : decode cX5_costByTiers 17 = .ok (.lload 5, 2) := by decide +kernel
theorem dX5_costByTiers_19 : decode cX5_costByTiers 19 = .ok (.lload_n 1, 1) := by decide +kernel
theorem dX5_costByTiers_20 : decode cX5_costByTiers 20 = .ok (.lcmp, 1) := by decide +kernel
theorem dX5_costByTiers_21 : decode cX5_costByTiers 21 = .ok (.ifCond .ge 71, 3) := by decide +kernel
theorem dX5_costByTiers_24 : decode cX5_costByTiers 24 = .ok (.iload 7, 2) := by decide +kernel
theorem dX5_costByTiers_26 : decode cX5_costByTiers 26 = .ok (.aload_n 0, 1) := by decide +kernel
theorem dX5_costByTiers_27 : decode cX5_costByTiers 27 = .ok (.getfield 22, 3) := by decide +kernel
theorem dX5_costByTiers_30 : decode cX5_costByTiers 30 = .ok (.iconst 1, 1) := by decide +kernel
theorem dX5_costByTiers_31 : decode cX5_costByTiers 31 = .ok (.isub, 1) := by decide +kernel
theorem dX5_costByTiers_32 : decode cX5_costByTiers 32 = .ok (.if_icmp .ne 7, 3) := by decide +kernel
theorem dX5_costByTiers_35 : decode cX5_costByTiers 35 = .ok (.lload_n 1, 1) := by decide +kernel
theorem dX5_costByTiers_36 : decode cX5_costByTiers 36 = .ok (.goto 14, 3) := by decide +kernel
theorem dX5_costByTiers_39 : decode cX5_costByTiers 39 = .ok (.lload_n 1, 1) := by decide +kernel
theorem dX5_costByTiers_40 : decode cX5_costByTiers 40 = .ok (.aload_n 0, 1) := by decide +kernel
theorem dX5_costByTiers_41 : decode cX5_costByTiers 41 = .ok (.getfield 9, 3) := by decide +kernel
theorem dX5_costByTiers_44 : decode cX5_costByTiers 44 = .ok (.iload 7, 2) := by decide +kernel
theorem dX5_costByTiers_46 : decode cX5_costByTiers 46 = .ok (.laload, 1) := by decide +kernel
theorem dX5_costByTiers_47 : decode cX5_costByTiers 47 = .ok (.invokestatic 49, 3) := by decide +kernel
theorem dX5_costByTiers_50 : decode cX5_costByTiers 50 = .ok (.lstore 8, 2) := by decide +kernel
theorem dX5_costByTiers_52 : decode cX5_costByTiers 52 = .ok (.lload_n 3, 1) := by decide +kernel
theorem dX5_costByTiers_53 : decode cX5_costByTiers 53 = .ok (.aload_n 0, 1) := by decide +kernel
theorem dX5_costByTiers_54 : decode cX5_costByTiers 54 = .ok (.lload 8, 2) := by decide +kernel
theorem dX5_costByTiers_56 : decode cX5_costByTiers 56 = .ok (.lload 5, 2) := by decide +kernel
theorem dX5_costByTiers_58 : decode cX5_costByTiers 58 = .ok (.lsub, 1) := by decide +kernel
theorem dX5_costByTiers_59 : decode cX5_costByTiers 59 = .ok (.invokevirtual 53, 3) := by decide +kernel
theorem dX5_costByTiers_62 : decode cX5_costByTiers 62 = .ok (.aload_n 0, 1) := by decide +kernel
theorem dX5_costByTiers_63 : decode cX5_costByTiers 63 = .ok (.getfield 15, 3) := by decide +kernel
theorem dX5_costByTiers_66 : decode cX5_costByTiers 66 = .ok (.iload 7, 2) := by decide +kernel
theorem dX5_costByTiers_68 : decode cX5_costByTiers 68 = .ok (.iaload, 1) := by decide +kernel
theorem dX5_costByTiers_69 : decode cX5_costByTiers 69 = .ok (.i2l, 1) := by decide +kernel
theorem dX5_costByTiers_70 : decode cX5_costByTiers 70 = .ok (.lmul, 1) := by decide +kernel
theorem dX5_costByTiers_71 : decode cX5_costByTiers 71 = .ok (.aload_n 0, 1) := by decide +kernel
theorem dX5_costByTiers_72 : decode cX5_costByTiers 72 = .ok (.getfield 19, 3) := by decide +kernel
theorem dX5_costByTiers_75 : decode cX5_costByTiers 75 = .ok (.iload 7, 2) := by decide +kernel
theorem dX5_costByTiers_77 : decode cX5_costByTiers 77 = .ok (.iaload, 1) := by decide +kernel
theorem dX5_costByTiers_78 : decode cX5_costByTiers 78 = .ok (.i2l, 1) := by decide +kernel
theorem dX5_costByTiers_79 : decode cX5_costByTiers 79 = .ok (.ladd, 1) := by decide +kernel
theorem dX5_costByTiers_80 : decode cX5_costByTiers 80 = .ok (.ladd, 1) := by decide +kernel
theorem dX5_costByTiers_81 : decode cX5_costByTiers 81 = .ok (.lstore_n 3, 1) := by decide +kernel
theorem dX5_costByTiers_82 : decode cX5_costByTiers 82 = .ok (.lload 8, 2) := by decide +kernel
theorem dX5_costByTiers_84 : decode cX5_costByTiers 84 = .ok (.lstore 5, 2) := by decide +kernel
theorem dX5_costByTiers_86 : decode cX5_costByTiers 86 = .ok (.iinc 7 1, 3) := by decide +kernel
theorem dX5_costByTiers_89 : decode cX5_costByTiers 89 = .ok (.goto (-81), 3) := by decide +kernel
theorem dX5_costByTiers_92 : decode cX5_costByTiers 92 = .ok (.lload_n 3, 1) := by decide +kernel
theorem dX5_costByTiers_93 : decode cX5_costByTiers 93 = .ok (.lreturn, 1) := by decide +kernel
theorem dX5_pricedParts_0 : decode cX5_pricedParts 0 = .ok (.aload_n 0, 1) := by decide +kernel
theorem dX5_pricedParts_1 : decode cX5_pricedParts 1 = .ok (.getfield 26, 3) := by decide +kernel
theorem dX5_pricedParts_4 : decode cX5_pricedParts 4 = .ok (.iconst 2, 1) := by decide +kernel
theorem dX5_pricedParts_5 : decode cX5_pricedParts 5 = .ok (.if_icmp .ne 11, 3) := by decide +kernel
theorem dX5_pricedParts_8 : decode cX5_pricedParts 8 = .ok (.aload_n 0, 1) := by decide +kernel
theorem dX5_pricedParts_9 : decode cX5_pricedParts 9 = .ok (.getfield 29, 3) := by decide +kernel
theorem dX5_pricedParts_12 : decode cX5_pricedParts 12 = .ok (.iconst 1, 1) := by decide +kernel
theorem dX5_pricedParts_13 : decode cX5_pricedParts 13 = .ok (.if_icmp .ge 5, 3) := by decide +kernel
theorem dX5_pricedParts_16 : decode cX5_pricedParts 16 = .ok (.lload_n 1, 1) := by decide +kernel
theorem dX5_pricedParts_17 : decode cX5_pricedParts 17 = .ok (.lreturn, 1) := by decide +kernel
theorem dX5_pricedParts_18 : decode cX5_pricedParts 18 = .ok (.lload_n 1, 1) := by decide +kernel
theorem dX5_pricedParts_19 : decode cX5_pricedParts 19 = .ok (.aload_n 0, 1) := by decide +kernel
theorem dX5_pricedParts_20 : decode cX5_pricedParts 20 = .ok (.getfield 29, 3) := by decide +kernel
theorem dX5_pricedParts_23 : decode cX5_pricedParts 23 = .ok (.i2l, 1) := by decide +kernel
theorem dX5_pricedParts_24 : decode cX5_pricedParts 24 = .ok (.ladd, 1) := by decide +kernel
theorem dX5_pricedParts_25 : decode cX5_pricedParts 25 = .ok (.lconst 1, 1) := by decide +kernel
theorem dX5_pricedParts_26 : decode cX5_pricedParts 26 = .ok (.lsub, 1) := by decide +kernel
theorem dX5_pricedParts_27 : decode cX5_pricedParts 27 = .ok (.aload_n 0, 1) := by decide +kernel
theorem dX5_pricedParts_28 : decode cX5_pricedParts 28 = .ok (.getfield 29, 3) := by decide +kernel
theorem dX5_pricedParts_31 : decode cX5_pricedParts 31 = .ok (.i2l, 1) := by decide +kernel
theorem dX5_pricedParts_32 : decode cX5_pricedParts 32 = .ok (.ldiv, 1) := by decide +kernel
theorem dX5_pricedParts_33 : decode cX5_pricedParts 33 = .ok (.lreturn, 1) := by decide +kernel
theorem dX5_copyFrom_0 : decode cX5_copyFrom 0 = .ok (.iconst 0, 1) := by decide +kernel
theorem dX5_copyFrom_1 : decode cX5_copyFrom 1 = .ok (.istore_n 2, 1) := by decide +kernel
theorem dX5_copyFrom_2 : decode cX5_copyFrom 2 = .ok (.iload_n 2, 1) := by decide +kernel
theorem dX5_copyFrom_3 : decode cX5_copyFrom 3 = .ok (.iconst 5, 1) := by decide +kernel
theorem dX5_copyFrom_4 : decode cX5_copyFrom 4 = .ok (.if_icmp .ge 45, 3) := by decide +kernel
theorem dX5_copyFrom_7 : decode cX5_copyFrom 7 = .ok (.aload_n 0, 1) := by decide +kernel
theorem dX5_copyFrom_8 : decode cX5_copyFrom 8 = .ok (.getfield 9, 3) := by decide +kernel
theorem dX5_copyFrom_11 : decode cX5_copyFrom 11 = .ok (.iload_n 2, 1) := by decide +kernel
theorem dX5_copyFrom_12 : decode cX5_copyFrom 12 = .ok (.aload_n 1, 1) := by decide +kernel
theorem dX5_copyFrom_13 : decode cX5_copyFrom 13 = .ok (.getfield 9, 3) := by decide +kernel
theorem dX5_copyFrom_16 : decode cX5_copyFrom 16 = .ok (.iload_n 2, 1) := by decide +kernel
theorem dX5_copyFrom_17 : decode cX5_copyFrom 17 = .ok (.laload, 1) := by decide +kernel
theorem dX5_copyFrom_18 : decode cX5_copyFrom 18 = .ok (.lastore, 1) := by decide +kernel
theorem dX5_copyFrom_19 : decode cX5_copyFrom 19 = .ok (.aload_n 0, 1) := by decide +kernel
theorem dX5_copyFrom_20 : decode cX5_copyFrom 20 = .ok (.getfield 15, 3) := by decide +kernel
theorem dX5_copyFrom_23 : decode cX5_copyFrom 23 = .ok (.iload_n 2, 1) := by decide +kernel
theorem dX5_copyFrom_24 : decode cX5_copyFrom 24 = .ok (.aload_n 1, 1) := by decide +kernel
theorem dX5_copyFrom_25 : decode cX5_copyFrom 25 = .ok (.getfield 15, 3) := by decide +kernel
theorem dX5_copyFrom_28 : decode cX5_copyFrom 28 = .ok (.iload_n 2, 1) := by decide +kernel
theorem dX5_copyFrom_29 : decode cX5_copyFrom 29 = .ok (.iaload, 1) := by decide +kernel
theorem dX5_copyFrom_30 : decode cX5_copyFrom 30 = .ok (.iastore, 1) := by decide +kernel
theorem dX5_copyFrom_31 : decode cX5_copyFrom 31 = .ok (.aload_n 0, 1) := by decide +kernel
theorem dX5_copyFrom_32 : decode cX5_copyFrom 32 = .ok (.getfield 19, 3) := by decide +kernel
theorem dX5_copyFrom_35 : decode cX5_copyFrom 35 = .ok (.iload_n 2, 1) := by decide +kernel
theorem dX5_copyFrom_36 : decode cX5_copyFrom 36 = .ok (.aload_n 1, 1) := by decide +kernel
theorem dX5_copyFrom_37 : decode cX5_copyFrom 37 = .ok (.getfield 19, 3) := by decide +kernel
theorem dX5_copyFrom_40 : decode cX5_copyFrom 40 = .ok (.iload_n 2, 1) := by decide +kernel
theorem dX5_copyFrom_41 : decode cX5_copyFrom 41 = .ok (.iaload, 1) := by decide +kernel
theorem dX5_copyFrom_42 : decode cX5_copyFrom 42 = .ok (.iastore, 1) := by decide +kernel
theorem dX5_copyFrom_43 : decode cX5_copyFrom 43 = .ok (.iinc 2 1, 3) := by decide +kernel
theorem dX5_copyFrom_46 : decode cX5_copyFrom 46 = .ok (.goto (-44), 3) := by decide +kernel
theorem dX5_copyFrom_49 : decode cX5_copyFrom 49 = .ok (.aload_n 0, 1) := by decide +kernel
theorem dX5_copyFrom_50 : decode cX5_copyFrom 50 = .ok (.aload_n 1, 1) := by decide +kernel
theorem dX5_copyFrom_51 : decode cX5_copyFrom 51 = .ok (.getfield 22, 3) := by decide +kernel
theorem dX5_copyFrom_54 : decode cX5_copyFrom 54 = .ok (.putfield 22, 3) := by decide +kernel
theorem dX5_copyFrom_57 : decode cX5_copyFrom 57 = .ok (.aload_n 0, 1) := by decide +kernel
theorem dX5_copyFrom_58 : decode cX5_copyFrom 58 = .ok (.aload_n 1, 1) := by decide +kernel
theorem dX5_copyFrom_59 : decode cX5_copyFrom 59 = .ok (.getfield 26, 3) := by decide +kernel
theorem dX5_copyFrom_62 : decode cX5_copyFrom 62 = .ok (.putfield 26, 3) := by decide +kernel
theorem dX5_copyFrom_65 : decode cX5_copyFrom 65 = .ok (.aload_n 0, 1) := by decide +kernel
theorem dX5_copyFrom_66 : decode cX5_copyFrom 66 = .ok (.aload_n 1, 1) := by decide +kernel
theorem dX5_copyFrom_67 : decode cX5_copyFrom 67 = .ok (.getfield 29, 3) := by decide +kernel
theorem dX5_copyFrom_70 : decode cX5_copyFrom 70 = .ok (.putfield 29, 3) := by decide +kernel
theorem dX5_copyFrom_73 : decode cX5_copyFrom 73 = .ok (.return_, 1) := by decide +kernel
theorem dX6_init_0 : decode cX6_init 0 = .ok (.aload_n 0, 1) := by decide +kernel
theorem dX6_init_1 : decode cX6_init 1 = .ok (.invokespecial 3, 3) := by decide +kernel
theorem dX6_init_4 : decode cX6_init 4 = .ok (.aload_n 0, 1) := by decide +kernel
theorem dX6_init_5 : decode cX6_init 5 = .ok (.iconst 4, 1) := by decide +kernel
theorem dX6_init_6 : decode cX6_init 6 = .ok (.anewarray 9, 3) := by decide +kernel
theorem dX6_init_9 : decode cX6_init 9 = .ok (.putfield 11, 3) := by decide +kernel
theorem dX6_init_12 : decode cX6_init 12 = .ok (.aload_n 0, 1) := by decide +kernel
theorem dX6_init_13 : decode cX6_init 13 = .ok (.iconst 4, 1) := by decide +kernel
theorem dX6_init_14 : decode cX6_init 14 = .ok (.anewarray 9, 3) := by decide +kernel
theorem dX6_init_17 : decode cX6_init 17 = .ok (.putfield 17, 3) := by decide +kernel
theorem dX6_init_20 : decode cX6_init 20 = .ok (.aload_n 0, 1) := by decide +kernel
theorem dX6_init_21 : decode cX6_init 21 = .ok (.iconst 4, 1) := by decide +kernel
theorem dX6_init_22 : decode cX6_init 22 = .ok (.newarray .long, 2) := by decide +kernel
theorem dX6_init_24 : decode cX6_init 24 = .ok (.putfield 20, 3) := by decide +kernel
theorem dX6_init_27 : decode cX6_init 27 = .ok (.aload_n 0, 1) := by decide +kernel
theorem dX6_init_28 : decode cX6_init 28 = .ok (.iconst 4, 1) := by decide +kernel
theorem dX6_init_29 : decode cX6_init 29 = .ok (.newarray .long, 2) := by decide +kernel
theorem dX6_init_31 : decode cX6_init 31 = .ok (.putfield 24, 3) := by decide +kernel
theorem dX6_init_34 : decode cX6_init 34 = .ok (.aload_n 0, 1) := by decide +kernel
theorem dX6_init_35 : decode cX6_init 35 = .ok (.new 27, 3) := by decide +kernel
theorem dX6_init_38 : decode cX6_init 38 = .ok (.dup, 1) := by decide +kernel
theorem dX6_init_39 : decode cX6_init 39 = .ok (.invokespecial 29, 3) := by decide +kernel
theorem dX6_init_42 : decode cX6_init 42 = .ok (.putfield 30, 3) := by decide +kernel
theorem dX6_init_45 : decode cX6_init 45 = .ok (.aload_n 0, 1) := by decide +kernel
theorem dX6_init_46 : decode cX6_init 46 = .ok (.iload_n 1, 1) := by decide +kernel
theorem dX6_init_47 : decode cX6_init 47 = .ok (.putfield 34, 3) := by decide +kernel
theorem dX6_init_50 : decode cX6_init 50 = .ok (.iconst 0, 1) := by decide +kernel
theorem dX6_init_51 : decode cX6_init 51 = .ok (.istore_n 2, 1) := by decide +kernel
theorem dX6_init_52 : decode cX6_init 52 = .ok (.iload_n 2, 1) := by decide +kernel
theorem dX6_init_53 : decode cX6_init 53 = .ok (.iconst 4, 1) := by decide +kernel
theorem dX6_init_54 : decode cX6_init 54 = .ok (.if_icmp .ge 35, 3) := by decide +kernel
theorem dX6_init_57 : decode cX6_init 57 = .ok (.aload_n 0, 1) := by decide +kernel
theorem dX6_init_58 : decode cX6_init 58 = .ok (.getfield 11, 3) := by decide +kernel
theorem dX6_init_61 : decode cX6_init 61 = .ok (.iload_n 2, 1) := by decide +kernel
theorem dX6_init_62 : decode cX6_init 62 = .ok (.new 9, 3) := by decide +kernel
theorem dX6_init_65 : decode cX6_init 65 = .ok (.dup, 1) := by decide +kernel
theorem dX6_init_66 : decode cX6_init 66 = .ok (.invokespecial 38, 3) := by decide +kernel
theorem dX6_init_69 : decode cX6_init 69 = .ok (.aastore, 1) := by decide +kernel
theorem dX6_init_70 : decode cX6_init 70 = .ok (.aload_n 0, 1) := by decide +kernel
theorem dX6_init_71 : decode cX6_init 71 = .ok (.getfield 17, 3) := by decide +kernel
theorem dX6_init_74 : decode cX6_init 74 = .ok (.iload_n 2, 1) := by decide +kernel
theorem dX6_init_75 : decode cX6_init 75 = .ok (.new 9, 3) := by decide +kernel
theorem dX6_init_78 : decode cX6_init 78 = .ok (.dup, 1) := by decide +kernel
theorem dX6_init_79 : decode cX6_init 79 = .ok (.invokespecial 38, 3) := by decide +kernel
theorem dX6_init_82 : decode cX6_init 82 = .ok (.aastore, 1) := by decide +kernel
theorem dX6_init_83 : decode cX6_init 83 = .ok (.iinc 2 1, 3) := by decide +kernel
theorem dX6_init_86 : decode cX6_init 86 = .ok (.goto (-34), 3) := by decide +kernel
theorem dX6_init_89 : decode cX6_init 89 = .ok (.return_, 1) := by decide +kernel
theorem dX6_adjust_0 : decode cX6_adjust 0 = .ok (.aload_n 0, 1) := by decide +kernel
theorem dX6_adjust_1 : decode cX6_adjust 1 = .ok (.getfield 17, 3) := by decide +kernel
theorem dX6_adjust_4 : decode cX6_adjust 4 = .ok (.iload_n 1, 1) := by decide +kernel
theorem dX6_adjust_5 : decode cX6_adjust 5 = .ok (.aaload, 1) := by decide +kernel
theorem dX6_adjust_6 : decode cX6_adjust 6 = .ok (.astore 5, 2) := by decide +kernel
theorem dX6_adjust_8 : decode cX6_adjust 8 = .ok (.aload_n 0, 1) := by decide +kernel
theorem dX6_adjust_9 : decode cX6_adjust 9 = .ok (.getfield 20, 3) := by decide +kernel
theorem dX6_adjust_12 : decode cX6_adjust 12 = .ok (.iload_n 1, 1) := by decide +kernel
theorem dX6_adjust_13 : decode cX6_adjust 13 = .ok (.dup2, 1) := by decide +kernel
theorem dX6_adjust_14 : decode cX6_adjust 14 = .ok (.laload, 1) := by decide +kernel
theorem dX6_adjust_15 : decode cX6_adjust 15 = .ok (.iload 4, 2) := by decide +kernel
theorem dX6_adjust_17 : decode cX6_adjust 17 = .ok (.i2l, 1) := by decide +kernel
theorem dX6_adjust_18 : decode cX6_adjust 18 = .ok (.ladd, 1) := by decide +kernel
theorem dX6_adjust_19 : decode cX6_adjust 19 = .ok (.lastore, 1) := by decide +kernel
theorem dX6_adjust_20 : decode cX6_adjust 20 = .ok (.aload_n 0, 1) := by decide +kernel
theorem dX6_adjust_21 : decode cX6_adjust 21 = .ok (.getfield 24, 3) := by decide +kernel
theorem dX6_adjust_24 : decode cX6_adjust 24 = .ok (.iload_n 1, 1) := by decide +kernel
theorem dX6_adjust_25 : decode cX6_adjust 25 = .ok (.dup2, 1) := by decide +kernel
theorem dX6_adjust_26 : decode cX6_adjust 26 = .ok (.laload, 1) := by decide +kernel
theorem dX6_adjust_27 : decode cX6_adjust 27 = .ok (.aload 5, 2) := by decide +kernel
theorem dX6_adjust_29 : decode cX6_adjust 29 = .ok (.lload_n 2, 1) := by decide +kernel
theorem dX6_adjust_30 : decode cX6_adjust 30 = .ok (.iload 4, 2) := by decide +kernel
theorem dX6_adjust_32 : decode cX6_adjust 32 = .ok (.i2l, 1) := by decide +kernel
theorem dX6_adjust_33 : decode cX6_adjust 33 = .ok (.ladd, 1) := by decide +kernel
theorem dX6_adjust_34 : decode cX6_adjust 34 = .ok (.invokevirtual 39, 3) := by decide +kernel
theorem dX6_adjust_37 : decode cX6_adjust 37 = .ok (.aload 5, 2) := by decide +kernel
theorem dX6_adjust_39 : decode cX6_adjust 39 = .ok (.lload_n 2, 1) := by decide +kernel
theorem dX6_adjust_40 : decode cX6_adjust 40 = .ok (.invokevirtual 39, 3) := by decide +kernel
theorem dX6_adjust_43 : decode cX6_adjust 43 = .ok (.lsub, 1) := by decide +kernel
theorem dX6_adjust_44 : decode cX6_adjust 44 = .ok (.ladd, 1) := by decide +kernel
theorem dX6_adjust_45 : decode cX6_adjust 45 = .ok (.lastore, 1) := by decide +kernel
theorem dX6_adjust_46 : decode cX6_adjust 46 = .ok (.return_, 1) := by decide +kernel
theorem dX6_billAdjustments_0 : decode cX6_billAdjustments 0 = .ok (.iconst 0, 1) := by decide +kernel
theorem dX6_billAdjustments_1 : decode cX6_billAdjustments 1 = .ok (.istore_n 2, 1) := by decide +kernel
theorem dX6_billAdjustments_2 : decode cX6_billAdjustments 2 = .ok (.iload_n 2, 1) := by decide +kernel
theorem dX6_billAdjustments_3 : decode cX6_billAdjustments 3 = .ok (.iconst 4, 1) := by decide +kernel
theorem dX6_billAdjustments_4 : decode cX6_billAdjustments 4 = .ok (.if_icmp .ge 38, 3) := by decide +kernel
theorem dX6_billAdjustments_7 : decode cX6_billAdjustments 7 = .ok (.aload_n 0, 1) := by decide +kernel
theorem dX6_billAdjustments_8 : decode cX6_billAdjustments 8 = .ok (.getfield 20, 3) := by decide +kernel
theorem dX6_billAdjustments_11 : decode cX6_billAdjustments 11 = .ok (.iload_n 2, 1) := by decide +kernel
theorem dX6_billAdjustments_12 : decode cX6_billAdjustments 12 = .ok (.laload, 1) := by decide +kernel
theorem dX6_billAdjustments_13 : decode cX6_billAdjustments 13 = .ok (.lconst 0, 1) := by decide +kernel
theorem dX6_billAdjustments_14 : decode cX6_billAdjustments 14 = .ok (.lcmp, 1) := by decide +kernel
theorem dX6_billAdjustments_15 : decode cX6_billAdjustments 15 = .ok (.ifCond .le 21, 3) := by decide +kernel
theorem dX6_billAdjustments_18 : decode cX6_billAdjustments 18 = .ok (.aload_n 1, 1) := by decide +kernel
theorem dX6_billAdjustments_19 : decode cX6_billAdjustments 19 = .ok (.iconst 1, 1) := by decide +kernel
theorem dX6_billAdjustments_20 : decode cX6_billAdjustments 20 = .ok (.iload_n 2, 1) := by decide +kernel
theorem dX6_billAdjustments_21 : decode cX6_billAdjustments 21 = .ok (.aload_n 0, 1) := by decide +kernel
theorem dX6_billAdjustments_22 : decode cX6_billAdjustments 22 = .ok (.getfield 20, 3) := by decide +kernel
theorem dX6_billAdjustments_25 : decode cX6_billAdjustments 25 = .ok (.iload_n 2, 1) := by decide +kernel
theorem dX6_billAdjustments_26 : decode cX6_billAdjustments 26 = .ok (.laload, 1) := by decide +kernel
theorem dX6_billAdjustments_27 : decode cX6_billAdjustments 27 = .ok (.aload_n 0, 1) := by decide +kernel
theorem dX6_billAdjustments_28 : decode cX6_billAdjustments 28 = .ok (.getfield 24, 3) := by decide +kernel
theorem dX6_billAdjustments_31 : decode cX6_billAdjustments 31 = .ok (.iload_n 2, 1) := by decide +kernel
theorem dX6_billAdjustments_32 : decode cX6_billAdjustments 32 = .ok (.laload, 1) := by decide +kernel
theorem dX6_billAdjustments_33 : decode cX6_billAdjustments 33 = .ok (.invokevirtual 43, 3) := by decide +kernel
theorem dX6_billAdjustments_36 : decode cX6_billAdjustments 36 = .ok (.iinc 2 1, 3) := by decide +kernel
theorem dX6_billAdjustments_39 : decode cX6_billAdjustments 39 = .ok (.goto (-37), 3) := by decide +kernel
theorem dX6_billAdjustments_42 : decode cX6_billAdjustments 42 = .ok (.return_, 1) := by decide +kernel
theorem dX6_billTerms_0 : decode cX6_billTerms 0 = .ok (.aload_n 1, 1) := by decide +kernel
theorem dX6_billTerms_1 : decode cX6_billTerms 1 = .ok (.iconst 2, 1) := by decide +kernel
theorem dX6_billTerms_2 : decode cX6_billTerms 2 = .ok (.aload_n 1, 1) := by decide +kernel
theorem dX6_billTerms_3 : decode cX6_billTerms 3 = .ok (.aload_n 0, 1) := by decide +kernel
theorem dX6_billTerms_4 : decode cX6_billTerms 4 = .ok (.getfield 49, 3) := by decide +kernel
theorem dX6_billTerms_7 : decode cX6_billTerms 7 = .ok (.invokevirtual 52, 3) := by decide +kernel
theorem dX6_billTerms_10 : decode cX6_billTerms 10 = .ok (.lneg, 1) := by decide +kernel
theorem dX6_billTerms_11 : decode cX6_billTerms 11 = .ok (.invokevirtual 56, 3) := by decide +kernel
theorem dX6_billTerms_14 : decode cX6_billTerms 14 = .ok (.aload_n 1, 1) := by decide +kernel
theorem dX6_billTerms_15 : decode cX6_billTerms 15 = .ok (.iconst 3, 1) := by decide +kernel
theorem dX6_billTerms_16 : decode cX6_billTerms 16 = .ok (.aload_n 0, 1) := by decide +kernel
theorem dX6_billTerms_17 : decode cX6_billTerms 17 = .ok (.getfield 60, 3) := by decide +kernel
theorem dX6_billTerms_20 : decode cX6_billTerms 20 = .ok (.aload_n 1, 1) := by decide +kernel
theorem dX6_billTerms_21 : decode cX6_billTerms 21 = .ok (.getfield 64, 3) := by decide +kernel
theorem dX6_billTerms_24 : decode cX6_billTerms 24 = .ok (.lsub, 1) := by decide +kernel
theorem dX6_billTerms_25 : decode cX6_billTerms 25 = .ok (.lconst 0, 1) := by decide +kernel
theorem dX6_billTerms_26 : decode cX6_billTerms 26 = .ok (.invokestatic 67, 3) := by decide +kernel
theorem dX6_billTerms_29 : decode cX6_billTerms 29 = .ok (.invokevirtual 56, 3) := by decide +kernel
theorem dX6_billTerms_32 : decode cX6_billTerms 32 = .ok (.aload_n 1, 1) := by decide +kernel
theorem dX6_billTerms_33 : decode cX6_billTerms 33 = .ok (.iconst 4, 1) := by decide +kernel
theorem dX6_billTerms_34 : decode cX6_billTerms 34 = .ok (.aload_n 1, 1) := by decide +kernel
theorem dX6_billTerms_35 : decode cX6_billTerms 35 = .ok (.aload_n 0, 1) := by decide +kernel
theorem dX6_billTerms_36 : decode cX6_billTerms 36 = .ok (.getfield 73, 3) := by decide +kernel
theorem dX6_billTerms_39 : decode cX6_billTerms 39 = .ok (.invokevirtual 52, 3) := by decide +kernel
theorem dX6_billTerms_42 : decode cX6_billTerms 42 = .ok (.invokevirtual 56, 3) := by decide +kernel
theorem dX6_billTerms_45 : decode cX6_billTerms 45 = .ok (.return_, 1) := by decide +kernel
theorem dX6_endPeriod_0 : decode cX6_endPeriod 0 = .ok (.iconst 0, 1) := by decide +kernel
theorem dX6_endPeriod_1 : decode cX6_endPeriod 1 = .ok (.istore_n 1, 1) := by decide +kernel
theorem dX6_endPeriod_2 : decode cX6_endPeriod 2 = .ok (.iload_n 1, 1) := by decide +kernel
theorem dX6_endPeriod_3 : decode cX6_endPeriod 3 = .ok (.iconst 4, 1) := by decide +kernel
theorem dX6_endPeriod_4 : decode cX6_endPeriod 4 = .ok (.if_icmp .ge 38, 3) := by decide +kernel
theorem dX6_endPeriod_7 : decode cX6_endPeriod 7 = .ok (.aload_n 0, 1) := by decide +kernel
theorem dX6_endPeriod_8 : decode cX6_endPeriod 8 = .ok (.getfield 20, 3) := by decide +kernel
theorem dX6_endPeriod_11 : decode cX6_endPeriod 11 = .ok (.iload_n 1, 1) := by decide +kernel
theorem dX6_endPeriod_12 : decode cX6_endPeriod 12 = .ok (.lconst 0, 1) := by decide +kernel
theorem dX6_endPeriod_13 : decode cX6_endPeriod 13 = .ok (.lastore, 1) := by decide +kernel
theorem dX6_endPeriod_14 : decode cX6_endPeriod 14 = .ok (.aload_n 0, 1) := by decide +kernel
theorem dX6_endPeriod_15 : decode cX6_endPeriod 15 = .ok (.getfield 24, 3) := by decide +kernel
theorem dX6_endPeriod_18 : decode cX6_endPeriod 18 = .ok (.iload_n 1, 1) := by decide +kernel
theorem dX6_endPeriod_19 : decode cX6_endPeriod 19 = .ok (.lconst 0, 1) := by decide +kernel
theorem dX6_endPeriod_20 : decode cX6_endPeriod 20 = .ok (.lastore, 1) := by decide +kernel
theorem dX6_endPeriod_21 : decode cX6_endPeriod 21 = .ok (.aload_n 0, 1) := by decide +kernel
theorem dX6_endPeriod_22 : decode cX6_endPeriod 22 = .ok (.getfield 17, 3) := by decide +kernel
theorem dX6_endPeriod_25 : decode cX6_endPeriod 25 = .ok (.iload_n 1, 1) := by decide +kernel
theorem dX6_endPeriod_26 : decode cX6_endPeriod 26 = .ok (.aaload, 1) := by decide +kernel
theorem dX6_endPeriod_27 : decode cX6_endPeriod 27 = .ok (.aload_n 0, 1) := by decide +kernel
theorem dX6_endPeriod_28 : decode cX6_endPeriod 28 = .ok (.getfield 11, 3) := by decide +kernel
theorem dX6_endPeriod_31 : decode cX6_endPeriod 31 = .ok (.iload_n 1, 1) := by decide +kernel
theorem dX6_endPeriod_32 : decode cX6_endPeriod 32 = .ok (.aaload, 1) := by decide +kernel
theorem dX6_endPeriod_33 : decode cX6_endPeriod 33 = .ok (.invokevirtual 76, 3) := by decide +kernel
theorem dX6_endPeriod_36 : decode cX6_endPeriod 36 = .ok (.iinc 1 1, 3) := by decide +kernel
theorem dX6_endPeriod_39 : decode cX6_endPeriod 39 = .ok (.goto (-37), 3) := by decide +kernel
theorem dX6_endPeriod_42 : decode cX6_endPeriod 42 = .ok (.aload_n 0, 1) := by decide +kernel
theorem dX6_endPeriod_43 : decode cX6_endPeriod 43 = .ok (.getfield 30, 3) := by decide +kernel
theorem dX6_endPeriod_46 : decode cX6_endPeriod 46 = .ok (.aload_n 0, 1) := by decide +kernel
theorem dX6_endPeriod_47 : decode cX6_endPeriod 47 = .ok (.getfield 80, 3) := by decide +kernel
theorem dX6_endPeriod_50 : decode cX6_endPeriod 50 = .ok (.invokevirtual 83, 3) := by decide +kernel
theorem dX6_endPeriod_53 : decode cX6_endPeriod 53 = .ok (.aload_n 0, 1) := by decide +kernel
theorem dX6_endPeriod_54 : decode cX6_endPeriod 54 = .ok (.dup, 1) := by decide +kernel
theorem dX6_endPeriod_55 : decode cX6_endPeriod 55 = .ok (.getfield 80, 3) := by decide +kernel
theorem dX6_endPeriod_58 : decode cX6_endPeriod 58 = .ok (.iconst 1, 1) := by decide +kernel
theorem dX6_endPeriod_59 : decode cX6_endPeriod 59 = .ok (.iadd, 1) := by decide +kernel
theorem dX6_endPeriod_60 : decode cX6_endPeriod 60 = .ok (.putfield 80, 3) := by decide +kernel
theorem dX6_endPeriod_63 : decode cX6_endPeriod 63 = .ok (.return_, 1) := by decide +kernel
theorem dX7_init_0 : decode cX7_init 0 = .ok (.aload_n 0, 1) := by decide +kernel
theorem dX7_init_1 : decode cX7_init 1 = .ok (.invokespecial 3, 3) := by decide +kernel
theorem dX7_init_4 : decode cX7_init 4 = .ok (.aload_n 0, 1) := by decide +kernel
theorem dX7_init_5 : decode cX7_init 5 = .ok (.bipush 6, 2) := by decide +kernel
theorem dX7_init_7 : decode cX7_init 7 = .ok (.anewarray 9, 3) := by decide +kernel
theorem dX7_init_10 : decode cX7_init 10 = .ok (.putfield 11, 3) := by decide +kernel
theorem dX7_init_13 : decode cX7_init 13 = .ok (.aload_n 0, 1) := by decide +kernel
theorem dX7_init_14 : decode cX7_init 14 = .ok (.bipush 24, 2) := by decide +kernel
theorem dX7_init_16 : decode cX7_init 16 = .ok (.anewarray 15, 3) := by decide +kernel
theorem dX7_init_19 : decode cX7_init 19 = .ok (.putfield 17, 3) := by decide +kernel
theorem dX7_init_22 : decode cX7_init 22 = .ok (.aload_n 0, 1) := by decide +kernel
theorem dX7_init_23 : decode cX7_init 23 = .ok (.sipush 200, 3) := by decide +kernel
theorem dX7_init_26 : decode cX7_init 26 = .ok (.anewarray 21, 3) := by decide +kernel
theorem dX7_init_29 : decode cX7_init 29 = .ok (.putfield 23, 3) := by decide +kernel
theorem dX7_init_32 : decode cX7_init 32 = .ok (.aload_n 0, 1) := by decide +kernel
theorem dX7_init_33 : decode cX7_init 33 = .ok (.bipush 60, 2) := by decide +kernel
theorem dX7_init_35 : decode cX7_init 35 = .ok (.anewarray 27, 3) := by decide +kernel
theorem dX7_init_38 : decode cX7_init 38 = .ok (.putfield 29, 3) := by decide +kernel
theorem dX7_init_41 : decode cX7_init 41 = .ok (.aload_n 0, 1) := by decide +kernel
theorem dX7_init_42 : decode cX7_init 42 = .ok (.new 33, 3) := by decide +kernel
theorem dX7_init_45 : decode cX7_init 45 = .ok (.dup, 1) := by decide +kernel
theorem dX7_init_46 : decode cX7_init 46 = .ok (.invokespecial 35, 3) := by decide +kernel
theorem dX7_init_49 : decode cX7_init 49 = .ok (.putfield 36, 3) := by decide +kernel
theorem dX7_init_52 : decode cX7_init 52 = .ok (.iconst 0, 1) := by decide +kernel
theorem dX7_init_53 : decode cX7_init 53 = .ok (.istore_n 1, 1) := by decide +kernel
theorem dX7_init_54 : decode cX7_init 54 = .ok (.iload_n 1, 1) := by decide +kernel
theorem dX7_init_55 : decode cX7_init 55 = .ok (.bipush 6, 2) := by decide +kernel
theorem dX7_init_57 : decode cX7_init 57 = .ok (.if_icmp .ge 23, 3) := by decide +kernel
theorem dX7_init_60 : decode cX7_init 60 = .ok (.aload_n 0, 1) := by decide +kernel
theorem dX7_init_61 : decode cX7_init 61 = .ok (.getfield 11, 3) := by decide +kernel
theorem dX7_init_64 : decode cX7_init 64 = .ok (.iload_n 1, 1) := by decide +kernel
theorem dX7_init_65 : decode cX7_init 65 = .ok (.new 9, 3) := by decide +kernel
theorem dX7_init_68 : decode cX7_init 68 = .ok (.dup, 1) := by decide +kernel
theorem dX7_init_69 : decode cX7_init 69 = .ok (.iload_n 1, 1) := by decide +kernel
theorem dX7_init_70 : decode cX7_init 70 = .ok (.invokespecial 40, 3) := by decide +kernel
theorem dX7_init_73 : decode cX7_init 73 = .ok (.aastore, 1) := by decide +kernel
theorem dX7_init_74 : decode cX7_init 74 = .ok (.iinc 1 1, 3) := by decide +kernel
theorem dX7_init_77 : decode cX7_init 77 = .ok (.goto (-23), 3) := by decide +kernel
theorem dX7_init_80 : decode cX7_init 80 = .ok (.return_, 1) := by decide +kernel
theorem dX7_account_0 : decode cX7_account 0 = .ok (.aload_n 0, 1) := by decide +kernel
theorem dX7_account_1 : decode cX7_account 1 = .ok (.iload_n 1, 1) := by decide +kernel
theorem dX7_account_2 : decode cX7_account 2 = .ok (.invokevirtual 43, 3) := by decide +kernel
theorem dX7_account_5 : decode cX7_account 5 = .ok (.astore_n 3, 1) := by decide +kernel
theorem dX7_account_6 : decode cX7_account 6 = .ok (.aload_n 0, 1) := by decide +kernel
theorem dX7_account_7 : decode cX7_account 7 = .ok (.iload_n 2, 1) := by decide +kernel
theorem dX7_account_8 : decode cX7_account 8 = .ok (.invokevirtual 47, 3) := by decide +kernel
theorem dX7_account_11 : decode cX7_account 11 = .ok (.astore 4, 2) := by decide +kernel
theorem dX7_account_13 : decode cX7_account 13 = .ok (.aload_n 3, 1) := by decide +kernel
theorem dX7_account_14 : decode cX7_account 14 = .ok (.ifnull 13, 3) := by decide +kernel
theorem dX7_account_17 : decode cX7_account 17 = .ok (.aload 4, 2) := by decide +kernel
theorem dX7_account_19 : decode cX7_account 19 = .ok (.ifnonnull 11, 3) := by decide +kernel
theorem dX7_account_22 : decode cX7_account 22 = .ok (.iload_n 2, 1) := by decide +kernel
theorem dX7_account_23 : decode cX7_account 23 = .ok (.iconst (-1), 1) := by decide +kernel
theorem dX7_account_24 : decode cX7_account 24 = .ok (.if_icmp .eq 6, 3) := by decide +kernel
theorem dX7_account_27 : decode cX7_account 27 = .ok (.bipush (-2), 2) := by decide +kernel
theorem dX7_account_29 : decode cX7_account 29 = .ok (.ireturn, 1) := by decide +kernel
theorem dX7_account_30 : decode cX7_account 30 = .ok (.aload 4, 2) := by decide +kernel
theorem dX7_account_32 : decode cX7_account 32 = .ok (.ifnull 18, 3) := by decide +kernel
theorem dX7_account_35 : decode cX7_account 35 = .ok (.aload 4, 2) := by decide +kernel
theorem dX7_account_37 : decode cX7_account 37 = .ok (.getfield 51, 3) := by decide +kernel
theorem dX7_account_40 : decode cX7_account 40 = .ok (.getfield 55, 3) := by decide +kernel
theorem dX7_account_43 : decode cX7_account 43 = .ok (.iload_n 1, 1) := by decide +kernel
theorem dX7_account_44 : decode cX7_account 44 = .ok (.if_icmp .eq 6, 3) := by decide +kernel
theorem dX7_account_47 : decode cX7_account 47 = .ok (.bipush (-2), 2) := by decide +kernel
theorem dX7_account_49 : decode cX7_account 49 = .ok (.ireturn, 1) := by decide +kernel
theorem dX7_account_50 : decode cX7_account 50 = .ok (.aload_n 0, 1) := by decide +kernel
theorem dX7_account_51 : decode cX7_account 51 = .ok (.getfield 59, 3) := by decide +kernel
theorem dX7_account_54 : decode cX7_account 54 = .ok (.bipush 24, 2) := by decide +kernel
theorem dX7_account_56 : decode cX7_account 56 = .ok (.if_icmp .lt 6, 3) := by decide +kernel
theorem dX7_account_59 : decode cX7_account 59 = .ok (.bipush (-3), 2) := by decide +kernel
theorem dX7_account_61 : decode cX7_account 61 = .ok (.ireturn, 1) := by decide +kernel
theorem dX7_account_62 : decode cX7_account 62 = .ok (.aload_n 0, 1) := by decide +kernel
theorem dX7_account_63 : decode cX7_account 63 = .ok (.getfield 17, 3) := by decide +kernel
theorem dX7_account_66 : decode cX7_account 66 = .ok (.aload_n 0, 1) := by decide +kernel
theorem dX7_account_67 : decode cX7_account 67 = .ok (.getfield 59, 3) := by decide +kernel
theorem dX7_account_70 : decode cX7_account 70 = .ok (.new 15, 3) := by decide +kernel
theorem dX7_account_73 : decode cX7_account 73 = .ok (.dup, 1) := by decide +kernel
theorem dX7_account_74 : decode cX7_account 74 = .ok (.aload_n 0, 1) := by decide +kernel
theorem dX7_account_75 : decode cX7_account 75 = .ok (.getfield 59, 3) := by decide +kernel
theorem dX7_account_78 : decode cX7_account 78 = .ok (.aload_n 3, 1) := by decide +kernel
theorem dX7_account_79 : decode cX7_account 79 = .ok (.aload 4, 2) := by decide +kernel
theorem dX7_account_81 : decode cX7_account 81 = .ok (.invokespecial 62, 3) := by decide +kernel
theorem dX7_account_84 : decode cX7_account 84 = .ok (.aastore, 1) := by decide +kernel
theorem dX7_account_85 : decode cX7_account 85 = .ok (.aload_n 0, 1) := by decide +kernel
theorem dX7_account_86 : decode cX7_account 86 = .ok (.dup, 1) := by decide +kernel
theorem dX7_account_87 : decode cX7_account 87 = .ok (.getfield 59, 3) := by decide +kernel
theorem dX7_account_90 : decode cX7_account 90 = .ok (.iconst 1, 1) := by decide +kernel
theorem dX7_account_91 : decode cX7_account 91 = .ok (.iadd, 1) := by decide +kernel
theorem dX7_account_92 : decode cX7_account 92 = .ok (.putfield 59, 3) := by decide +kernel
theorem dX7_account_95 : decode cX7_account 95 = .ok (.aload_n 0, 1) := by decide +kernel
theorem dX7_account_96 : decode cX7_account 96 = .ok (.getfield 59, 3) := by decide +kernel
theorem dX7_account_99 : decode cX7_account 99 = .ok (.iconst 1, 1) := by decide +kernel
theorem dX7_account_100 : decode cX7_account 100 = .ok (.isub, 1) := by decide +kernel
theorem dX7_account_101 : decode cX7_account 101 = .ok (.ireturn, 1) := by decide +kernel
theorem dX7_tick_0 : decode cX7_tick 0 = .ok (.iload_n 1, 1) := by decide +kernel
theorem dX7_tick_1 : decode cX7_tick 1 = .ok (.iconst 1, 1) := by decide +kernel
theorem dX7_tick_2 : decode cX7_tick 2 = .ok (.if_icmp .lt 10, 3) := by decide +kernel
theorem dX7_tick_5 : decode cX7_tick 5 = .ok (.iload_n 1, 1) := by decide +kernel
theorem dX7_tick_6 : decode cX7_tick 6 = .ok (.sipush 10000, 3) := by decide +kernel
theorem dX7_tick_9 : decode cX7_tick 9 = .ok (.if_icmp .le 6, 3) := by decide +kernel
theorem dX7_tick_12 : decode cX7_tick 12 = .ok (.bipush (-2), 2) := by decide +kernel
theorem dX7_tick_14 : decode cX7_tick 14 = .ok (.ireturn, 1) := by decide +kernel
theorem dX7_tick_15 : decode cX7_tick 15 = .ok (.aload_n 0, 1) := by decide +kernel
theorem dX7_tick_16 : decode cX7_tick 16 = .ok (.getfield 65, 3) := by decide +kernel
theorem dX7_tick_19 : decode cX7_tick 19 = .ok (.iload_n 1, 1) := by decide +kernel
theorem dX7_tick_20 : decode cX7_tick 20 = .ok (.iadd, 1) := by decide +kernel
theorem dX7_tick_21 : decode cX7_tick 21 = .ok (.ldc 68, 2) := by decide +kernel
theorem dX7_tick_23 : decode cX7_tick 23 = .ok (.if_icmp .le 6, 3) := by decide +kernel
theorem dX7_tick_26 : decode cX7_tick 26 = .ok (.bipush (-3), 2) := by decide +kernel
theorem dX7_tick_28 : decode cX7_tick 28 = .ok (.ireturn, 1) := by decide +kernel
theorem dX7_tick_29 : decode cX7_tick 29 = .ok (.aload_n 0, 1) := by decide +kernel
theorem dX7_tick_30 : decode cX7_tick 30 = .ok (.dup, 1) := by decide +kernel
theorem dX7_tick_31 : decode cX7_tick 31 = .ok (.getfield 65, 3) := by decide +kernel
theorem dX7_tick_34 : decode cX7_tick 34 = .ok (.iload_n 1, 1) := by decide +kernel
theorem dX7_tick_35 : decode cX7_tick 35 = .ok (.iadd, 1) := by decide +kernel
theorem dX7_tick_36 : decode cX7_tick 36 = .ok (.putfield 65, 3) := by decide +kernel
theorem dX7_tick_39 : decode cX7_tick 39 = .ok (.aload_n 0, 1) := by decide +kernel
theorem dX7_tick_40 : decode cX7_tick 40 = .ok (.getfield 36, 3) := by decide +kernel
theorem dX7_tick_43 : decode cX7_tick 43 = .ok (.aload_n 0, 1) := by decide +kernel
theorem dX7_tick_44 : decode cX7_tick 44 = .ok (.getfield 65, 3) := by decide +kernel
theorem dX7_tick_47 : decode cX7_tick 47 = .ok (.invokevirtual 69, 3) := by decide +kernel
theorem dX7_tick_50 : decode cX7_tick 50 = .ok (.aload_n 0, 1) := by decide +kernel
theorem dX7_tick_51 : decode cX7_tick 51 = .ok (.invokevirtual 72, 3) := by decide +kernel
theorem dX7_tick_54 : decode cX7_tick 54 = .ok (.aload_n 0, 1) := by decide +kernel
theorem dX7_tick_55 : decode cX7_tick 55 = .ok (.getfield 65, 3) := by decide +kernel
theorem dX7_tick_58 : decode cX7_tick 58 = .ok (.ireturn, 1) := by decide +kernel
theorem dX7_event_0 : decode cX7_event 0 = .ok (.aload_n 0, 1) := by decide +kernel
theorem dX7_event_1 : decode cX7_event 1 = .ok (.iload_n 3, 1) := by decide +kernel
theorem dX7_event_2 : decode cX7_event 2 = .ok (.invokevirtual 47, 3) := by decide +kernel
theorem dX7_event_5 : decode cX7_event 5 = .ok (.astore 7, 2) := by decide +kernel
theorem dX7_event_7 : decode cX7_event 7 = .ok (.aload 7, 2) := by decide +kernel
theorem dX7_event_9 : decode cX7_event 9 = .ok (.ifnull 24, 3) := by decide +kernel
theorem dX7_event_12 : decode cX7_event 12 = .ok (.iload 4, 2) := by decide +kernel
theorem dX7_event_14 : decode cX7_event 14 = .ok (.invokestatic 75, 3) := by decide +kernel
theorem dX7_event_17 : decode cX7_event 17 = .ok (.ifCond .eq 16, 3) := by decide +kernel
theorem dX7_event_20 : decode cX7_event 20 = .ok (.iload 5, 2) := by decide +kernel
theorem dX7_event_22 : decode cX7_event 22 = .ok (.invokestatic 79, 3) := by decide +kernel
theorem dX7_event_25 : decode cX7_event 25 = .ok (.ifCond .eq 8, 3) := by decide +kernel
theorem dX7_event_28 : decode cX7_event 28 = .ok (.iload 6, 2) := by decide +kernel
theorem dX7_event_30 : decode cX7_event 30 = .ok (.ifCond .ge 6, 3) := by decide +kernel
theorem dX7_event_33 : decode cX7_event 33 = .ok (.bipush (-2), 2) := by decide +kernel
theorem dX7_event_35 : decode cX7_event 35 = .ok (.ireturn, 1) := by decide +kernel
theorem dX7_event_36 : decode cX7_event 36 = .ok (.iload 6, 2) := by decide +kernel
theorem dX7_event_38 : decode cX7_event 38 = .ok (.aload_n 0, 1) := by decide +kernel
theorem dX7_event_39 : decode cX7_event 39 = .ok (.getfield 65, 3) := by decide +kernel
theorem dX7_event_42 : decode cX7_event 42 = .ok (.if_icmp .le 6, 3) := by decide +kernel
theorem dX7_event_45 : decode cX7_event 45 = .ok (.bipush (-4), 2) := by decide +kernel
theorem dX7_event_47 : decode cX7_event 47 = .ok (.ireturn, 1) := by decide +kernel
theorem dX7_event_48 : decode cX7_event 48 = .ok (.aload_n 0, 1) := by decide +kernel
theorem dX7_event_49 : decode cX7_event 49 = .ok (.getfield 65, 3) := by decide +kernel
theorem dX7_event_52 : decode cX7_event 52 = .ok (.iload 6, 2) := by decide +kernel
theorem dX7_event_54 : decode cX7_event 54 = .ok (.isub, 1) := by decide +kernel
theorem dX7_event_55 : decode cX7_event 55 = .ok (.sipush 500, 3) := by decide +kernel
theorem dX7_event_58 : decode cX7_event 58 = .ok (.if_icmp .le 6, 3) := by decide +kernel
theorem dX7_event_61 : decode cX7_event 61 = .ok (.bipush (-5), 2) := by decide +kernel
theorem dX7_event_63 : decode cX7_event 63 = .ok (.ireturn, 1) := by decide +kernel
theorem dX7_event_64 : decode cX7_event 64 = .ok (.aload_n 0, 1) := by decide +kernel
theorem dX7_event_65 : decode cX7_event 65 = .ok (.getfield 36, 3) := by decide +kernel
theorem dX7_event_68 : decode cX7_event 68 = .ok (.aload 7, 2) := by decide +kernel
theorem dX7_event_70 : decode cX7_event 70 = .ok (.getfield 51, 3) := by decide +kernel
theorem dX7_event_73 : decode cX7_event 73 = .ok (.getfield 55, 3) := by decide +kernel
theorem dX7_event_76 : decode cX7_event 76 = .ok (.lload_n 1, 1) := by decide +kernel
theorem dX7_event_77 : decode cX7_event 77 = .ok (.invokevirtual 82, 3) := by decide +kernel
theorem dX7_event_80 : decode cX7_event 80 = .ok (.ifCond .eq 6, 3) := by decide +kernel
theorem dX7_event_83 : decode cX7_event 83 = .ok (.bipush (-6), 2) := by decide +kernel
theorem dX7_event_85 : decode cX7_event 85 = .ok (.ireturn, 1) := by decide +kernel
theorem dX7_event_86 : decode cX7_event 86 = .ok (.aload_n 0, 1) := by decide +kernel
theorem dX7_event_87 : decode cX7_event 87 = .ok (.getfield 36, 3) := by decide +kernel
theorem dX7_event_90 : decode cX7_event 90 = .ok (.aload 7, 2) := by decide +kernel
theorem dX7_event_92 : decode cX7_event 92 = .ok (.getfield 51, 3) := by decide +kernel
theorem dX7_event_95 : decode cX7_event 95 = .ok (.getfield 55, 3) := by decide +kernel
theorem dX7_event_98 : decode cX7_event 98 = .ok (.lload_n 1, 1) := by decide +kernel
theorem dX7_event_99 : decode cX7_event 99 = .ok (.iload 6, 2) := by decide +kernel
theorem dX7_event_101 : decode cX7_event 101 = .ok (.invokevirtual 86, 3) := by decide +kernel
theorem dX7_event_104 : decode cX7_event 104 = .ok (.ifCond .ne 6, 3) := by decide +kernel
theorem dX7_event_107 : decode cX7_event 107 = .ok (.bipush (-3), 2) := by decide +kernel
theorem dX7_event_109 : decode cX7_event 109 = .ok (.ireturn, 1) := by decide +kernel
theorem dX7_event_110 : decode cX7_event 110 = .ok (.aload_n 0, 1) := by decide +kernel
theorem dX7_event_111 : decode cX7_event 111 = .ok (.aload 7, 2) := by decide +kernel
theorem dX7_event_113 : decode cX7_event 113 = .ok (.iload 4, 2) := by decide +kernel
theorem dX7_event_115 : decode cX7_event 115 = .ok (.iload 5, 2) := by decide +kernel
theorem dX7_event_117 : decode cX7_event 117 = .ok (.iload 6, 2) := by decide +kernel
theorem dX7_event_119 : decode cX7_event 119 = .ok (.sipush 1000, 3) := by decide +kernel
theorem dX7_event_122 : decode cX7_event 122 = .ok (.idiv, 1) := by decide +kernel
theorem dX7_event_123 : decode cX7_event 123 = .ok (.invokevirtual 90, 3) := by decide +kernel
theorem dX7_event_126 : decode cX7_event 126 = .ok (.ireturn, 1) := by decide +kernel
theorem dX7_limit_0 : decode cX7_limit 0 = .ok (.aload_n 0, 1) := by decide +kernel
theorem dX7_limit_1 : decode cX7_limit 1 = .ok (.iload_n 1, 1) := by decide +kernel
theorem dX7_limit_2 : decode cX7_limit 2 = .ok (.invokevirtual 47, 3) := by decide +kernel
theorem dX7_limit_5 : decode cX7_limit 5 = .ok (.astore 4, 2) := by decide +kernel
theorem dX7_limit_7 : decode cX7_limit 7 = .ok (.aload 4, 2) := by decide +kernel
theorem dX7_limit_9 : decode cX7_limit 9 = .ok (.ifnull 21, 3) := by decide +kernel
theorem dX7_limit_12 : decode cX7_limit 12 = .ok (.iload_n 2, 1) := by decide +kernel
theorem dX7_limit_13 : decode cX7_limit 13 = .ok (.invokestatic 75, 3) := by decide +kernel
theorem dX7_limit_16 : decode cX7_limit 16 = .ok (.ifCond .eq 14, 3) := by decide +kernel
theorem dX7_limit_19 : decode cX7_limit 19 = .ok (.iload_n 3, 1) := by decide +kernel
theorem dX7_limit_20 : decode cX7_limit 20 = .ok (.iconst (-1), 1) := by decide +kernel
theorem dX7_limit_21 : decode cX7_limit 21 = .ok (.if_icmp .lt 9, 3) := by decide +kernel
theorem dX7_limit_24 : decode cX7_limit 24 = .ok (.iload_n 3, 1) := by decide +kernel
theorem dX7_limit_25 : decode cX7_limit 25 = .ok (.ldc 94, 2) := by decide +kernel
theorem dX7_limit_27 : decode cX7_limit 27 = .ok (.if_icmp .le 6, 3) := by decide +kernel
theorem dX7_limit_30 : decode cX7_limit 30 = .ok (.bipush (-2), 2) := by decide +kernel
theorem dX7_limit_32 : decode cX7_limit 32 = .ok (.ireturn, 1) := by decide +kernel
theorem dX7_limit_33 : decode cX7_limit 33 = .ok (.aload 4, 2) := by decide +kernel
theorem dX7_limit_35 : decode cX7_limit 35 = .ok (.getfield 95, 3) := by decide +kernel
theorem dX7_limit_38 : decode cX7_limit 38 = .ok (.iload_n 2, 1) := by decide +kernel
theorem dX7_limit_39 : decode cX7_limit 39 = .ok (.iload_n 3, 1) := by decide +kernel
theorem dX7_limit_40 : decode cX7_limit 40 = .ok (.iastore, 1) := by decide +kernel
theorem dX7_limit_41 : decode cX7_limit 41 = .ok (.iconst 0, 1) := by decide +kernel
theorem dX7_limit_42 : decode cX7_limit 42 = .ok (.ireturn, 1) := by decide +kernel
theorem dX7_request_0 : decode cX7_request 0 = .ok (.aload_n 0, 1) := by decide +kernel
theorem dX7_request_1 : decode cX7_request 1 = .ok (.iload_n 1, 1) := by decide +kernel
theorem dX7_request_2 : decode cX7_request 2 = .ok (.invokevirtual 47, 3) := by decide +kernel
theorem dX7_request_5 : decode cX7_request 5 = .ok (.astore 4, 2) := by decide +kernel
theorem dX7_request_7 : decode cX7_request 7 = .ok (.aload 4, 2) := by decide +kernel
theorem dX7_request_9 : decode cX7_request 9 = .ok (.ifnull 17, 3) := by decide +kernel
theorem dX7_request_12 : decode cX7_request 12 = .ok (.iload_n 2, 1) := by decide +kernel
theorem dX7_request_13 : decode cX7_request 13 = .ok (.invokestatic 75, 3) := by decide +kernel
theorem dX7_request_16 : decode cX7_request 16 = .ok (.ifCond .eq 10, 3) := by decide +kernel
theorem dX7_request_19 : decode cX7_request 19 = .ok (.iload_n 3, 1) := by decide +kernel
theorem dX7_request_20 : decode cX7_request 20 = .ok (.invokestatic 79, 3) := by decide +kernel
theorem dX7_request_23 : decode cX7_request 23 = .ok (.ifCond .ne 6, 3) := by decide +kernel
theorem dX7_request_26 : decode cX7_request 26 = .ok (.bipush (-2), 2) := by decide +kernel
theorem dX7_request_28 : decode cX7_request 28 = .ok (.ireturn, 1) := by decide +kernel
theorem dX7_request_29 : decode cX7_request 29 = .ok (.aload_n 0, 1) := by decide +kernel
theorem dX7_request_30 : decode cX7_request 30 = .ok (.getfield 99, 3) := by decide +kernel
theorem dX7_request_33 : decode cX7_request 33 = .ok (.bipush 40, 2) := by decide +kernel
theorem dX7_request_35 : decode cX7_request 35 = .ok (.if_icmp .ge 13, 3) := by decide +kernel
theorem dX7_request_38 : decode cX7_request 38 = .ok (.aload_n 0, 1) := by decide +kernel
theorem dX7_request_39 : decode cX7_request 39 = .ok (.getfield 102, 3) := by decide +kernel
theorem dX7_request_42 : decode cX7_request 42 = .ok (.sipush 200, 3) := by decide +kernel
theorem dX7_request_45 : decode cX7_request 45 = .ok (.if_icmp .lt 6, 3) := by decide +kernel
theorem dX7_request_48 : decode cX7_request 48 = .ok (.bipush (-3), 2) := by decide +kernel
theorem dX7_request_50 : decode cX7_request 50 = .ok (.ireturn, 1) := by decide +kernel
theorem dX7_request_51 : decode cX7_request 51 = .ok (.iload_n 3, 1) := by decide +kernel
theorem dX7_request_52 : decode cX7_request 52 = .ok (.aload 4, 2) := by decide +kernel
theorem dX7_request_54 : decode cX7_request 54 = .ok (.iload_n 2, 1) := by decide +kernel
theorem dX7_request_55 : decode cX7_request 55 = .ok (.aload_n 0, 1) := by decide +kernel
theorem dX7_request_56 : decode cX7_request 56 = .ok (.getfield 65, 3) := by decide +kernel
theorem dX7_request_59 : decode cX7_request 59 = .ok (.sipush 1000, 3) := by decide +kernel
theorem dX7_request_62 : decode cX7_request 62 = .ok (.idiv, 1) := by decide +kernel
theorem dX7_request_63 : decode cX7_request 63 = .ok (.invokevirtual 105, 3) := by decide +kernel
theorem dX7_request_66 : decode cX7_request 66 = .ok (.if_icmp .le 6, 3) := by decide +kernel
theorem dX7_request_69 : decode cX7_request 69 = .ok (.bipush (-7), 2) := by decide +kernel
theorem dX7_request_71 : decode cX7_request 71 = .ok (.ireturn, 1) := by decide +kernel
theorem dX7_request_72 : decode cX7_request 72 = .ok (.aload_n 0, 1) := by decide +kernel
theorem dX7_request_73 : decode cX7_request 73 = .ok (.getfield 23, 3) := by decide +kernel
theorem dX7_request_76 : decode cX7_request 76 = .ok (.aload_n 0, 1) := by decide +kernel
theorem dX7_request_77 : decode cX7_request 77 = .ok (.getfield 102, 3) := by decide +kernel
theorem dX7_request_80 : decode cX7_request 80 = .ok (.new 21, 3) := by decide +kernel
theorem dX7_request_83 : decode cX7_request 83 = .ok (.dup, 1) := by decide +kernel
theorem dX7_request_84 : decode cX7_request 84 = .ok (.aload 4, 2) := by decide +kernel
theorem dX7_request_86 : decode cX7_request 86 = .ok (.iload_n 2, 1) := by decide +kernel
theorem dX7_request_87 : decode cX7_request 87 = .ok (.iload_n 3, 1) := by decide +kernel
theorem dX7_request_88 : decode cX7_request 88 = .ok (.aload_n 0, 1) := by decide +kernel
theorem dX7_request_89 : decode cX7_request 89 = .ok (.getfield 65, 3) := by decide +kernel
theorem dX7_request_92 : decode cX7_request 92 = .ok (.invokespecial 109, 3) := by decide +kernel
theorem dX7_request_95 : decode cX7_request 95 = .ok (.aastore, 1) := by decide +kernel
theorem dX7_request_96 : decode cX7_request 96 = .ok (.aload_n 0, 1) := by decide +kernel
theorem dX7_request_97 : decode cX7_request 97 = .ok (.dup, 1) := by decide +kernel
theorem dX7_request_98 : decode cX7_request 98 = .ok (.getfield 102, 3) := by decide +kernel
theorem dX7_request_101 : decode cX7_request 101 = .ok (.iconst 1, 1) := by decide +kernel
theorem dX7_request_102 : decode cX7_request 102 = .ok (.iadd, 1) := by decide +kernel
theorem dX7_request_103 : decode cX7_request 103 = .ok (.putfield 102, 3) := by decide +kernel
theorem dX7_request_106 : decode cX7_request 106 = .ok (.aload_n 0, 1) := by decide +kernel
theorem dX7_request_107 : decode cX7_request 107 = .ok (.dup, 1) := by decide +kernel
theorem dX7_request_108 : decode cX7_request 108 = .ok (.getfield 99, 3) := by decide +kernel
theorem dX7_request_111 : decode cX7_request 111 = .ok (.iconst 1, 1) := by decide +kernel
theorem dX7_request_112 : decode cX7_request 112 = .ok (.iadd, 1) := by decide +kernel
theorem dX7_request_113 : decode cX7_request 113 = .ok (.putfield 99, 3) := by decide +kernel
theorem dX7_request_116 : decode cX7_request 116 = .ok (.aload 4, 2) := by decide +kernel
theorem dX7_request_118 : decode cX7_request 118 = .ok (.iload_n 2, 1) := by decide +kernel
theorem dX7_request_119 : decode cX7_request 119 = .ok (.iload_n 3, 1) := by decide +kernel
theorem dX7_request_120 : decode cX7_request 120 = .ok (.invokevirtual 112, 3) := by decide +kernel
theorem dX7_request_123 : decode cX7_request 123 = .ok (.aload_n 0, 1) := by decide +kernel
theorem dX7_request_124 : decode cX7_request 124 = .ok (.getfield 102, 3) := by decide +kernel
theorem dX7_request_127 : decode cX7_request 127 = .ok (.iconst 1, 1) := by decide +kernel
theorem dX7_request_128 : decode cX7_request 128 = .ok (.isub, 1) := by decide +kernel
theorem dX7_request_129 : decode cX7_request 129 = .ok (.ireturn, 1) := by decide +kernel
theorem dX7_settle_0 : decode cX7_settle 0 = .ok (.aload_n 0, 1) := by decide +kernel
theorem dX7_settle_1 : decode cX7_settle 1 = .ok (.iload_n 1, 1) := by decide +kernel
theorem dX7_settle_2 : decode cX7_settle 2 = .ok (.invokevirtual 116, 3) := by decide +kernel
theorem dX7_settle_5 : decode cX7_settle 5 = .ok (.astore 5, 2) := by decide +kernel
theorem dX7_settle_7 : decode cX7_settle 7 = .ok (.aload 5, 2) := by decide +kernel
theorem dX7_settle_9 : decode cX7_settle 9 = .ok (.ifnull 16, 3) := by decide +kernel
theorem dX7_settle_12 : decode cX7_settle 12 = .ok (.iload_n 2, 1) := by decide +kernel
theorem dX7_settle_13 : decode cX7_settle 13 = .ok (.ifCond .lt 12, 3) := by decide +kernel
theorem dX7_settle_16 : decode cX7_settle 16 = .ok (.iload_n 2, 1) := by decide +kernel
theorem dX7_settle_17 : decode cX7_settle 17 = .ok (.aload 5, 2) := by decide +kernel
theorem dX7_settle_19 : decode cX7_settle 19 = .ok (.getfield 120, 3) := by decide +kernel
theorem dX7_settle_22 : decode cX7_settle 22 = .ok (.if_icmp .le 6, 3) := by decide +kernel
theorem dX7_settle_25 : decode cX7_settle 25 = .ok (.bipush (-2), 2) := by decide +kernel
theorem dX7_settle_27 : decode cX7_settle 27 = .ok (.ireturn, 1) := by decide +kernel
theorem dX7_settle_28 : decode cX7_settle 28 = .ok (.iconst 0, 1) := by decide +kernel
theorem dX7_settle_29 : decode cX7_settle 29 = .ok (.istore 6, 2) := by decide +kernel
theorem dX7_settle_31 : decode cX7_settle 31 = .ok (.iload_n 2, 1) := by decide +kernel
theorem dX7_settle_32 : decode cX7_settle 32 = .ok (.ifCond .le 28, 3) := by decide +kernel
theorem dX7_settle_35 : decode cX7_settle 35 = .ok (.aload_n 0, 1) := by decide +kernel
theorem dX7_settle_36 : decode cX7_settle 36 = .ok (.lload_n 3, 1) := by decide +kernel
theorem dX7_settle_37 : decode cX7_settle 37 = .ok (.aload 5, 2) := by decide +kernel
theorem dX7_settle_39 : decode cX7_settle 39 = .ok (.getfield 123, 3) := by decide +kernel
theorem dX7_settle_42 : decode cX7_settle 42 = .ok (.getfield 127, 3) := by decide +kernel
theorem dX7_settle_45 : decode cX7_settle 45 = .ok (.aload 5, 2) := by decide +kernel
theorem dX7_settle_47 : decode cX7_settle 47 = .ok (.getfield 128, 3) := by decide +kernel
theorem dX7_settle_50 : decode cX7_settle 50 = .ok (.iload_n 2, 1) := by decide +kernel
theorem dX7_settle_51 : decode cX7_settle 51 = .ok (.aload_n 0, 1) := by decide +kernel
theorem dX7_settle_52 : decode cX7_settle 52 = .ok (.getfield 65, 3) := by decide +kernel
theorem dX7_settle_55 : decode cX7_settle 55 = .ok (.invokevirtual 131, 3) := by decide +kernel
theorem dX7_settle_58 : decode cX7_settle 58 = .ok (.istore 6, 2) := by decide +kernel
theorem dX7_settle_60 : decode cX7_settle 60 = .ok (.iload 6, 2) := by decide +kernel
theorem dX7_settle_62 : decode cX7_settle 62 = .ok (.ifCond .lt 9, 3) := by decide +kernel
theorem dX7_settle_65 : decode cX7_settle 65 = .ok (.aload_n 0, 1) := by decide +kernel
theorem dX7_settle_66 : decode cX7_settle 66 = .ok (.aload 5, 2) := by decide +kernel
theorem dX7_settle_68 : decode cX7_settle 68 = .ok (.invokevirtual 135, 3) := by decide +kernel
theorem dX7_settle_71 : decode cX7_settle 71 = .ok (.iload 6, 2) := by decide +kernel
theorem dX7_settle_73 : decode cX7_settle 73 = .ok (.ireturn, 1) := by decide +kernel
theorem dX7_drop_0 : decode cX7_drop 0 = .ok (.aload_n 0, 1) := by decide +kernel
theorem dX7_drop_1 : decode cX7_drop 1 = .ok (.iload_n 1, 1) := by decide +kernel
theorem dX7_drop_2 : decode cX7_drop 2 = .ok (.invokevirtual 116, 3) := by decide +kernel
theorem dX7_drop_5 : decode cX7_drop 5 = .ok (.astore_n 2, 1) := by decide +kernel
theorem dX7_drop_6 : decode cX7_drop 6 = .ok (.aload_n 2, 1) := by decide +kernel
theorem dX7_drop_7 : decode cX7_drop 7 = .ok (.ifnonnull 6, 3) := by decide +kernel
theorem dX7_drop_10 : decode cX7_drop 10 = .ok (.bipush (-2), 2) := by decide +kernel
theorem dX7_drop_12 : decode cX7_drop 12 = .ok (.ireturn, 1) := by decide +kernel
theorem dX7_drop_13 : decode cX7_drop 13 = .ok (.aload_n 0, 1) := by decide +kernel
theorem dX7_drop_14 : decode cX7_drop 14 = .ok (.aload_n 2, 1) := by decide +kernel
theorem dX7_drop_15 : decode cX7_drop 15 = .ok (.invokevirtual 135, 3) := by decide +kernel
theorem dX7_drop_18 : decode cX7_drop 18 = .ok (.aload_n 2, 1) := by decide +kernel
theorem dX7_drop_19 : decode cX7_drop 19 = .ok (.getfield 120, 3) := by decide +kernel
theorem dX7_drop_22 : decode cX7_drop 22 = .ok (.ireturn, 1) := by decide +kernel
theorem dX7_mode_0 : decode cX7_mode 0 = .ok (.aload_n 0, 1) := by decide +kernel
theorem dX7_mode_1 : decode cX7_mode 1 = .ok (.iload_n 1, 1) := by decide +kernel
theorem dX7_mode_2 : decode cX7_mode 2 = .ok (.iload_n 2, 1) := by decide +kernel
theorem dX7_mode_3 : decode cX7_mode 3 = .ok (.invokevirtual 139, 3) := by decide +kernel
theorem dX7_mode_6 : decode cX7_mode 6 = .ok (.astore 5, 2) := by decide +kernel
theorem dX7_mode_8 : decode cX7_mode 8 = .ok (.aload 5, 2) := by decide +kernel
theorem dX7_mode_10 : decode cX7_mode 10 = .ok (.ifnull 25, 3) := by decide +kernel
theorem dX7_mode_13 : decode cX7_mode 13 = .ok (.iload_n 3, 1) := by decide +kernel
theorem dX7_mode_14 : decode cX7_mode 14 = .ok (.ifCond .lt 21, 3) := by decide +kernel
theorem dX7_mode_17 : decode cX7_mode 17 = .ok (.iload_n 3, 1) := by decide +kernel
theorem dX7_mode_18 : decode cX7_mode 18 = .ok (.iconst 2, 1) := by decide +kernel
theorem dX7_mode_19 : decode cX7_mode 19 = .ok (.if_icmp .gt 16, 3) := by decide +kernel
theorem dX7_mode_22 : decode cX7_mode 22 = .ok (.iload 4, 2) := by decide +kernel
theorem dX7_mode_24 : decode cX7_mode 24 = .ok (.iconst 1, 1) := by decide +kernel
theorem dX7_mode_25 : decode cX7_mode 25 = .ok (.if_icmp .lt 10, 3) := by decide +kernel
theorem dX7_mode_28 : decode cX7_mode 28 = .ok (.iload 4, 2) := by decide +kernel
theorem dX7_mode_30 : decode cX7_mode 30 = .ok (.ldc 143, 2) := by decide +kernel
theorem dX7_mode_32 : decode cX7_mode 32 = .ok (.if_icmp .le 6, 3) := by decide +kernel
theorem dX7_mode_35 : decode cX7_mode 35 = .ok (.bipush (-2), 2) := by decide +kernel
theorem dX7_mode_37 : decode cX7_mode 37 = .ok (.ireturn, 1) := by decide +kernel
theorem dX7_mode_38 : decode cX7_mode 38 = .ok (.aload 5, 2) := by decide +kernel
theorem dX7_mode_40 : decode cX7_mode 40 = .ok (.iload_n 3, 1) := by decide +kernel
theorem dX7_mode_41 : decode cX7_mode 41 = .ok (.putfield 144, 3) := by decide +kernel
theorem dX7_mode_44 : decode cX7_mode 44 = .ok (.aload 5, 2) := by decide +kernel
theorem dX7_mode_46 : decode cX7_mode 46 = .ok (.iload 4, 2) := by decide +kernel
theorem dX7_mode_48 : decode cX7_mode 48 = .ok (.putfield 149, 3) := by decide +kernel
theorem dX7_mode_51 : decode cX7_mode 51 = .ok (.iconst 0, 1) := by decide +kernel
theorem dX7_mode_52 : decode cX7_mode 52 = .ok (.ireturn, 1) := by decide +kernel
theorem dX7_tier_0 : decode cX7_tier 0 = .ok (.aload_n 0, 1) := by decide +kernel
theorem dX7_tier_1 : decode cX7_tier 1 = .ok (.iload_n 1, 1) := by decide +kernel
theorem dX7_tier_2 : decode cX7_tier 2 = .ok (.iload_n 2, 1) := by decide +kernel
theorem dX7_tier_3 : decode cX7_tier 3 = .ok (.invokevirtual 139, 3) := by decide +kernel
theorem dX7_tier_6 : decode cX7_tier 6 = .ok (.astore 8, 2) := by decide +kernel
theorem dX7_tier_8 : decode cX7_tier 8 = .ok (.aload 8, 2) := by decide +kernel
theorem dX7_tier_10 : decode cX7_tier 10 = .ok (.ifnull 19, 3) := by decide +kernel
theorem dX7_tier_13 : decode cX7_tier 13 = .ok (.lload 4, 2) := by decide +kernel
theorem dX7_tier_15 : decode cX7_tier 15 = .ok (.lconst 1, 1) := by decide +kernel
theorem dX7_tier_16 : decode cX7_tier 16 = .ok (.lcmp, 1) := by decide +kernel
theorem dX7_tier_17 : decode cX7_tier 17 = .ok (.ifCond .lt 12, 3) := by decide +kernel
theorem dX7_tier_20 : decode cX7_tier 20 = .ok (.lload 4, 2) := by decide +kernel
theorem dX7_tier_22 : decode cX7_tier 22 = .ok (.ldc2_w 152, 3) := by decide +kernel
theorem dX7_tier_25 : decode cX7_tier 25 = .ok (.lcmp, 1) := by decide +kernel
theorem dX7_tier_26 : decode cX7_tier 26 = .ok (.ifCond .le 6, 3) := by decide +kernel
theorem dX7_tier_29 : decode cX7_tier 29 = .ok (.bipush (-2), 2) := by decide +kernel
theorem dX7_tier_31 : decode cX7_tier 31 = .ok (.ireturn, 1) := by decide +kernel
theorem dX7_tier_32 : decode cX7_tier 32 = .ok (.iload 6, 2) := by decide +kernel
theorem dX7_tier_34 : decode cX7_tier 34 = .ok (.ifCond .lt 22, 3) := by decide +kernel
theorem dX7_tier_37 : decode cX7_tier 37 = .ok (.iload 6, 2) := by decide +kernel
theorem dX7_tier_39 : decode cX7_tier 39 = .ok (.ldc 154, 2) := by decide +kernel
theorem dX7_tier_41 : decode cX7_tier 41 = .ok (.if_icmp .gt 15, 3) := by decide +kernel
theorem dX7_tier_44 : decode cX7_tier 44 = .ok (.iload 7, 2) := by decide +kernel
theorem dX7_tier_46 : decode cX7_tier 46 = .ok (.ifCond .lt 10, 3) := by decide +kernel
theorem dX7_tier_49 : decode cX7_tier 49 = .ok (.iload 7, 2) := by decide +kernel
theorem dX7_tier_51 : decode cX7_tier 51 = .ok (.ldc 94, 2) := by decide +kernel
theorem dX7_tier_53 : decode cX7_tier 53 = .ok (.if_icmp .le 6, 3) := by decide +kernel
theorem dX7_tier_56 : decode cX7_tier 56 = .ok (.bipush (-2), 2) := by decide +kernel
theorem dX7_tier_58 : decode cX7_tier 58 = .ok (.ireturn, 1) := by decide +kernel
theorem dX7_tier_59 : decode cX7_tier 59 = .ok (.aload 8, 2) := by decide +kernel
theorem dX7_tier_61 : decode cX7_tier 61 = .ok (.iload_n 3, 1) := by decide +kernel
theorem dX7_tier_62 : decode cX7_tier 62 = .ok (.lload 4, 2) := by decide +kernel
theorem dX7_tier_64 : decode cX7_tier 64 = .ok (.iload 6, 2) := by decide +kernel
theorem dX7_tier_66 : decode cX7_tier 66 = .ok (.iload 7, 2) := by decide +kernel
theorem dX7_tier_68 : decode cX7_tier 68 = .ok (.invokevirtual 155, 3) := by decide +kernel
theorem dX7_tier_71 : decode cX7_tier 71 = .ok (.ifCond .eq 7, 3) := by decide +kernel
theorem dX7_tier_74 : decode cX7_tier 74 = .ok (.iconst 0, 1) := by decide +kernel
theorem dX7_tier_75 : decode cX7_tier 75 = .ok (.goto 5, 3) := by decide +kernel
theorem dX7_tier_78 : decode cX7_tier 78 = .ok (.bipush (-2), 2) := by decide +kernel
theorem dX7_tier_80 : decode cX7_tier 80 = .ok (.ireturn, 1) := by decide +kernel
theorem dX7_tiers_0 : decode cX7_tiers 0 = .ok (.aload_n 0, 1) := by decide +kernel
theorem dX7_tiers_1 : decode cX7_tiers 1 = .ok (.iload_n 1, 1) := by decide +kernel
theorem dX7_tiers_2 : decode cX7_tiers 2 = .ok (.iload_n 2, 1) := by decide +kernel
theorem dX7_tiers_3 : decode cX7_tiers 3 = .ok (.invokevirtual 139, 3) := by decide +kernel
theorem dX7_tiers_6 : decode cX7_tiers 6 = .ok (.astore 4, 2) := by decide +kernel
theorem dX7_tiers_8 : decode cX7_tiers 8 = .ok (.aload 4, 2) := by decide +kernel
theorem dX7_tiers_10 : decode cX7_tiers 10 = .ok (.ifnull 13, 3) := by decide +kernel
theorem dX7_tiers_13 : decode cX7_tiers 13 = .ok (.iload_n 3, 1) := by decide +kernel
theorem dX7_tiers_14 : decode cX7_tiers 14 = .ok (.iconst 1, 1) := by decide +kernel
theorem dX7_tiers_15 : decode cX7_tiers 15 = .ok (.if_icmp .lt 8, 3) := by decide +kernel
theorem dX7_tiers_18 : decode cX7_tiers 18 = .ok (.iload_n 3, 1) := by decide +kernel
theorem dX7_tiers_19 : decode cX7_tiers 19 = .ok (.iconst 5, 1) := by decide +kernel
theorem dX7_tiers_20 : decode cX7_tiers 20 = .ok (.if_icmp .le 6, 3) := by decide +kernel
theorem dX7_tiers_23 : decode cX7_tiers 23 = .ok (.bipush (-2), 2) := by decide +kernel
