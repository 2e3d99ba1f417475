theorem dX0_init_0 : decode cX0_init 0 = .ok (.aload_n 0, 1) := by decide +kernel
theorem dX0_init_1 : decode cX0_init 1 = .ok (.invokespecial 3, 3) := by decide +kernel
theorem dX0_init_4 : decode cX0_init 4 = .ok (.aload_n 0, 1) := by decide +kernel
theorem dX0_init_5 : decode cX0_init 5 = .ok (.iconst 4, 1) := by decide +kernel
theorem dX0_init_6 : decode cX0_init 6 = .ok (.bipush 100, 2) := by decide +kernel
theorem dX0_init_8 : decode cX0_init 8 = .ok (.multianewarray 9 2, 4) := by decide +kernel
theorem dX0_init_12 : decode cX0_init 12 = .ok (.putfield 11, 3) := by decide +kernel
theorem dX0_init_15 : decode cX0_init 15 = .ok (.aload_n 0, 1) := by decide +kernel
theorem dX0_init_16 : decode cX0_init 16 = .ok (.iconst 4, 1) := by decide +kernel
theorem dX0_init_17 : decode cX0_init 17 = .ok (.newarray .int, 2) := by decide +kernel
theorem dX0_init_19 : decode cX0_init 19 = .ok (.putfield 16, 3) := by decide +kernel
theorem dX0_init_22 : decode cX0_init 22 = .ok (.aload_n 0, 1) := by decide +kernel
theorem dX0_init_23 : decode cX0_init 23 = .ok (.iconst 4, 1) := by decide +kernel
theorem dX0_init_24 : decode cX0_init 24 = .ok (.newarray .int, 2) := by decide +kernel
theorem dX0_init_26 : decode cX0_init 26 = .ok (.putfield 20, 3) := by decide +kernel
theorem dX0_init_29 : decode cX0_init 29 = .ok (.aload_n 0, 1) := by decide +kernel
theorem dX0_init_30 : decode cX0_init 30 = .ok (.iload_n 1, 1) := by decide +kernel
theorem dX0_init_31 : decode cX0_init 31 = .ok (.putfield 23, 3) := by decide +kernel
theorem dX0_init_34 : decode cX0_init 34 = .ok (.aload_n 0, 1) := by decide +kernel
theorem dX0_init_35 : decode cX0_init 35 = .ok (.aload_n 2, 1) := by decide +kernel
theorem dX0_init_36 : decode cX0_init 36 = .ok (.putfield 27, 3) := by decide +kernel
theorem dX0_init_39 : decode cX0_init 39 = .ok (.aload_n 0, 1) := by decide +kernel
theorem dX0_init_40 : decode cX0_init 40 = .ok (.aload_n 3, 1) := by decide +kernel
theorem dX0_init_41 : decode cX0_init 41 = .ok (.putfield 31, 3) := by decide +kernel
theorem dX0_init_44 : decode cX0_init 44 = .ok (.iconst 0, 1) := by decide +kernel
theorem dX0_init_45 : decode cX0_init 45 = .ok (.istore 4, 2) := by decide +kernel
theorem dX0_init_47 : decode cX0_init 47 = .ok (.iload 4, 2) := by decide +kernel
theorem dX0_init_49 : decode cX0_init 49 = .ok (.iconst 4, 1) := by decide +kernel
theorem dX0_init_50 : decode cX0_init 50 = .ok (.if_icmp .ge 17, 3) := by decide +kernel
theorem dX0_init_53 : decode cX0_init 53 = .ok (.aload_n 0, 1) := by decide +kernel
theorem dX0_init_54 : decode cX0_init 54 = .ok (.getfield 20, 3) := by decide +kernel
theorem dX0_init_57 : decode cX0_init 57 = .ok (.iload 4, 2) := by decide +kernel
theorem dX0_init_59 : decode cX0_init 59 = .ok (.iconst (-1), 1) := by decide +kernel
theorem dX0_init_60 : decode cX0_init 60 = .ok (.iastore, 1) := by decide +kernel
theorem dX0_init_61 : decode cX0_init 61 = .ok (.iinc 4 1, 3) := by decide +kernel
theorem dX0_init_64 : decode cX0_init 64 = .ok (.goto (-17), 3) := by decide +kernel
theorem dX0_init_67 : decode cX0_init 67 = .ok (.return_, 1) := by decide +kernel
theorem dX0_addUsed_0 : decode cX0_addUsed 0 = .ok (.aload_n 0, 1) := by decide +kernel
theorem dX0_addUsed_1 : decode cX0_addUsed 1 = .ok (.astore 4, 2) := by decide +kernel
theorem dX0_addUsed_3 : decode cX0_addUsed 3 = .ok (.aload 4, 2) := by decide +kernel
theorem dX0_addUsed_5 : decode cX0_addUsed 5 = .ok (.ifnull 27, 3) := by decide +kernel
theorem dX0_addUsed_8 : decode cX0_addUsed 8 = .ok (.aload 4, 2) := by decide +kernel
theorem dX0_addUsed_10 : decode cX0_addUsed 10 = .ok (.getfield 11, 3) := by decide +kernel
theorem dX0_addUsed_13 : decode cX0_addUsed 13 = .ok (.iload_n 1, 1) := by decide +kernel
theorem dX0_addUsed_14 : decode cX0_addUsed 14 = .ok (.aaload, 1) := by decide +kernel
theorem dX0_addUsed_15 : decode cX0_addUsed 15 = .ok (.iload_n 2, 1) := by decide +kernel
theorem dX0_addUsed_16 : decode cX0_addUsed 16 = .ok (.dup2, 1) := by decide +kernel
theorem dX0_addUsed_17 : decode cX0_addUsed 17 = .ok (.laload, 1) := by decide +kernel
theorem dX0_addUsed_18 : decode cX0_addUsed 18 = .ok (.iload_n 3, 1) := by decide +kernel
theorem dX0_addUsed_19 : decode cX0_addUsed 19 = .ok (.i2l, 1) := by decide +kernel
theorem dX0_addUsed_20 : decode cX0_addUsed 20 = .ok (.ladd, 1) := by decide +kernel
theorem dX0_addUsed_21 : decode cX0_addUsed 21 = .ok (.lastore, 1) := by decide +kernel
theorem dX0_addUsed_22 : decode cX0_addUsed 22 = .ok (.aload 4, 2) := by decide +kernel
theorem dX0_addUsed_24 : decode cX0_addUsed 24 = .ok (.getfield 31, 3) := by decide +kernel
theorem dX0_addUsed_27 : decode cX0_addUsed 27 = .ok (.astore 4, 2) := by decide +kernel
theorem dX0_addUsed_29 : decode cX0_addUsed 29 = .ok (.goto (-26), 3) := by decide +kernel
theorem dX0_addUsed_32 : decode cX0_addUsed 32 = .ok (.return_, 1) := by decide +kernel
theorem dX0_addHeld_0 : decode cX0_addHeld 0 = .ok (.aload_n 0, 1) := by decide +kernel
theorem dX0_addHeld_1 : decode cX0_addHeld 1 = .ok (.astore_n 3, 1) := by decide +kernel
theorem dX0_addHeld_2 : decode cX0_addHeld 2 = .ok (.aload_n 3, 1) := by decide +kernel
theorem dX0_addHeld_3 : decode cX0_addHeld 3 = .ok (.ifnull 21, 3) := by decide +kernel
theorem dX0_addHeld_6 : decode cX0_addHeld 6 = .ok (.aload_n 3, 1) := by decide +kernel
theorem dX0_addHeld_7 : decode cX0_addHeld 7 = .ok (.getfield 16, 3) := by decide +kernel
theorem dX0_addHeld_10 : decode cX0_addHeld 10 = .ok (.iload_n 1, 1) := by decide +kernel
theorem dX0_addHeld_11 : decode cX0_addHeld 11 = .ok (.dup2, 1) := by decide +kernel
theorem dX0_addHeld_12 : decode cX0_addHeld 12 = .ok (.iaload, 1) := by decide +kernel
theorem dX0_addHeld_13 : decode cX0_addHeld 13 = .ok (.iload_n 2, 1) := by decide +kernel
theorem dX0_addHeld_14 : decode cX0_addHeld 14 = .ok (.iadd, 1) := by decide +kernel
theorem dX0_addHeld_15 : decode cX0_addHeld 15 = .ok (.iastore, 1) := by decide +kernel
theorem dX0_addHeld_16 : decode cX0_addHeld 16 = .ok (.aload_n 3, 1) := by decide +kernel
theorem dX0_addHeld_17 : decode cX0_addHeld 17 = .ok (.getfield 31, 3) := by decide +kernel
theorem dX0_addHeld_20 : decode cX0_addHeld 20 = .ok (.astore_n 3, 1) := by decide +kernel
theorem dX0_addHeld_21 : decode cX0_addHeld 21 = .ok (.goto (-19), 3) := by decide +kernel
theorem dX0_addHeld_24 : decode cX0_addHeld 24 = .ok (.return_, 1) := by decide +kernel
theorem dX0_freeUnits_0 : decode cX0_freeUnits 0 = .ok (.ldc2_w 35, 3) := by decide +kernel
theorem dX0_freeUnits_3 : decode cX0_freeUnits 3 = .ok (.lstore_n 3, 1) := by decide +kernel
theorem dX0_freeUnits_4 : decode cX0_freeUnits 4 = .ok (.aload_n 0, 1) := by decide +kernel
theorem dX0_freeUnits_5 : decode cX0_freeUnits 5 = .ok (.astore 5, 2) := by decide +kernel
theorem dX0_freeUnits_7 : decode cX0_freeUnits 7 = .ok (.aload 5, 2) := by decide +kernel
theorem dX0_freeUnits_9 : decode cX0_freeUnits 9 = .ok (.ifnull 56, 3) := by decide +kernel
theorem dX0_freeUnits_12 : decode cX0_freeUnits 12 = .ok (.aload 5, 2) := by decide +kernel
theorem dX0_freeUnits_14 : decode cX0_freeUnits 14 = .ok (.getfield 20, 3) := by decide +kernel
theorem dX0_freeUnits_17 : decode cX0_freeUnits 17 = .ok (.iload_n 1, 1) := by decide +kernel
theorem dX0_freeUnits_18 : decode cX0_freeUnits 18 = .ok (.iaload, 1) := by decide +kernel
theorem dX0_freeUnits_19 : decode cX0_freeUnits 19 = .ok (.iconst (-1), 1) := by decide +kernel
theorem dX0_freeUnits_20 : decode cX0_freeUnits 20 = .ok (.if_icmp .eq 35, 3) := by decide +kernel
theorem dX0_freeUnits_23 : decode cX0_freeUnits 23 = .ok (.lload_n 3, 1) := by decide +kernel
theorem dX0_freeUnits_24 : decode cX0_freeUnits 24 = .ok (.aload 5, 2) := by decide +kernel
theorem dX0_freeUnits_26 : decode cX0_freeUnits 26 = .ok (.getfield 20, 3) := by decide +kernel
theorem dX0_freeUnits_29 : decode cX0_freeUnits 29 = .ok (.iload_n 1, 1) := by decide +kernel
theorem dX0_freeUnits_30 : decode cX0_freeUnits 30 = .ok (.iaload, 1) := by decide +kernel
theorem dX0_freeUnits_31 : decode cX0_freeUnits 31 = .ok (.i2l, 1) := by decide +kernel
theorem dX0_freeUnits_32 : decode cX0_freeUnits 32 = .ok (.aload 5, 2) := by decide +kernel
theorem dX0_freeUnits_34 : decode cX0_freeUnits 34 = .ok (.getfield 11, 3) := by decide +kernel
theorem dX0_freeUnits_37 : decode cX0_freeUnits 37 = .ok (.iload_n 1, 1) := by decide +kernel
theorem dX0_freeUnits_38 : decode cX0_freeUnits 38 = .ok (.aaload, 1) := by decide +kernel
theorem dX0_freeUnits_39 : decode cX0_freeUnits 39 = .ok (.iload_n 2, 1) := by decide +kernel
theorem dX0_freeUnits_40 : decode cX0_freeUnits 40 = .ok (.laload, 1) := by decide +kernel
theorem dX0_freeUnits_41 : decode cX0_freeUnits 41 = .ok (.lsub, 1) := by decide +kernel
theorem dX0_freeUnits_42 : decode cX0_freeUnits 42 = .ok (.aload 5, 2) := by decide +kernel
theorem dX0_freeUnits_44 : decode cX0_freeUnits 44 = .ok (.getfield 16, 3) := by decide +kernel
theorem dX0_freeUnits_47 : decode cX0_freeUnits 47 = .ok (.iload_n 1, 1) := by decide +kernel
theorem dX0_freeUnits_48 : decode cX0_freeUnits 48 = .ok (.iaload, 1) := by decide +kernel
theorem dX0_freeUnits_49 : decode cX0_freeUnits 49 = .ok (.i2l, 1) := by decide +kernel
theorem dX0_freeUnits_50 : decode cX0_freeUnits 50 = .ok (.lsub, 1) := by decide +kernel
theorem dX0_freeUnits_51 : decode cX0_freeUnits 51 = .ok (.invokestatic 37, 3) := by decide +kernel
theorem dX0_freeUnits_54 : decode cX0_freeUnits 54 = .ok (.lstore_n 3, 1) := by decide +kernel
theorem dX0_freeUnits_55 : decode cX0_freeUnits 55 = .ok (.aload 5, 2) := by decide +kernel
theorem dX0_freeUnits_57 : decode cX0_freeUnits 57 = .ok (.getfield 31, 3) := by decide +kernel
theorem dX0_freeUnits_60 : decode cX0_freeUnits 60 = .ok (.astore 5, 2) := by decide +kernel
theorem dX0_freeUnits_62 : decode cX0_freeUnits 62 = .ok (.goto (-55), 3) := by decide +kernel
theorem dX0_freeUnits_65 : decode cX0_freeUnits 65 = .ok (.lload_n 3, 1) := by decide +kernel
theorem dX0_freeUnits_66 : decode cX0_freeUnits 66 = .ok (.lconst 0, 1) := by decide +kernel
theorem dX0_freeUnits_67 : decode cX0_freeUnits 67 = .ok (.invokestatic 43, 3) := by decide +kernel
theorem dX0_freeUnits_70 : decode cX0_freeUnits 70 = .ok (.l2i, 1) := by decide +kernel
theorem dX0_freeUnits_71 : decode cX0_freeUnits 71 = .ok (.ireturn, 1) := by decide +kernel
theorem dX1_init_0 : decode cX1_init 0 = .ok (.aload_n 0, 1) := by decide +kernel
theorem dX1_init_1 : decode cX1_init 1 = .ok (.invokespecial 3, 3) := by decide +kernel
theorem dX1_init_4 : decode cX1_init 4 = .ok (.aload_n 0, 1) := by decide +kernel
theorem dX1_init_5 : decode cX1_init 5 = .ok (.bipush 40, 2) := by decide +kernel
theorem dX1_init_7 : decode cX1_init 7 = .ok (.newarray .long, 2) := by decide +kernel
theorem dX1_init_9 : decode cX1_init 9 = .ok (.putfield 9, 3) := by decide +kernel
theorem dX1_init_12 : decode cX1_init 12 = .ok (.aload_n 0, 1) := by decide +kernel
theorem dX1_init_13 : decode cX1_init 13 = .ok (.bipush 40, 2) := by decide +kernel
theorem dX1_init_15 : decode cX1_init 15 = .ok (.newarray .int, 2) := by decide +kernel
theorem dX1_init_17 : decode cX1_init 17 = .ok (.putfield 15, 3) := by decide +kernel
theorem dX1_init_20 : decode cX1_init 20 = .ok (.return_, 1) := by decide +kernel
theorem dX1_give_0 : decode cX1_give 0 = .ok (.aload_n 0, 1) := by decide +kernel
theorem dX1_give_1 : decode cX1_give 1 = .ok (.getfield 19, 3) := by decide +kernel
theorem dX1_give_4 : decode cX1_give 4 = .ok (.bipush 40, 2) := by decide +kernel
theorem dX1_give_6 : decode cX1_give 6 = .ok (.if_icmp .ge 12, 3) := by decide +kernel
theorem dX1_give_9 : decode cX1_give 9 = .ok (.aload_n 0, 1) := by decide +kernel
theorem dX1_give_10 : decode cX1_give 10 = .ok (.invokevirtual 23, 3) := by decide +kernel
theorem dX1_give_13 : decode cX1_give 13 = .ok (.bipush 10, 2) := by decide +kernel
theorem dX1_give_15 : decode cX1_give 15 = .ok (.if_icmp .lt 6, 3) := by decide +kernel
theorem dX1_give_18 : decode cX1_give 18 = .ok (.bipush (-3), 2) := by decide +kernel
theorem dX1_give_20 : decode cX1_give 20 = .ok (.ireturn, 1) := by decide +kernel
theorem dX1_give_21 : decode cX1_give 21 = .ok (.aload_n 0, 1) := by decide +kernel
theorem dX1_give_22 : decode cX1_give 22 = .ok (.getfield 9, 3) := by decide +kernel
theorem dX1_give_25 : decode cX1_give 25 = .ok (.aload_n 0, 1) := by decide +kernel
theorem dX1_give_26 : decode cX1_give 26 = .ok (.getfield 19, 3) := by decide +kernel
theorem dX1_give_29 : decode cX1_give 29 = .ok (.lload_n 1, 1) := by decide +kernel
theorem dX1_give_30 : decode cX1_give 30 = .ok (.lastore, 1) := by decide +kernel
theorem dX1_give_31 : decode cX1_give 31 = .ok (.aload_n 0, 1) := by decide +kernel
theorem dX1_give_32 : decode cX1_give 32 = .ok (.getfield 15, 3) := by decide +kernel
theorem dX1_give_35 : decode cX1_give 35 = .ok (.aload_n 0, 1) := by decide +kernel
theorem dX1_give_36 : decode cX1_give 36 = .ok (.getfield 19, 3) := by decide +kernel
theorem dX1_give_39 : decode cX1_give 39 = .ok (.iload_n 3, 1) := by decide +kernel
theorem dX1_give_40 : decode cX1_give 40 = .ok (.iastore, 1) := by decide +kernel
theorem dX1_give_41 : decode cX1_give 41 = .ok (.aload_n 0, 1) := by decide +kernel
theorem dX1_give_42 : decode cX1_give 42 = .ok (.dup, 1) := by decide +kernel
theorem dX1_give_43 : decode cX1_give 43 = .ok (.getfield 19, 3) := by decide +kernel
theorem dX1_give_46 : decode cX1_give 46 = .ok (.iconst 1, 1) := by decide +kernel
theorem dX1_give_47 : decode cX1_give 47 = .ok (.iadd, 1) := by decide +kernel
theorem dX1_give_48 : decode cX1_give 48 = .ok (.putfield 19, 3) := by decide +kernel
theorem dX1_give_51 : decode cX1_give 51 = .ok (.aload_n 0, 1) := by decide +kernel
theorem dX1_give_52 : decode cX1_give 52 = .ok (.getfield 19, 3) := by decide +kernel
theorem dX1_give_55 : decode cX1_give 55 = .ok (.iconst 1, 1) := by decide +kernel
theorem dX1_give_56 : decode cX1_give 56 = .ok (.isub, 1) := by decide +kernel
theorem dX1_give_57 : decode cX1_give 57 = .ok (.ireturn, 1) := by decide +kernel
theorem dX1_countLasting_0 : decode cX1_countLasting 0 = .ok (.iconst 0, 1) := by decide +kernel
theorem dX1_countLasting_1 : decode cX1_countLasting 1 = .ok (.istore_n 1, 1) := by decide +kernel
theorem dX1_countLasting_2 : decode cX1_countLasting 2 = .ok (.iconst 0, 1) := by decide +kernel
theorem dX1_countLasting_3 : decode cX1_countLasting 3 = .ok (.istore_n 2, 1) := by decide +kernel
theorem dX1_countLasting_4 : decode cX1_countLasting 4 = .ok (.iload_n 2, 1) := by decide +kernel
theorem dX1_countLasting_5 : decode cX1_countLasting 5 = .ok (.aload_n 0, 1) := by decide +kernel
theorem dX1_countLasting_6 : decode cX1_countLasting 6 = .ok (.getfield 19, 3) := by decide +kernel
theorem dX1_countLasting_9 : decode cX1_countLasting 9 = .ok (.if_icmp .ge 23, 3) := by decide +kernel
theorem dX1_countLasting_12 : decode cX1_countLasting 12 = .ok (.aload_n 0, 1) := by decide +kernel
theorem dX1_countLasting_13 : decode cX1_countLasting 13 = .ok (.getfield 9, 3) := by decide +kernel
theorem dX1_countLasting_16 : decode cX1_countLasting 16 = .ok (.iload_n 2, 1) := by decide +kernel
theorem dX1_countLasting_17 : decode cX1_countLasting 17 = .ok (.laload, 1) := by decide +kernel
theorem dX1_countLasting_18 : decode cX1_countLasting 18 = .ok (.lconst 0, 1) := by decide +kernel
theorem dX1_countLasting_19 : decode cX1_countLasting 19 = .ok (.lcmp, 1) := by decide +kernel
theorem dX1_countLasting_20 : decode cX1_countLasting 20 = .ok (.ifCond .le 6, 3) := by decide +kernel
theorem dX1_countLasting_23 : decode cX1_countLasting 23 = .ok (.iinc 1 1, 3) := by decide +kernel
theorem dX1_countLasting_26 : decode cX1_countLasting 26 = .ok (.iinc 2 1, 3) := by decide +kernel
theorem dX1_countLasting_29 : decode cX1_countLasting 29 = .ok (.goto (-25), 3) := by decide +kernel
theorem dX1_countLasting_32 : decode cX1_countLasting 32 = .ok (.iload_n 1, 1) := by decide +kernel
theorem dX1_countLasting_33 : decode cX1_countLasting 33 = .ok (.ireturn, 1) := by decide +kernel
theorem dX1_payFor_0 : decode cX1_payFor 0 = .ok (.iconst 0, 1) := by decide +kernel
theorem dX1_payFor_1 : decode cX1_payFor 1 = .ok (.istore_n 2, 1) := by decide +kernel
theorem dX1_payFor_2 : decode cX1_payFor 2 = .ok (.iload_n 2, 1) := by decide +kernel
theorem dX1_payFor_3 : decode cX1_payFor 3 = .ok (.bipush 10, 2) := by decide +kernel
theorem dX1_payFor_5 : decode cX1_payFor 5 = .ok (.if_icmp .ge 63, 3) := by decide +kernel
theorem dX1_payFor_8 : decode cX1_payFor 8 = .ok (.aload_n 1, 1) := by decide +kernel
theorem dX1_payFor_9 : decode cX1_payFor 9 = .ok (.getfield 27, 3) := by decide +kernel
theorem dX1_payFor_12 : decode cX1_payFor 12 = .ok (.lconst 0, 1) := by decide +kernel
theorem dX1_payFor_13 : decode cX1_payFor 13 = .ok (.lcmp, 1) := by decide +kernel
theorem dX1_payFor_14 : decode cX1_payFor 14 = .ok (.ifCond .le 54, 3) := by decide +kernel
theorem dX1_payFor_17 : decode cX1_payFor 17 = .ok (.aload_n 0, 1) := by decide +kernel
theorem dX1_payFor_18 : decode cX1_payFor 18 = .ok (.invokevirtual 33, 3) := by decide +kernel
theorem dX1_payFor_21 : decode cX1_payFor 21 = .ok (.istore_n 3, 1) := by decide +kernel
theorem dX1_payFor_22 : decode cX1_payFor 22 = .ok (.iload_n 3, 1) := by decide +kernel
theorem dX1_payFor_23 : decode cX1_payFor 23 = .ok (.iconst (-1), 1) := by decide +kernel
theorem dX1_payFor_24 : decode cX1_payFor 24 = .ok (.if_icmp .ne 4, 3) := by decide +kernel
theorem dX1_payFor_27 : decode cX1_payFor 27 = .ok (.return_, 1) := by decide +kernel
theorem dX1_payFor_28 : decode cX1_payFor 28 = .ok (.aload_n 0, 1) := by decide +kernel
theorem dX1_payFor_29 : decode cX1_payFor 29 = .ok (.getfield 9, 3) := by decide +kernel
theorem dX1_payFor_32 : decode cX1_payFor 32 = .ok (.iload_n 3, 1) := by decide +kernel
theorem dX1_payFor_33 : decode cX1_payFor 33 = .ok (.laload, 1) := by decide +kernel
theorem dX1_payFor_34 : decode cX1_payFor 34 = .ok (.aload_n 1, 1) := by decide +kernel
theorem dX1_payFor_35 : decode cX1_payFor 35 = .ok (.getfield 27, 3) := by decide +kernel
theorem dX1_payFor_38 : decode cX1_payFor 38 = .ok (.invokestatic 36, 3) := by decide +kernel
theorem dX1_payFor_41 : decode cX1_payFor 41 = .ok (.lstore 4, 2) := by decide +kernel
theorem dX1_payFor_43 : decode cX1_payFor 43 = .ok (.aload_n 0, 1) := by decide +kernel
theorem dX1_payFor_44 : decode cX1_payFor 44 = .ok (.getfield 9, 3) := by decide +kernel
theorem dX1_payFor_47 : decode cX1_payFor 47 = .ok (.iload_n 3, 1) := by decide +kernel
theorem dX1_payFor_48 : decode cX1_payFor 48 = .ok (.dup2, 1) := by decide +kernel
theorem dX1_payFor_49 : decode cX1_payFor 49 = .ok (.laload, 1) := by decide +kernel
theorem dX1_payFor_50 : decode cX1_payFor 50 = .ok (.lload 4, 2) := by decide +kernel
theorem dX1_payFor_52 : decode cX1_payFor 52 = .ok (.lsub, 1) := by decide +kernel
theorem dX1_payFor_53 : decode cX1_payFor 53 = .ok (.lastore, 1) := by decide +kernel
theorem dX1_payFor_54 : decode cX1_payFor 54 = .ok (.aload_n 1, 1) := by decide +kernel
theorem dX1_payFor_55 : decode cX1_payFor 55 = .ok (.iconst 5, 1) := by decide +kernel
theorem dX1_payFor_56 : decode cX1_payFor 56 = .ok (.lload 4, 2) := by decide +kernel
theorem dX1_payFor_58 : decode cX1_payFor 58 = .ok (.lneg, 1) := by decide +kernel
theorem dX1_payFor_59 : decode cX1_payFor 59 = .ok (.invokevirtual 42, 3) := by decide +kernel
theorem dX1_payFor_62 : decode cX1_payFor 62 = .ok (.iinc 2 1, 3) := by decide +kernel
theorem dX1_payFor_65 : decode cX1_payFor 65 = .ok (.goto (-63), 3) := by decide +kernel
theorem dX1_payFor_68 : decode cX1_payFor 68 = .ok (.return_, 1) := by decide +kernel
theorem dX1_nextToUse_0 : decode cX1_nextToUse 0 = .ok (.iconst (-1), 1) := by decide +kernel
theorem dX1_nextToUse_1 : decode cX1_nextToUse 1 = .ok (.istore_n 1, 1) := by decide +kernel
theorem dX1_nextToUse_2 : decode cX1_nextToUse 2 = .ok (.iconst 0, 1) := by decide +kernel
theorem dX1_nextToUse_3 : decode cX1_nextToUse 3 = .ok (.istore_n 2, 1) := by decide +kernel
theorem dX1_nextToUse_4 : decode cX1_nextToUse 4 = .ok (.iload_n 2, 1) := by decide +kernel
theorem dX1_nextToUse_5 : decode cX1_nextToUse 5 = .ok (.aload_n 0, 1) := by decide +kernel
theorem dX1_nextToUse_6 : decode cX1_nextToUse 6 = .ok (.getfield 19, 3) := by decide +kernel
theorem dX1_nextToUse_9 : decode cX1_nextToUse 9 = .ok (.if_icmp .ge 42, 3) := by decide +kernel
theorem dX1_nextToUse_12 : decode cX1_nextToUse 12 = .ok (.aload_n 0, 1) := by decide +kernel
theorem dX1_nextToUse_13 : decode cX1_nextToUse 13 = .ok (.getfield 9, 3) := by decide +kernel
theorem dX1_nextToUse_16 : decode cX1_nextToUse 16 = .ok (.iload_n 2, 1) := by decide +kernel
theorem dX1_nextToUse_17 : decode cX1_nextToUse 17 = .ok (.laload, 1) := by decide +kernel
theorem dX1_nextToUse_18 : decode cX1_nextToUse 18 = .ok (.lconst 0, 1) := by decide +kernel
theorem dX1_nextToUse_19 : decode cX1_nextToUse 19 = .ok (.lcmp, 1) := by decide +kernel
theorem dX1_nextToUse_20 : decode cX1_nextToUse 20 = .ok (.ifCond .le 25, 3) := by decide +kernel
theorem dX1_nextToUse_23 : decode cX1_nextToUse 23 = .ok (.iload_n 1, 1) := by decide +kernel
theorem dX1_nextToUse_24 : decode cX1_nextToUse 24 = .ok (.iconst (-1), 1) := by decide +kernel
theorem dX1_nextToUse_25 : decode cX1_nextToUse 25 = .ok (.if_icmp .eq 18, 3) := by decide +kernel
theorem dX1_nextToUse_28 : decode cX1_nextToUse 28 = .ok (.aload_n 0, 1) := by decide +kernel
theorem dX1_nextToUse_29 : decode cX1_nextToUse 29 = .ok (.getfield 15, 3) := by decide +kernel
theorem dX1_nextToUse_32 : decode cX1_nextToUse 32 = .ok (.iload_n 2, 1) := by decide +kernel
theorem dX1_nextToUse_33 : decode cX1_nextToUse 33 = .ok (.iaload, 1) := by decide +kernel
theorem dX1_nextToUse_34 : decode cX1_nextToUse 34 = .ok (.aload_n 0, 1) := by decide +kernel
theorem dX1_nextToUse_35 : decode cX1_nextToUse 35 = .ok (.getfield 15, 3) := by decide +kernel
theorem dX1_nextToUse_38 : decode cX1_nextToUse 38 = .ok (.iload_n 1, 1) := by decide +kernel
theorem dX1_nextToUse_39 : decode cX1_nextToUse 39 = .ok (.iaload, 1) := by decide +kernel
theorem dX1_nextToUse_40 : decode cX1_nextToUse 40 = .ok (.if_icmp .ge 5, 3) := by decide +kernel
theorem dX1_nextToUse_43 : decode cX1_nextToUse 43 = .ok (.iload_n 2, 1) := by decide +kernel
theorem dX1_nextToUse_44 : decode cX1_nextToUse 44 = .ok (.istore_n 1, 1) := by decide +kernel
theorem dX1_nextToUse_45 : decode cX1_nextToUse 45 = .ok (.iinc 2 1, 3) := by decide +kernel
theorem dX1_nextToUse_48 : decode cX1_nextToUse 48 = .ok (.goto (-44), 3) := by decide +kernel
theorem dX1_nextToUse_51 : decode cX1_nextToUse 51 = .ok (.iload_n 1, 1) := by decide +kernel
theorem dX1_nextToUse_52 : decode cX1_nextToUse 52 = .ok (.ireturn, 1) := by decide +kernel
theorem dX1_endIn_0 : decode cX1_endIn 0 = .ok (.iconst 0, 1) := by decide +kernel
theorem dX1_endIn_1 : decode cX1_endIn 1 = .ok (.istore_n 2, 1) := by decide +kernel
theorem dX1_endIn_2 : decode cX1_endIn 2 = .ok (.iload_n 2, 1) := by decide +kernel
theorem dX1_endIn_3 : decode cX1_endIn 3 = .ok (.aload_n 0, 1) := by decide +kernel
theorem dX1_endIn_4 : decode cX1_endIn 4 = .ok (.getfield 19, 3) := by decide +kernel
theorem dX1_endIn_7 : decode cX1_endIn 7 = .ok (.if_icmp .ge 26, 3) := by decide +kernel
theorem dX1_endIn_10 : decode cX1_endIn 10 = .ok (.aload_n 0, 1) := by decide +kernel
theorem dX1_endIn_11 : decode cX1_endIn 11 = .ok (.getfield 15, 3) := by decide +kernel
theorem dX1_endIn_14 : decode cX1_endIn 14 = .ok (.iload_n 2, 1) := by decide +kernel
theorem dX1_endIn_15 : decode cX1_endIn 15 = .ok (.iaload, 1) := by decide +kernel
theorem dX1_endIn_16 : decode cX1_endIn 16 = .ok (.iload_n 1, 1) := by decide +kernel
theorem dX1_endIn_17 : decode cX1_endIn 17 = .ok (.if_icmp .gt 10, 3) := by decide +kernel
theorem dX1_endIn_20 : decode cX1_endIn 20 = .ok (.aload_n 0, 1) := by decide +kernel
theorem dX1_endIn_21 : decode cX1_endIn 21 = .ok (.getfield 9, 3) := by decide +kernel
theorem dX1_endIn_24 : decode cX1_endIn 24 = .ok (.iload_n 2, 1) := by decide +kernel
theorem dX1_endIn_25 : decode cX1_endIn 25 = .ok (.lconst 0, 1) := by decide +kernel
theorem dX1_endIn_26 : decode cX1_endIn 26 = .ok (.lastore, 1) := by decide +kernel
theorem dX1_endIn_27 : decode cX1_endIn 27 = .ok (.iinc 2 1, 3) := by decide +kernel
theorem dX1_endIn_30 : decode cX1_endIn 30 = .ok (.goto (-28), 3) := by decide +kernel
theorem dX1_endIn_33 : decode cX1_endIn 33 = .ok (.return_, 1) := by decide +kernel
theorem dX2_init_0 : decode cX2_init 0 = .ok (.aload_n 0, 1) := by decide +kernel
theorem dX2_init_1 : decode cX2_init 1 = .ok (.invokespecial 1, 3) := by decide +kernel
theorem dX2_init_4 : decode cX2_init 4 = .ok (.aload_n 0, 1) := by decide +kernel
theorem dX2_init_5 : decode cX2_init 5 = .ok (.iconst 1, 1) := by decide +kernel
theorem dX2_init_6 : decode cX2_init 6 = .ok (.putfield 7, 3) := by decide +kernel
theorem dX2_init_9 : decode cX2_init 9 = .ok (.aload_n 0, 1) := by decide +kernel
theorem dX2_init_10 : decode cX2_init 10 = .ok (.aload_n 1, 1) := by decide +kernel
theorem dX2_init_11 : decode cX2_init 11 = .ok (.putfield 13, 3) := by decide +kernel
theorem dX2_init_14 : decode cX2_init 14 = .ok (.aload_n 0, 1) := by decide +kernel
theorem dX2_init_15 : decode cX2_init 15 = .ok (.iload_n 2, 1) := by decide +kernel
theorem dX2_init_16 : decode cX2_init 16 = .ok (.putfield 17, 3) := by decide +kernel
theorem dX2_init_19 : decode cX2_init 19 = .ok (.aload_n 0, 1) := by decide +kernel
theorem dX2_init_20 : decode cX2_init 20 = .ok (.iload_n 3, 1) := by decide +kernel
theorem dX2_init_21 : decode cX2_init 21 = .ok (.putfield 21, 3) := by decide +kernel
theorem dX2_init_24 : decode cX2_init 24 = .ok (.aload_n 0, 1) := by decide +kernel
theorem dX2_init_25 : decode cX2_init 25 = .ok (.iload 4, 2) := by decide +kernel
theorem dX2_init_27 : decode cX2_init 27 = .ok (.putfield 24, 3) := by decide +kernel
theorem dX2_init_30 : decode cX2_init 30 = .ok (.return_, 1) := by decide +kernel
theorem dX3_init_0 : decode cX3_init 0 = .ok (.aload_n 0, 1) := by decide +kernel
theorem dX3_init_1 : decode cX3_init 1 = .ok (.invokespecial 3, 3) := by decide +kernel
theorem dX3_init_4 : decode cX3_init 4 = .ok (.aload_n 0, 1) := by decide +kernel
theorem dX3_init_5 : decode cX3_init 5 = .ok (.bipush 21, 2) := by decide +kernel
theorem dX3_init_7 : decode cX3_init 7 = .ok (.newarray .int, 2) := by decide +kernel
theorem dX3_init_9 : decode cX3_init 9 = .ok (.putfield 9, 3) := by decide +kernel
theorem dX3_init_12 : decode cX3_init 12 = .ok (.aload_n 0, 1) := by decide +kernel
theorem dX3_init_13 : decode cX3_init 13 = .ok (.bipush 21, 2) := by decide +kernel
theorem dX3_init_15 : decode cX3_init 15 = .ok (.newarray .int, 2) := by decide +kernel
theorem dX3_init_17 : decode cX3_init 17 = .ok (.putfield 15, 3) := by decide +kernel
theorem dX3_init_20 : decode cX3_init 20 = .ok (.aload_n 0, 1) := by decide +kernel
theorem dX3_init_21 : decode cX3_init 21 = .ok (.bipush 21, 2) := by decide +kernel
theorem dX3_init_23 : decode cX3_init 23 = .ok (.newarray .long, 2) := by decide +kernel
theorem dX3_init_25 : decode cX3_init 25 = .ok (.putfield 18, 3) := by decide +kernel
theorem dX3_init_28 : decode cX3_init 28 = .ok (.aload_n 0, 1) := by decide +kernel
theorem dX3_init_29 : decode cX3_init 29 = .ok (.bipush 21, 2) := by decide +kernel
theorem dX3_init_31 : decode cX3_init 31 = .ok (.newarray .long, 2) := by decide +kernel
theorem dX3_init_33 : decode cX3_init 33 = .ok (.putfield 22, 3) := by decide +kernel
theorem dX3_init_36 : decode cX3_init 36 = .ok (.aload_n 0, 1) := by decide +kernel
theorem dX3_init_37 : decode cX3_init 37 = .ok (.iload_n 1, 1) := by decide +kernel
theorem dX3_init_38 : decode cX3_init 38 = .ok (.putfield 25, 3) := by decide +kernel
theorem dX3_init_41 : decode cX3_init 41 = .ok (.aload_n 0, 1) := by decide +kernel
theorem dX3_init_42 : decode cX3_init 42 = .ok (.iload_n 2, 1) := by decide +kernel
theorem dX3_init_43 : decode cX3_init 43 = .ok (.putfield 29, 3) := by decide +kernel
theorem dX3_init_46 : decode cX3_init 46 = .ok (.return_, 1) := by decide +kernel
theorem dX3_add_0 : decode cX3_add 0 = .ok (.aload_n 0, 1) := by decide +kernel
theorem dX3_add_1 : decode cX3_add 1 = .ok (.getfield 32, 3) := by decide +kernel
theorem dX3_add_4 : decode cX3_add 4 = .ok (.bipush 21, 2) := by decide +kernel
theorem dX3_add_6 : decode cX3_add 6 = .ok (.if_icmp .lt 4, 3) := by decide +kernel
theorem dX3_add_9 : decode cX3_add 9 = .ok (.return_, 1) := by decide +kernel
theorem dX3_add_10 : decode cX3_add 10 = .ok (.aload_n 0, 1) := by decide +kernel
theorem dX3_add_11 : decode cX3_add 11 = .ok (.getfield 9, 3) := by decide +kernel
theorem dX3_add_14 : decode cX3_add 14 = .ok (.aload_n 0, 1) := by decide +kernel
theorem dX3_add_15 : decode cX3_add 15 = .ok (.getfield 32, 3) := by decide +kernel
theorem dX3_add_18 : decode cX3_add 18 = .ok (.iload_n 1, 1) := by decide +kernel
theorem dX3_add_19 : decode cX3_add 19 = .ok (.iastore, 1) := by decide +kernel
theorem dX3_add_20 : decode cX3_add 20 = .ok (.aload_n 0, 1) := by decide +kernel
theorem dX3_add_21 : decode cX3_add 21 = .ok (.getfield 15, 3) := by decide +kernel
theorem dX3_add_24 : decode cX3_add 24 = .ok (.aload_n 0, 1) := by decide +kernel
theorem dX3_add_25 : decode cX3_add 25 = .ok (.getfield 32, 3) := by decide +kernel
theorem dX3_add_28 : decode cX3_add 28 = .ok (.iload_n 2, 1) := by decide +kernel
theorem dX3_add_29 : decode cX3_add 29 = .ok (.iastore, 1) := by decide +kernel
theorem dX3_add_30 : decode cX3_add 30 = .ok (.aload_n 0, 1) := by decide +kernel
theorem dX3_add_31 : decode cX3_add 31 = .ok (.getfield 18, 3) := by decide +kernel
theorem dX3_add_34 : decode cX3_add 34 = .ok (.aload_n 0, 1) := by decide +kernel
theorem dX3_add_35 : decode cX3_add 35 = .ok (.getfield 32, 3) := by decide +kernel
theorem dX3_add_38 : decode cX3_add 38 = .ok (.lload_n 3, 1) := by decide +kernel
theorem dX3_add_39 : decode cX3_add 39 = .ok (.lastore, 1) := by decide +kernel
theorem dX3_add_40 : decode cX3_add 40 = .ok (.aload_n 0, 1) := by decide +kernel
theorem dX3_add_41 : decode cX3_add 41 = .ok (.getfield 22, 3) := by decide +kernel
theorem dX3_add_44 : decode cX3_add 44 = .ok (.aload_n 0, 1) := by decide +kernel
theorem dX3_add_45 : decode cX3_add 45 = .ok (.getfield 32, 3) := by decide +kernel
theorem dX3_add_48 : decode cX3_add 48 = .ok (.lload 5, 2) := by decide +kernel
theorem dX3_add_50 : decode cX3_add 50 = .ok (.lastore, 1) := by decide +kernel
theorem dX3_add_51 : decode cX3_add 51 = .ok (.aload_n 0, 1) := by decide +kernel
theorem dX3_add_52 : decode cX3_add 52 = .ok (.dup, 1) := by decide +kernel
theorem dX3_add_53 : decode cX3_add 53 = .ok (.getfield 32, 3) := by decide +kernel
theorem dX3_add_56 : decode cX3_add 56 = .ok (.iconst 1, 1) := by decide +kernel
theorem dX3_add_57 : decode cX3_add 57 = .ok (.iadd, 1) := by decide +kernel
theorem dX3_add_58 : decode cX3_add 58 = .ok (.putfield 32, 3) := by decide +kernel
theorem dX3_add_61 : decode cX3_add 61 = .ok (.aload_n 0, 1) := by decide +kernel
theorem dX3_add_62 : decode cX3_add 62 = .ok (.dup, 1) := by decide +kernel
theorem dX3_add_63 : decode cX3_add 63 = .ok (.getfield 35, 3) := by decide +kernel
theorem dX3_add_66 : decode cX3_add 66 = .ok (.lload 5, 2) := by decide +kernel
theorem dX3_add_68 : decode cX3_add 68 = .ok (.ladd, 1) := by decide +kernel
theorem dX3_add_69 : decode cX3_add 69 = .ok (.putfield 35, 3) := by decide +kernel
theorem dX3_add_72 : decode cX3_add 72 = .ok (.return_, 1) := by decide +kernel
theorem dX3_addSome_0 : decode cX3_addSome 0 = .ok (.lload_n 2, 1) := by decide +kernel
theorem dX3_addSome_1 : decode cX3_addSome 1 = .ok (.lconst 0, 1) := by decide +kernel
theorem dX3_addSome_2 : decode cX3_addSome 2 = .ok (.lcmp, 1) := by decide +kernel
theorem dX3_addSome_3 : decode cX3_addSome 3 = .ok (.ifCond .eq 11, 3) := by decide +kernel
theorem dX3_addSome_6 : decode cX3_addSome 6 = .ok (.aload_n 0, 1) := by decide +kernel
theorem dX3_addSome_7 : decode cX3_addSome 7 = .ok (.iload_n 1, 1) := by decide +kernel
theorem dX3_addSome_8 : decode cX3_addSome 8 = .ok (.iconst (-1), 1) := by decide +kernel
theorem dX3_addSome_9 : decode cX3_addSome 9 = .ok (.lconst 0, 1) := by decide +kernel
theorem dX3_addSome_10 : decode cX3_addSome 10 = .ok (.lload_n 2, 1) := by decide +kernel
theorem dX3_addSome_11 : decode cX3_addSome 11 = .ok (.invokevirtual 39, 3) := by decide +kernel
theorem dX3_addSome_14 : decode cX3_addSome 14 = .ok (.return_, 1) := by decide +kernel
theorem dX3_partOfSum_0 : decode cX3_partOfSum 0 = .ok (.aload_n 0, 1) := by decide +kernel
theorem dX3_partOfSum_1 : decode cX3_partOfSum 1 = .ok (.getfield 35, 3) := by decide +kernel
theorem dX3_partOfSum_4 : decode cX3_partOfSum 4 = .ok (.ldc2_w 43, 3) := by decide +kernel
theorem dX3_partOfSum_7 : decode cX3_partOfSum 7 = .ok (.invokestatic 45, 3) := by decide +kernel
theorem dX3_partOfSum_10 : decode cX3_partOfSum 10 = .ok (.iload_n 1, 1) := by decide +kernel
theorem dX3_partOfSum_11 : decode cX3_partOfSum 11 = .ok (.i2l, 1) := by decide +kernel
theorem dX3_partOfSum_12 : decode cX3_partOfSum 12 = .ok (.lmul, 1) := by decide +kernel
theorem dX3_partOfSum_13 : decode cX3_partOfSum 13 = .ok (.lstore_n 2, 1) := by decide +kernel
theorem dX3_partOfSum_14 : decode cX3_partOfSum 14 = .ok (.aload_n 0, 1) := by decide +kernel
theorem dX3_partOfSum_15 : decode cX3_partOfSum 15 = .ok (.getfield 35, 3) := by decide +kernel
theorem dX3_partOfSum_18 : decode cX3_partOfSum 18 = .ok (.ldc2_w 43, 3) := by decide +kernel
theorem dX3_partOfSum_21 : decode cX3_partOfSum 21 = .ok (.invokestatic 51, 3) := by decide +kernel
theorem dX3_partOfSum_24 : decode cX3_partOfSum 24 = .ok (.iload_n 1, 1) := by decide +kernel
theorem dX3_partOfSum_25 : decode cX3_partOfSum 25 = .ok (.i2l, 1) := by decide +kernel
theorem dX3_partOfSum_26 : decode cX3_partOfSum 26 = .ok (.lmul, 1) := by decide +kernel
theorem dX3_partOfSum_27 : decode cX3_partOfSum 27 = .ok (.lload_n 2, 1) := by decide +kernel
theorem dX3_partOfSum_28 : decode cX3_partOfSum 28 = .ok (.ldc2_w 43, 3) := by decide +kernel
theorem dX3_partOfSum_31 : decode cX3_partOfSum 31 = .ok (.ldiv, 1) := by decide +kernel
theorem dX3_partOfSum_32 : decode cX3_partOfSum 32 = .ok (.ladd, 1) := by decide +kernel
theorem dX3_partOfSum_33 : decode cX3_partOfSum 33 = .ok (.lstore 4, 2) := by decide +kernel
theorem dX3_partOfSum_35 : decode cX3_partOfSum 35 = .ok (.ldc2_w 54, 3) := by decide +kernel
theorem dX3_partOfSum_38 : decode cX3_partOfSum 38 = .ok (.lload_n 2, 1) := by decide +kernel
theorem dX3_partOfSum_39 : decode cX3_partOfSum 39 = .ok (.ldc2_w 43, 3) := by decide +kernel
theorem dX3_partOfSum_42 : decode cX3_partOfSum 42 = .ok (.lrem, 1) := by decide +kernel
theorem dX3_partOfSum_43 : decode cX3_partOfSum 43 = .ok (.lmul, 1) := by decide +kernel
theorem dX3_partOfSum_44 : decode cX3_partOfSum 44 = .ok (.lstore 6, 2) := by decide +kernel
theorem dX3_partOfSum_46 : decode cX3_partOfSum 46 = .ok (.lload 4, 2) := by decide +kernel
theorem dX3_partOfSum_48 : decode cX3_partOfSum 48 = .ok (.lconst 1, 1) := by decide +kernel
theorem dX3_partOfSum_49 : decode cX3_partOfSum 49 = .ok (.land, 1) := by decide +kernel
theorem dX3_partOfSum_50 : decode cX3_partOfSum 50 = .ok (.lconst 1, 1) := by decide +kernel
theorem dX3_partOfSum_51 : decode cX3_partOfSum 51 = .ok (.lcmp, 1) := by decide +kernel
theorem dX3_partOfSum_52 : decode cX3_partOfSum 52 = .ok (.ifCond .ne 7, 3) := by decide +kernel
theorem dX3_partOfSum_55 : decode cX3_partOfSum 55 = .ok (.iconst 1, 1) := by decide +kernel
theorem dX3_partOfSum_56 : decode cX3_partOfSum 56 = .ok (.goto 4, 3) := by decide +kernel
theorem dX3_partOfSum_59 : decode cX3_partOfSum 59 = .ok (.iconst 0, 1) := by decide +kernel
theorem dX3_partOfSum_60 : decode cX3_partOfSum 60 = .ok (.istore 8, 2) := by decide +kernel
theorem dX3_partOfSum_62 : decode cX3_partOfSum 62 = .ok (.lload 6, 2) := by decide +kernel
theorem dX3_partOfSum_64 : decode cX3_partOfSum 64 = .ok (.ldc2_w 43, 3) := by decide +kernel
theorem dX3_partOfSum_67 : decode cX3_partOfSum 67 = .ok (.lcmp, 1) := by decide +kernel
theorem dX3_partOfSum_68 : decode cX3_partOfSum 68 = .ok (.ifCond .gt 17, 3) := by decide +kernel
theorem dX3_partOfSum_71 : decode cX3_partOfSum 71 = .ok (.lload 6, 2) := by decide +kernel
theorem dX3_partOfSum_73 : decode cX3_partOfSum 73 = .ok (.ldc2_w 43, 3) := by decide +kernel
theorem dX3_partOfSum_76 : decode cX3_partOfSum 76 = .ok (.lcmp, 1) := by decide +kernel
theorem dX3_partOfSum_77 : decode cX3_partOfSum 77 = .ok (.ifCond .ne 14, 3) := by decide +kernel
theorem dX3_partOfSum_80 : decode cX3_partOfSum 80 = .ok (.iload 8, 2) := by decide +kernel
theorem dX3_partOfSum_82 : decode cX3_partOfSum 82 = .ok (.ifCond .eq 9, 3) := by decide +kernel
theorem dX3_partOfSum_85 : decode cX3_partOfSum 85 = .ok (.lload 4, 2) := by decide +kernel
theorem dX3_partOfSum_87 : decode cX3_partOfSum 87 = .ok (.lconst 1, 1) := by decide +kernel
theorem dX3_partOfSum_88 : decode cX3_partOfSum 88 = .ok (.ladd, 1) := by decide +kernel
theorem dX3_partOfSum_89 : decode cX3_partOfSum 89 = .ok (.lstore 4, 2) := by decide +kernel
theorem dX3_partOfSum_91 : decode cX3_partOfSum 91 = .ok (.lload 4, 2) := by decide +kernel
theorem dX3_partOfSum_93 : decode cX3_partOfSum 93 = .ok (.lreturn, 1) := by decide +kernel
theorem dX4_init_0 : decode cX4_init 0 = .ok (.aload_n 0, 1) := by decide +kernel
theorem dX4_init_1 : decode cX4_init 1 = .ok (.invokespecial 3, 3) := by decide +kernel
theorem dX4_init_4 : decode cX4_init 4 = .ok (.aload_n 0, 1) := by decide +kernel
theorem dX4_init_5 : decode cX4_init 5 = .ok (.sipush 300, 3) := by decide +kernel
theorem dX4_init_8 : decode cX4_init 8 = .ok (.newarray .long, 2) := by decide +kernel
theorem dX4_init_10 : decode cX4_init 10 = .ok (.putfield 9, 3) := by decide +kernel
theorem dX4_init_13 : decode cX4_init 13 = .ok (.aload_n 0, 1) := by decide +kernel
theorem dX4_init_14 : decode cX4_init 14 = .ok (.sipush 300, 3) := by decide +kernel
theorem dX4_init_17 : decode cX4_init 17 = .ok (.newarray .int, 2) := by decide +kernel
theorem dX4_init_19 : decode cX4_init 19 = .ok (.putfield 15, 3) := by decide +kernel
theorem dX4_init_22 : decode cX4_init 22 = .ok (.aload_n 0, 1) := by decide +kernel
theorem dX4_init_23 : decode cX4_init 23 = .ok (.sipush 300, 3) := by decide +kernel
theorem dX4_init_26 : decode cX4_init 26 = .ok (.newarray .int, 2) := by decide +kernel
theorem dX4_init_28 : decode cX4_init 28 = .ok (.putfield 19, 3) := by decide +kernel
theorem dX4_init_31 : decode cX4_init 31 = .ok (.return_, 1) := by decide +kernel
theorem dX4_knows_0 : decode cX4_knows 0 = .ok (.iconst 0, 1) := by decide +kernel
theorem dX4_knows_1 : decode cX4_knows 1 = .ok (.istore 4, 2) := by decide +kernel
theorem dX4_knows_3 : decode cX4_knows 3 = .ok (.iload 4, 2) := by decide +kernel
theorem dX4_knows_5 : decode cX4_knows 5 = .ok (.aload_n 0, 1) := by decide +kernel
theorem dX4_knows_6 : decode cX4_knows 6 = .ok (.getfield 22, 3) := by decide +kernel
theorem dX4_knows_9 : decode cX4_knows 9 = .ok (.if_icmp .ge 34, 3) := by decide +kernel
theorem dX4_knows_12 : decode cX4_knows 12 = .ok (.aload_n 0, 1) := by decide +kernel
theorem dX4_knows_13 : decode cX4_knows 13 = .ok (.getfield 9, 3) := by decide +kernel
theorem dX4_knows_16 : decode cX4_knows 16 = .ok (.iload 4, 2) := by decide +kernel
theorem dX4_knows_18 : decode cX4_knows 18 = .ok (.laload, 1) := by decide +kernel
theorem dX4_knows_19 : decode cX4_knows 19 = .ok (.lload_n 2, 1) := by decide +kernel
theorem dX4_knows_20 : decode cX4_knows 20 = .ok (.lcmp, 1) := by decide +kernel
theorem dX4_knows_21 : decode cX4_knows 21 = .ok (.ifCond .ne 16, 3) := by decide +kernel
theorem dX4_knows_24 : decode cX4_knows 24 = .ok (.aload_n 0, 1) := by decide +kernel
theorem dX4_knows_25 : decode cX4_knows 25 = .ok (.getfield 15, 3) := by decide +kernel
theorem dX4_knows_28 : decode cX4_knows 28 = .ok (.iload 4, 2) := by decide +kernel
theorem dX4_knows_30 : decode cX4_knows 30 = .ok (.iaload, 1) := by decide +kernel
theorem dX4_knows_31 : decode cX4_knows 31 = .ok (.iload_n 1, 1) := by decide +kernel
theorem dX4_knows_32 : decode cX4_knows 32 = .ok (.if_icmp .ne 5, 3) := by decide +kernel
theorem dX4_knows_35 : decode cX4_knows 35 = .ok (.iconst 1, 1) := by decide +kernel
theorem dX4_knows_36 : decode cX4_knows 36 = .ok (.ireturn, 1) := by decide +kernel
theorem dX4_knows_37 : decode cX4_knows 37 = .ok (.iinc 4 1, 3) := by decide +kernel
theorem dX4_knows_40 : decode cX4_knows 40 = .ok (.goto (-37), 3) := by decide +kernel
theorem dX4_knows_43 : decode cX4_knows 43 = .ok (.iconst 0, 1) := by decide +kernel
theorem dX4_knows_44 : decode cX4_knows 44 = .ok (.ireturn, 1) := by decide +kernel
theorem dX4_learn_0 : decode cX4_learn 0 = .ok (.aload_n 0, 1) := by decide +kernel
theorem dX4_learn_1 : decode cX4_learn 1 = .ok (.getfield 22, 3) := by decide +kernel
theorem dX4_learn_4 : decode cX4_learn 4 = .ok (.sipush 300, 3) := by decide +kernel
theorem dX4_learn_7 : decode cX4_learn 7 = .ok (.if_icmp .lt 5, 3) := by decide +kernel
theorem dX4_learn_10 : decode cX4_learn 10 = .ok (.iconst 0, 1) := by decide +kernel
theorem dX4_learn_11 : decode cX4_learn 11 = .ok (.ireturn, 1) := by decide +kernel
theorem dX4_learn_12 : decode cX4_learn 12 = .ok (.aload_n 0, 1) := by decide +kernel
theorem dX4_learn_13 : decode cX4_learn 13 = .ok (.getfield 9, 3) := by decide +kernel
theorem dX4_learn_16 : decode cX4_learn 16 = .ok (.aload_n 0, 1) := by decide +kernel
theorem dX4_learn_17 : decode cX4_learn 17 = .ok (.getfield 22, 3) := by decide +kernel
theorem dX4_learn_20 : decode cX4_learn 20 = .ok (.lload_n 2, 1) := by decide +kernel
theorem dX4_learn_21 : decode cX4_learn 21 = .ok (.lastore, 1) := by decide +kernel
theorem dX4_learn_22 : decode cX4_learn 22 = .ok (.aload_n 0, 1) := by decide +kernel
theorem dX4_learn_23 : decode cX4_learn 23 = .ok (.getfield 15, 3) := by decide +kernel
theorem dX4_learn_26 : decode cX4_learn 26 = .ok (.aload_n 0, 1) := by decide +kernel
theorem dX4_learn_27 : decode cX4_learn 27 = .ok (.getfield 22, 3) := by decide +kernel
theorem dX4_learn_30 : decode cX4_learn 30 = .ok (.iload_n 1, 1) := by decide +kernel
theorem dX4_learn_31 : decode cX4_learn 31 = .ok (.iastore, 1) := by decide +kernel
theorem dX4_learn_32 : decode cX4_learn 32 = .ok (.aload_n 0, 1) := by decide +kernel
theorem dX4_learn_33 : decode cX4_learn 33 = .ok (.getfield 19, 3) := by decide +kernel
theorem dX4_learn_36 : decode cX4_learn 36 = .ok (.aload_n 0, 1) := by decide +kernel
theorem dX4_learn_37 : decode cX4_learn 37 = .ok (.getfield 22, 3) := by decide +kernel
theorem dX4_learn_40 : decode cX4_learn 40 = .ok (.iload 4, 2) := by decide +kernel
theorem dX4_learn_42 : decode cX4_learn 42 = .ok (.iastore, 1) := by decide +kernel
theorem dX4_learn_43 : decode cX4_learn 43 = .ok (.aload_n 0, 1) := by decide +kernel
theorem dX4_learn_44 : decode cX4_learn 44 = .ok (.dup, 1) := by decide +kernel
theorem dX4_learn_45 : decode cX4_learn 45 = .ok (.getfield 22, 3) := by decide +kernel
theorem dX4_learn_48 : decode cX4_learn 48 = .ok (.iconst 1, 1) := by decide +kernel
theorem dX4_learn_49 : decode cX4_learn 49 = .ok (.iadd, 1) := by decide +kernel
theorem dX4_learn_50 : decode cX4_learn 50 = .ok (.putfield 22, 3) := by decide +kernel
theorem dX4_learn_53 : decode cX4_learn 53 = .ok (.iconst 1, 1) := by decide +kernel
theorem dX4_learn_54 : decode cX4_learn 54 = .ok (.ireturn, 1) := by decide +kernel
theorem dX4_forgetOld_0 : decode cX4_forgetOld 0 = .ok (.iconst 0, 1) := by decide +kernel
theorem dX4_forgetOld_1 : decode cX4_forgetOld 1 = .ok (.istore_n 2, 1) := by decide +kernel
theorem dX4_forgetOld_2 : decode cX4_forgetOld 2 = .ok (.iconst 0, 1) := by decide +kernel
theorem dX4_forgetOld_3 : decode cX4_forgetOld 3 = .ok (.istore_n 3, 1) := by decide +kernel
theorem dX4_forgetOld_4 : decode cX4_forgetOld 4 = .ok (.iload_n 3, 1) := by decide +kernel
theorem dX4_forgetOld_5 : decode cX4_forgetOld 5 = .ok (.aload_n 0, 1) := by decide +kernel
theorem dX4_forgetOld_6 : decode cX4_forgetOld 6 = .ok (.getfield 22, 3) := by decide +kernel
theorem dX4_forgetOld_9 : decode cX4_forgetOld 9 = .ok (.if_icmp .ge 62, 3) := by decide +kernel
theorem dX4_forgetOld_12 : decode cX4_forgetOld 12 = .ok (.iload_n 1, 1) := by decide +kernel
theorem dX4_forgetOld_13 : decode cX4_forgetOld 13 = .ok (.aload_n 0, 1) := by decide +kernel
theorem dX4_forgetOld_14 : decode cX4_forgetOld 14 = .ok (.getfield 19, 3) := by decide +kernel
theorem dX4_forgetOld_17 : decode cX4_forgetOld 17 = .ok (.iload_n 3, 1) := by decide +kernel
theorem dX4_forgetOld_18 : decode cX4_forgetOld 18 = .ok (.iaload, 1) := by decide +kernel
theorem dX4_forgetOld_19 : decode cX4_forgetOld 19 = .ok (.isub, 1) := by decide +kernel
theorem dX4_forgetOld_20 : decode cX4_forgetOld 20 = .ok (.sipush 1000, 3) := by decide +kernel
theorem dX4_forgetOld_23 : decode cX4_forgetOld 23 = .ok (.if_icmp .ge 42, 3) := by decide +kernel
theorem dX4_forgetOld_26 : decode cX4_forgetOld 26 = .ok (.aload_n 0, 1) := by decide +kernel
theorem dX4_forgetOld_27 : decode cX4_forgetOld 27 = .ok (.getfield 9, 3) := by decide +kernel
theorem dX4_forgetOld_30 : decode cX4_forgetOld 30 = .ok (.iload_n 2, 1) := by decide +kernel
theorem dX4_forgetOld_31 : decode cX4_forgetOld 31 = .ok (.aload_n 0, 1) := by decide +kernel
theorem dX4_forgetOld_32 : decode cX4_forgetOld 32 = .ok (.getfield 9, 3) := by decide +kernel
theorem dX4_forgetOld_35 : decode cX4_forgetOld 35 = .ok (.iload_n 3, 1) := by decide +kernel
theorem dX4_forgetOld_36 : decode cX4_forgetOld 36 = .ok (.laload, 1) := by decide +kernel
theorem dX4_forgetOld_37 : decode cX4_forgetOld 37 = .ok (.lastore, 1) := by decide +kernel
theorem dX4_forgetOld_38 : decode cX4_forgetOld 38 = .ok (.aload_n 0, 1) := by decide +kernel
theorem dX4_forgetOld_39 : decode cX4_forgetOld 39 = .ok (.getfield 15, 3) := by decide +kernel
theorem dX4_forgetOld_42 : decode cX4_forgetOld 42 = .ok (.iload_n 2, 1) := by decide +kernel
theorem dX4_forgetOld_43 : decode cX4_forgetOld 43 = .ok (.aload_n 0, 1) := by decide +kernel
theorem dX4_forgetOld_44 : decode cX4_forgetOld 44 = .ok (.getfield 15, 3) := by decide +kernel
theorem dX4_forgetOld_47 : decode cX4_forgetOld 47 = .ok (.iload_n 3, 1) := by decide +kernel
theorem dX4_forgetOld_48 : decode cX4_forgetOld 48 = .ok (.iaload, 1) := by decide +kernel
theorem dX4_forgetOld_49 : decode cX4_forgetOld 49 = .ok (.iastore, 1) := by decide +kernel
theorem dX4_forgetOld_50 : decode cX4_forgetOld 50 = .ok (.aload_n 0, 1) := by decide +kernel
theorem dX4_forgetOld_51 : decode cX4_forgetOld 51 = .ok (.getfield 19, 3) := by decide +kernel
theorem dX4_forgetOld_54 : decode cX4_forgetOld 54 = .ok (.iload_n 2, 1) := by decide +kernel
theorem dX4_forgetOld_55 : decode cX4_forgetOld 55 = .ok (.aload_n 0, 1) := by decide +kernel
theorem dX4_forgetOld_56 : decode cX4_forgetOld 56 = .ok (.getfield 19, 3) := by decide +kernel
theorem dX4_forgetOld_59 : decode cX4_forgetOld 59 = .ok (.iload_n 3, 1) := by decide +kernel
theorem dX4_forgetOld_60 : decode cX4_forgetOld 60 = .ok (.iaload, 1) := by decide +kernel
theorem dX4_forgetOld_61 : decode cX4_forgetOld 61 = .ok (.iastore, 1) := by decide +kernel
theorem dX4_forgetOld_62 : decode cX4_forgetOld 62 = .ok (.iinc 2 1, 3) := by decide +kernel
theorem dX4_forgetOld_65 : decode cX4_forgetOld 65 = .ok (.iinc 3 1, 3) := by decide +kernel
theorem dX4_forgetOld_68 : decode cX4_forgetOld 68 = .ok (.goto (-64), 3) := by decide +kernel
theorem dX4_forgetOld_71 : decode cX4_forgetOld 71 = .ok (.aload_n 0, 1) := by decide +kernel
theorem dX4_forgetOld_72 : decode cX4_forgetOld 72 = .ok (.iload_n 2, 1) := by decide +kernel
theorem dX4_forgetOld_73 : decode cX4_forgetOld 73 = .ok (.putfield 22, 3) := by decide +kernel
theorem dX4_forgetOld_76 : decode cX4_forgetOld 76 = .ok (.return_, 1) := by decide +kernel
theorem dX5_init_0 : decode cX5_init 0 = .ok (.aload_n 0, 1) := by decide +kernel
theorem dX5_init_1 : decode cX5_init 1 = .ok (.invokespecial 3, 3) := by decide +kernel
theorem dX5_init_4 : decode cX5_init 4 = .ok (.aload_n 0, 1) := by decide +kernel
theorem dX5_init_5 : decode cX5_init 5 = .ok (.iconst 5, 1) := by decide +kernel
theorem dX5_init_6 : decode cX5_init 6 = .ok (.newarray .long, 2) := by decide +kernel
theorem dX5_init_8 : decode cX5_init 8 = .ok (.putfield 9, 3) := by decide +kernel
theorem dX5_init_11 : decode cX5_init 11 = .ok (.aload_n 0, 1) := by decide +kernel
theorem dX5_init_12 : decode cX5_init 12 = .ok (.iconst 5, 1) := by decide +kernel
theorem dX5_init_13 : decode cX5_init 13 = .ok (.newarray .int, 2) := by decide +kernel
theorem dX5_init_15 : decode cX5_init 15 = .ok (.putfield 15, 3) := by decide +kernel
theorem dX5_init_18 : decode cX5_init 18 = .ok (.aload_n 0, 1) := by decide +kernel
theorem dX5_init_19 : decode cX5_init 19 = .ok (.iconst 5, 1) := by decide +kernel
theorem dX5_init_20 : decode cX5_init 20 = .ok (.newarray .int, 2) := by decide +kernel
theorem dX5_init_22 : decode cX5_init 22 = .ok (.putfield 19, 3) := by decide +kernel
theorem dX5_init_25 : decode cX5_init 25 = .ok (.aload_n 0, 1) := by decide +kernel
theorem dX5_init_26 : decode cX5_init 26 = .ok (.iconst 1, 1) := by decide +kernel
theorem dX5_init_27 : decode cX5_init 27 = .ok (.putfield 22, 3) := by decide +kernel
theorem dX5_init_30 : decode cX5_init 30 = .ok (.aload_n 0, 1) := by decide +kernel
theorem dX5_init_31 : decode cX5_init 31 = .ok (.iconst 0, 1) := by decide +kernel
theorem dX5_init_32 : decode cX5_init 32 = .ok (.putfield 26, 3) := by decide +kernel
theorem dX5_init_35 : decode cX5_init 35 = .ok (.aload_n 0, 1) := by decide +kernel
theorem dX5_init_36 : decode cX5_init 36 = .ok (.iconst 1, 1) := by decide +kernel
theorem dX5_init_37 : decode cX5_init 37 = .ok (.putfield 29, 3) := by decide +kernel
theorem dX5_init_40 : decode cX5_init 40 = .ok (.aload_n 0, 1) := by decide +kernel
theorem dX5_init_41 : decode cX5_init 41 = .ok (.getfield 9, 3) := by decide +kernel
theorem dX5_init_44 : decode cX5_init 44 = .ok (.iconst 0, 1) := by decide +kernel
theorem dX5_init_45 : decode cX5_init 45 = .ok (.lconst 1, 1) := by decide +kernel
theorem dX5_init_46 : decode cX5_init 46 = .ok (.lastore, 1) := by decide +kernel
theorem dX5_init_47 : decode cX5_init 47 = .ok (.return_, 1) := by decide +kernel
theorem dX5_putTier_0 : decode cX5_putTier 0 = .ok (.iload_n 1, 1) := by decide +kernel
theorem dX5_putTier_1 : decode cX5_putTier 1 = .ok (.ifCond .lt 16, 3) := by decide +kernel
theorem dX5_putTier_4 : decode cX5_putTier 4 = .ok (.iload_n 1, 1) := by decide +kernel
theorem dX5_putTier_5 : decode cX5_putTier 5 = .ok (.aload_n 0, 1) := by decide +kernel
theorem dX5_putTier_6 : decode cX5_putTier 6 = .ok (.getfield 22, 3) := by decide +kernel
theorem dX5_putTier_9 : decode cX5_putTier 9 = .ok (.if_icmp .gt 8, 3) := by decide +kernel
theorem dX5_putTier_12 : decode cX5_putTier 12 = .ok (.iload_n 1, 1) := by decide +kernel
theorem dX5_putTier_13 : decode cX5_putTier 13 = .ok (.iconst 5, 1) := by decide +kernel
theorem dX5_putTier_14 : decode cX5_putTier 14 = .ok (.if_icmp .lt 5, 3) := by decide +kernel
theorem dX5_putTier_17 : decode cX5_putTier 17 = .ok (.iconst 0, 1) := by decide +kernel
theorem dX5_putTier_18 : decode cX5_putTier 18 = .ok (.ireturn, 1) := by decide +kernel
theorem dX5_putTier_19 : decode cX5_putTier 19 = .ok (.aload_n 0, 1) := by decide +kernel
theorem dX5_putTier_20 : decode cX5_putTier 20 = .ok (.getfield 22, 3) := by decide +kernel
theorem dX5_putTier_23 : decode cX5_putTier 23 = .ok (.iload_n 1, 1) := by decide +kernel
theorem dX5_putTier_24 : decode cX5_putTier 24 = .ok (.iconst 1, 1) := by decide +kernel
theorem dX5_putTier_25 : decode cX5_putTier 25 = .ok (.iadd, 1) := by decide +kernel
theorem dX5_putTier_26 : decode cX5_putTier 26 = .ok (.invokestatic 32, 3) := by decide +kernel
theorem dX5_putTier_29 : decode cX5_putTier 29 = .ok (.istore 6, 2) := by decide +kernel
theorem dX5_putTier_31 : decode cX5_putTier 31 = .ok (.aload_n 0, 1) := by decide +kernel
theorem dX5_putTier_32 : decode cX5_putTier 32 = .ok (.iload_n 1, 1) := by decide +kernel
theorem dX5_putTier_33 : decode cX5_putTier 33 = .ok (.lload_n 2, 1) := by decide +kernel
theorem dX5_putTier_34 : decode cX5_putTier 34 = .ok (.iload 6, 2) := by decide +kernel
theorem dX5_putTier_36 : decode cX5_putTier 36 = .ok (.invokevirtual 38, 3) := by decide +kernel
theorem dX5_putTier_39 : decode cX5_putTier 39 = .ok (.ifCond .ne 5, 3) := by decide +kernel
theorem dX5_putTier_42 : decode cX5_putTier 42 = .ok (.iconst 0, 1) := by decide +kernel
theorem dX5_putTier_43 : decode cX5_putTier 43 = .ok (.ireturn, 1) := by decide +kernel
theorem dX5_putTier_44 : decode cX5_putTier 44 = .ok (.aload_n 0, 1) := by decide +kernel
theorem dX5_putTier_45 : decode cX5_putTier 45 = .ok (.getfield 9, 3) := by decide +kernel
theorem dX5_putTier_48 : decode cX5_putTier 48 = .ok (.iload_n 1, 1) := by decide +kernel
theorem dX5_putTier_49 : decode cX5_putTier 49 = .ok (.lload_n 2, 1) := by decide +kernel
theorem dX5_putTier_50 : decode cX5_putTier 50 = .ok (.lastore, 1) := by decide +kernel
theorem dX5_putTier_51 : decode cX5_putTier 51 = .ok (.aload_n 0, 1) := by decide +kernel
theorem dX5_putTier_52 : decode cX5_putTier 52 = .ok (.getfield 15, 3) := by decide +kernel
theorem dX5_putTier_55 : decode cX5_putTier 55 = .ok (.iload_n 1, 1) := by decide +kernel
theorem dX5_putTier_56 : decode cX5_putTier 56 = .ok (.iload 4, 2) := by decide +kernel
theorem dX5_putTier_58 : decode cX5_putTier 58 = .ok (.iastore, 1) := by decide +kernel
theorem dX5_putTier_59 : decode cX5_putTier 59 = .ok (.aload_n 0, 1) := by decide +kernel
theorem dX5_putTier_60 : decode cX5_putTier 60 = .ok (.getfield 19, 3) := by decide +kernel
theorem dX5_putTier_63 : decode cX5_putTier 63 = .ok (.iload_n 1, 1) := by decide +kernel
theorem dX5_putTier_64 : decode cX5_putTier 64 = .ok (.iload 5, 2) := by decide +kernel
theorem dX5_putTier_66 : decode cX5_putTier 66 = .ok (.iastore, 1) := by decide +kernel
theorem dX5_putTier_67 : decode cX5_putTier 67 = .ok (.aload_n 0, 1) := by decide +kernel
theorem dX5_putTier_68 : decode cX5_putTier 68 = .ok (.iload 6, 2) := by decide +kernel
theorem dX5_putTier_70 : decode cX5_putTier 70 = .ok (.putfield 22, 3) := by decide +kernel
theorem dX5_putTier_73 : decode cX5_putTier 73 = .ok (.iconst 1, 1) := by decide +kernel
theorem dX5_putTier_74 : decode cX5_putTier 74 = .ok (.ireturn, 1) := by decide +kernel
theorem dX5_wouldRise_0 : decode cX5_wouldRise 0 = .ok (.lconst 0, 1) := by decide +kernel
theorem dX5_wouldRise_1 : decode cX5_wouldRise 1 = .ok (.lstore 5, 2) := by decide +kernel
theorem dX5_wouldRise_3 : decode cX5_wouldRise 3 = .ok (.iconst 0, 1) := by decide +kernel
theorem dX5_wouldRise_4 : decode cX5_wouldRise 4 = .ok (.istore 7, 2) := by decide +kernel
theorem dX5_wouldRise_6 : decode cX5_wouldRise 6 = .ok (.iload 7, 2) := by decide +kernel
theorem dX5_wouldRise_8 : decode cX5_wouldRise 8 = .ok (.iload 4, 2) := by decide +kernel
theorem dX5_wouldRise_10 : decode cX5_wouldRise 10 = .ok (.iconst 1, 1) := by decide +kernel
theorem dX5_wouldRise_11 : decode cX5_wouldRise 11 = .ok (.isub, 1) := by decide +kernel
theorem dX5_wouldRise_12 : decode cX5_wouldRise 12 = .ok (.if_icmp .ge 42, 3) := by decide +kernel
theorem dX5_wouldRise_15 : decode cX5_wouldRise 15 = .ok (.iload 7, 2) := by decide +kernel
theorem dX5_wouldRise_17 : decode cX5_wouldRise 17 = .ok (.iload_n 1, 1) := by decide +kernel
theorem dX5_wouldRise_18 : decode cX5_wouldRise 18 = .ok (.if_icmp .ne 7, 3) := by decide +kernel
theorem dX5_wouldRise_21 : decode cX5_wouldRise 21 = .ok (.lload_n 2, 1) := by decide +kernel
theorem dX5_wouldRise_22 : decode cX5_wouldRise 22 = .ok (.goto 10, 3) := by decide +kernel
theorem dX5_wouldRise_25 : decode cX5_wouldRise 25 = .ok (.aload_n 0, 1) := by decide +kernel
theorem dX5_wouldRise_26 : decode cX5_wouldRise 26 = .ok (.getfield 9, 3) := by decide +kernel
theorem dX5_wouldRise_29 : decode cX5_wouldRise 29 = .ok (.iload 7, 2) := by decide +kernel
theorem dX5_wouldRise_31 : decode cX5_wouldRise 31 = .ok (.laload, 1) := by decide +kernel
theorem dX5_wouldRise_32 : decode cX5_wouldRise 32 = .ok (.lstore 8, 2) := by decide +kernel
theorem dX5_wouldRise_34 : decode cX5_wouldRise 34 = .ok (.lload 8, 2) := by decide +kernel
theorem dX5_wouldRise_36 : decode cX5_wouldRise 36 = .ok (.lload 5, 2) := by decide +kernel
theorem dX5_wouldRise_38 : decode cX5_wouldRise 38 = .ok (.lcmp, 1) := by decide +kernel
theorem dX5_wouldRise_39 : decode cX5_wouldRise 39 = .ok (.ifCond .gt 5, 3) := by decide +kernel
theorem dX5_wouldRise_42 : decode cX5_wouldRise 42 = .ok (.iconst 0, 1) := by decide +kernel
theorem dX5_wouldRise_43 : decode cX5_wouldRise 43 = .ok (.ireturn, 1) := by decide +kernel
theorem dX5_wouldRise_44 : decode cX5_wouldRise 44 = .ok (.lload 8, 2) := by decide +kernel
theorem dX5_wouldRise_46 : decode cX5_wouldRise 46 = .ok (.lstore 5, 2) := by decide +kernel
theorem dX5_wouldRise_48 : decode cX5_wouldRise 48 = .ok (.iinc 7 1, 3) := by decide +kernel
theorem dX5_wouldRise_51 : decode cX5_wouldRise 51 = .ok (.goto (-45), 3) := by decide +kernel
theorem dX5_wouldRise_54 : decode cX5_wouldRise 54 = .ok (.iconst 1, 1) := by decide +kernel
theorem dX5_wouldRise_55 : decode cX5_wouldRise 55 = .ok (.ireturn, 1) := by decide +kernel
theorem dX5_costOf_0 : decode cX5_costOf 0 = .ok (.lload_n 1, 1) := by decide +kernel
theorem dX5_costOf_1 : decode cX5_costOf 1 = .ok (.lconst 0, 1) := by decide +kernel
theorem dX5_costOf_2 : decode cX5_costOf 2 = .ok (.lcmp, 1) := by decide +kernel
theorem dX5_costOf_3 : decode cX5_costOf 3 = .ok (.ifCond .gt 5, 3) := by decide +kernel
theorem dX5_costOf_6 : decode cX5_costOf 6 = .ok (.lconst 0, 1) := by decide +kernel
theorem dX5_costOf_7 : decode cX5_costOf 7 = .ok (.lreturn, 1) := by decide +kernel
theorem dX5_costOf_8 : decode cX5_costOf 8 = .ok (.aload_n 0, 1) := by decide +kernel
theorem dX5_costOf_9 : decode cX5_costOf 9 = .ok (.getfield 26, 3) := by decide +kernel
theorem dX5_costOf_12 : decode cX5_costOf 12 = .ok (.iconst 1, 1) := by decide +kernel
theorem dX5_costOf_13 : decode cX5_costOf 13 = .ok (.if_icmp .ne 11, 3) := by decide +kernel
theorem dX5_costOf_16 : decode cX5_costOf 16 = .ok (.aload_n 0, 1) := by decide +kernel
theorem dX5_costOf_17 : decode cX5_costOf 17 = .ok (.lload_n 1, 1) := by decide +kernel
theorem dX5_costOf_18 : decode cX5_costOf 18 = .ok (.invokevirtual 42, 3) := by decide +kernel
theorem dX5_costOf_21 : decode cX5_costOf 21 = .ok (.goto 8, 3) := by decide +kernel
theorem dX5_costOf_24 : decode cX5_costOf 24 = .ok (.aload_n 0, 1) := by decide +kernel
theorem dX5_costOf_25 : decode cX5_costOf 25 = .ok (.lload_n 1, 1) := by decide +kernel
theorem dX5_costOf_26 : decode cX5_costOf 26 = .ok (.invokevirtual 46, 3) := by decide +kernel
theorem dX5_costOf_29 : decode cX5_costOf 29 = .ok (.lreturn, 1) := by decide +kernel
theorem dX5_costAtLastTier_0 : decode cX5_costAtLastTier 0 = .ok (.iconst 0, 1) := by decide +kernel
theorem dX5_costAtLastTier_1 : decode cX5_costAtLastTier 1 = .ok (.istore_n 3, 1) := by decide +kernel
theorem dX5_costAtLastTier_2 : decode cX5_costAtLastTier 2 = .ok (.iload_n 3, 1) := by decide +kernel
theorem dX5_costAtLastTier_3 : decode cX5_costAtLastTier 3 = .ok (.aload_n 0, 1) := by decide +kernel
theorem dX5_costAtLastTier_4 : decode cX5_costAtLastTier 4 = .ok (.getfield 22, 3) := by decide +kernel
theorem dX5_costAtLastTier_7 : decode cX5_costAtLastTier 7 = .ok (.iconst 1, 1) := by decide +kernel
theorem dX5_costAtLastTier_8 : decode cX5_costAtLastTier 8 = .ok (.isub, 1) := by decide +kernel
theorem dX5_costAtLastTier_9 : decode cX5_costAtLastTier 9 = .ok (.if_icmp .ge 20, 3) := by decide +kernel
theorem dX5_costAtLastTier_12 : decode cX5_costAtLastTier 12 = .ok (.lload_n 1, 1) := by decide +kernel
theorem dX5_costAtLastTier_13 : decode cX5_costAtLastTier 13 = .ok (.aload_n 0, 1) := by decide +kernel
theorem dX5_costAtLastTier_14 : decode cX5_costAtLastTier 14 = .ok (.getfield 9, 3) := by decide +kernel
theorem dX5_costAtLastTier_17 : decode cX5_costAtLastTier 17 = .ok (.iload_n 3, 1) := by decide +kernel
theorem dX5_costAtLastTier_18 : decode cX5_costAtLastTier 18 = .ok (.laload, 1) := by decide +kernel
theorem dX5_costAtLastTier_19 : decode cX5_costAtLastTier 19 = .ok (.lcmp, 1) := by decide +kernel
theorem dX5_costAtLastTier_20 : decode cX5_costAtLastTier 20 = .ok (.ifCond .le 9, 3) := by decide +kernel
theorem dX5_costAtLastTier_23 : decode cX5_costAtLastTier 23 = .ok (.iinc 3 1, 3) := by decide +kernel
theorem dX5_costAtLastTier_26 : decode cX5_costAtLastTier 26 = .ok (.goto (-24), 3) := by decide +kernel
theorem dX5_costAtLastTier_29 : decode cX5_costAtLastTier 29 = .ok (.lload_n 1, 1) := by decide +kernel
theorem dX5_costAtLastTier_30 : decode cX5_costAtLastTier 30 = .ok (.aload_n 0, 1) := by decide +kernel
theorem dX5_costAtLastTier_31 : decode cX5_costAtLastTier 31 = .ok (.getfield 15, 3) := by decide +kernel
theorem dX5_costAtLastTier_34 : decode cX5_costAtLastTier 34 = .ok (.iload_n 3, 1) := by decide +kernel
theorem dX5_costAtLastTier_35 : decode cX5_costAtLastTier 35 = .ok (.iaload, 1) := by decide +kernel
theorem dX5_costAtLastTier_36 : decode cX5_costAtLastTier 36 = .ok (.i2l, 1) := by decide +kernel
theorem dX5_costAtLastTier_37 : decode cX5_costAtLastTier 37 = .ok (.lmul, 1) := by decide +kernel
theorem dX5_costAtLastTier_38 : decode cX5_costAtLastTier 38 = .ok (.aload_n 0, 1) := by decide +kernel
theorem dX5_costAtLastTier_39 : decode cX5_costAtLastTier 39 = .ok (.getfield 19, 3) := by decide +kernel
theorem dX5_costAtLastTier_42 : decode cX5_costAtLastTier 42 = .ok (.iload_n 3, 1) := by decide +kernel
theorem dX5_costAtLastTier_43 : decode cX5_costAtLastTier 43 = .ok (.iaload, 1) := by decide +kernel
theorem dX5_costAtLastTier_44 : decode cX5_costAtLastTier 44 = .ok (.i2l, 1) := by decide +kernel
theorem dX5_costAtLastTier_45 : decode cX5_costAtLastTier 45 = .ok (.ladd, 1) := by decide +kernel
theorem dX5_costAtLastTier_46 : decode cX5_costAtLastTier 46 = .ok (.lreturn, 1) := by decide +kernel
theorem dX5_costByTiers_0 : decode cX5_costByTiers 0 = .ok (.lconst 0, 1) := by decide +kernel
theorem dX5_costByTiers_1 : decode cX5_costByTiers 1 = .ok (.lstore_n 3, 1) := by decide +kernel
theorem dX5_costByTiers_2 : decode cX5_costByTiers 2 = .ok (.lconst 0, 1) := by decide +kernel
theorem dX5_costByTiers_3 : decode cX5_costByTiers 3 = .ok (.lstore 5, 2) := by decide +kernel
