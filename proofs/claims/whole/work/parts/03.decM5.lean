theorem dX8_quantity_21 : decode cX8_quantity 21 = .ok (.iload 6, 2) := by decide +kernel
theorem dX8_quantity_23 : decode cX8_quantity 23 = .ok (.iaload, 1) := by decide +kernel
theorem dX8_quantity_24 : decode cX8_quantity 24 = .ok (.iload_n 1, 1) := by decide +kernel
theorem dX8_quantity_25 : decode cX8_quantity 25 = .ok (.if_icmp .ne 18, 3) := by decide +kernel
theorem dX8_quantity_28 : decode cX8_quantity 28 = .ok (.aload_n 0, 1) := by decide +kernel
theorem dX8_quantity_29 : decode cX8_quantity 29 = .ok (.getfield 56, 3) := by decide +kernel
theorem dX8_quantity_32 : decode cX8_quantity 32 = .ok (.iload 6, 2) := by decide +kernel
theorem dX8_quantity_34 : decode cX8_quantity 34 = .ok (.iload_n 2, 1) := by decide +kernel
theorem dX8_quantity_35 : decode cX8_quantity 35 = .ok (.iload_n 3, 1) := by decide +kernel
theorem dX8_quantity_36 : decode cX8_quantity 36 = .ok (.invokestatic 59, 3) := by decide +kernel
theorem dX8_quantity_39 : decode cX8_quantity 39 = .ok (.laload, 1) := by decide +kernel
theorem dX8_quantity_40 : decode cX8_quantity 40 = .ok (.goto 4, 3) := by decide +kernel
theorem dX8_quantity_43 : decode cX8_quantity 43 = .ok (.lconst 0, 1) := by decide +kernel
theorem dX8_quantity_44 : decode cX8_quantity 44 = .ok (.ladd, 1) := by decide +kernel
theorem dX8_quantity_45 : decode cX8_quantity 45 = .ok (.lstore 4, 2) := by decide +kernel
theorem dX8_quantity_47 : decode cX8_quantity 47 = .ok (.iinc 6 1, 3) := by decide +kernel
theorem dX8_quantity_50 : decode cX8_quantity 50 = .ok (.goto (-44), 3) := by decide +kernel
theorem dX8_quantity_53 : decode cX8_quantity 53 = .ok (.lload 4, 2) := by decide +kernel
theorem dX8_quantity_55 : decode cX8_quantity 55 = .ok (.lreturn, 1) := by decide +kernel
theorem dX8_invoiceOf_0 : decode cX8_invoiceOf 0 = .ok (.iconst 0, 1) := by decide +kernel
theorem dX8_invoiceOf_1 : decode cX8_invoiceOf 1 = .ok (.istore_n 3, 1) := by decide +kernel
theorem dX8_invoiceOf_2 : decode cX8_invoiceOf 2 = .ok (.aload_n 0, 1) := by decide +kernel
theorem dX8_invoiceOf_3 : decode cX8_invoiceOf 3 = .ok (.getfield 161, 3) := by decide +kernel
theorem dX8_invoiceOf_6 : decode cX8_invoiceOf 6 = .ok (.iload_n 3, 1) := by decide +kernel
theorem dX8_invoiceOf_7 : decode cX8_invoiceOf 7 = .ok (.iaload, 1) := by decide +kernel
theorem dX8_invoiceOf_8 : decode cX8_invoiceOf 8 = .ok (.iload_n 1, 1) := by decide +kernel
theorem dX8_invoiceOf_9 : decode cX8_invoiceOf 9 = .ok (.if_icmp .ne 13, 3) := by decide +kernel
theorem dX8_invoiceOf_12 : decode cX8_invoiceOf 12 = .ok (.aload_n 0, 1) := by decide +kernel
theorem dX8_invoiceOf_13 : decode cX8_invoiceOf 13 = .ok (.getfield 164, 3) := by decide +kernel
theorem dX8_invoiceOf_16 : decode cX8_invoiceOf 16 = .ok (.iload_n 3, 1) := by decide +kernel
theorem dX8_invoiceOf_17 : decode cX8_invoiceOf 17 = .ok (.iaload, 1) := by decide +kernel
theorem dX8_invoiceOf_18 : decode cX8_invoiceOf 18 = .ok (.iload_n 2, 1) := by decide +kernel
theorem dX8_invoiceOf_19 : decode cX8_invoiceOf 19 = .ok (.if_icmp .eq 9, 3) := by decide +kernel
theorem dX8_invoiceOf_22 : decode cX8_invoiceOf 22 = .ok (.iinc 3 1, 3) := by decide +kernel
theorem dX8_invoiceOf_25 : decode cX8_invoiceOf 25 = .ok (.goto (-23), 3) := by decide +kernel
theorem dX8_invoiceOf_28 : decode cX8_invoiceOf 28 = .ok (.iload_n 3, 1) := by decide +kernel
theorem dX8_invoiceOf_29 : decode cX8_invoiceOf 29 = .ok (.ireturn, 1) := by decide +kernel
theorem dX8_adjust_0 : decode cX8_adjust 0 = .ok (.bipush 18, 2) := by decide +kernel
theorem dX8_adjust_2 : decode cX8_adjust 2 = .ok (.bipush 24, 2) := by decide +kernel
theorem dX8_adjust_4 : decode cX8_adjust 4 = .ok (.iconst 4, 1) := by decide +kernel
theorem dX8_adjust_5 : decode cX8_adjust 5 = .ok (.aload_n 0, 1) := by decide +kernel
theorem dX8_adjust_6 : decode cX8_adjust 6 = .ok (.iload_n 1, 1) := by decide +kernel
theorem dX8_adjust_7 : decode cX8_adjust 7 = .ok (.iload_n 3, 1) := by decide +kernel
theorem dX8_adjust_8 : decode cX8_adjust 8 = .ok (.invokevirtual 190, 3) := by decide +kernel
theorem dX8_adjust_11 : decode cX8_adjust 11 = .ok (.imul, 1) := by decide +kernel
theorem dX8_adjust_12 : decode cX8_adjust 12 = .ok (.iadd, 1) := by decide +kernel
theorem dX8_adjust_13 : decode cX8_adjust 13 = .ok (.iload_n 2, 1) := by decide +kernel
theorem dX8_adjust_14 : decode cX8_adjust 14 = .ok (.iadd, 1) := by decide +kernel
theorem dX8_adjust_15 : decode cX8_adjust 15 = .ok (.imul, 1) := by decide +kernel
theorem dX8_adjust_16 : decode cX8_adjust 16 = .ok (.istore 5, 2) := by decide +kernel
theorem dX8_adjust_18 : decode cX8_adjust 18 = .ok (.aload_n 0, 1) := by decide +kernel
theorem dX8_adjust_19 : decode cX8_adjust 19 = .ok (.iload_n 1, 1) := by decide +kernel
theorem dX8_adjust_20 : decode cX8_adjust 20 = .ok (.iload_n 2, 1) := by decide +kernel
theorem dX8_adjust_21 : decode cX8_adjust 21 = .ok (.iload_n 3, 1) := by decide +kernel
theorem dX8_adjust_22 : decode cX8_adjust 22 = .ok (.invokevirtual 193, 3) := by decide +kernel
theorem dX8_adjust_25 : decode cX8_adjust 25 = .ok (.lstore 6, 2) := by decide +kernel
theorem dX8_adjust_27 : decode cX8_adjust 27 = .ok (.iconst 4, 1) := by decide +kernel
theorem dX8_adjust_28 : decode cX8_adjust 28 = .ok (.iload_n 1, 1) := by decide +kernel
theorem dX8_adjust_29 : decode cX8_adjust 29 = .ok (.imul, 1) := by decide +kernel
theorem dX8_adjust_30 : decode cX8_adjust 30 = .ok (.iload_n 2, 1) := by decide +kernel
theorem dX8_adjust_31 : decode cX8_adjust 31 = .ok (.iadd, 1) := by decide +kernel
theorem dX8_adjust_32 : decode cX8_adjust 32 = .ok (.istore 8, 2) := by decide +kernel
theorem dX8_adjust_34 : decode cX8_adjust 34 = .ok (.aload_n 0, 1) := by decide +kernel
theorem dX8_adjust_35 : decode cX8_adjust 35 = .ok (.getfield 152, 3) := by decide +kernel
theorem dX8_adjust_38 : decode cX8_adjust 38 = .ok (.iload 8, 2) := by decide +kernel
theorem dX8_adjust_40 : decode cX8_adjust 40 = .ok (.dup2, 1) := by decide +kernel
theorem dX8_adjust_41 : decode cX8_adjust 41 = .ok (.laload, 1) := by decide +kernel
theorem dX8_adjust_42 : decode cX8_adjust 42 = .ok (.iload 4, 2) := by decide +kernel
theorem dX8_adjust_44 : decode cX8_adjust 44 = .ok (.i2l, 1) := by decide +kernel
theorem dX8_adjust_45 : decode cX8_adjust 45 = .ok (.ladd, 1) := by decide +kernel
theorem dX8_adjust_46 : decode cX8_adjust 46 = .ok (.lastore, 1) := by decide +kernel
theorem dX8_adjust_47 : decode cX8_adjust 47 = .ok (.aload_n 0, 1) := by decide +kernel
theorem dX8_adjust_48 : decode cX8_adjust 48 = .ok (.getfield 155, 3) := by decide +kernel
theorem dX8_adjust_51 : decode cX8_adjust 51 = .ok (.iload 8, 2) := by decide +kernel
theorem dX8_adjust_53 : decode cX8_adjust 53 = .ok (.dup2, 1) := by decide +kernel
theorem dX8_adjust_54 : decode cX8_adjust 54 = .ok (.laload, 1) := by decide +kernel
theorem dX8_adjust_55 : decode cX8_adjust 55 = .ok (.aload_n 0, 1) := by decide +kernel
theorem dX8_adjust_56 : decode cX8_adjust 56 = .ok (.iload 5, 2) := by decide +kernel
theorem dX8_adjust_58 : decode cX8_adjust 58 = .ok (.lload 6, 2) := by decide +kernel
theorem dX8_adjust_60 : decode cX8_adjust 60 = .ok (.iload 4, 2) := by decide +kernel
theorem dX8_adjust_62 : decode cX8_adjust 62 = .ok (.i2l, 1) := by decide +kernel
theorem dX8_adjust_63 : decode cX8_adjust 63 = .ok (.ladd, 1) := by decide +kernel
theorem dX8_adjust_64 : decode cX8_adjust 64 = .ok (.invokevirtual 179, 3) := by decide +kernel
theorem dX8_adjust_67 : decode cX8_adjust 67 = .ok (.aload_n 0, 1) := by decide +kernel
theorem dX8_adjust_68 : decode cX8_adjust 68 = .ok (.iload 5, 2) := by decide +kernel
theorem dX8_adjust_70 : decode cX8_adjust 70 = .ok (.lload 6, 2) := by decide +kernel
theorem dX8_adjust_72 : decode cX8_adjust 72 = .ok (.invokevirtual 179, 3) := by decide +kernel
theorem dX8_adjust_75 : decode cX8_adjust 75 = .ok (.lsub, 1) := by decide +kernel
theorem dX8_adjust_76 : decode cX8_adjust 76 = .ok (.ladd, 1) := by decide +kernel
theorem dX8_adjust_77 : decode cX8_adjust 77 = .ok (.lastore, 1) := by decide +kernel
theorem dX8_adjust_78 : decode cX8_adjust 78 = .ok (.aload_n 0, 1) := by decide +kernel
theorem dX8_adjust_79 : decode cX8_adjust 79 = .ok (.getfield 158, 3) := by decide +kernel
theorem dX8_adjust_82 : decode cX8_adjust 82 = .ok (.iload 8, 2) := by decide +kernel
theorem dX8_adjust_84 : decode cX8_adjust 84 = .ok (.iconst 1, 1) := by decide +kernel
theorem dX8_adjust_85 : decode cX8_adjust 85 = .ok (.bastore, 1) := by decide +kernel
theorem dX8_adjust_86 : decode cX8_adjust 86 = .ok (.return_, 1) := by decide +kernel
theorem dX8_part_0 : decode cX8_part 0 = .ok (.lload_n 0, 1) := by decide +kernel
theorem dX8_part_1 : decode cX8_part 1 = .ok (.ldc2_w 196, 3) := by decide +kernel
theorem dX8_part_4 : decode cX8_part 4 = .ok (.invokestatic 198, 3) := by decide +kernel
theorem dX8_part_7 : decode cX8_part 7 = .ok (.iload_n 2, 1) := by decide +kernel
theorem dX8_part_8 : decode cX8_part 8 = .ok (.i2l, 1) := by decide +kernel
theorem dX8_part_9 : decode cX8_part 9 = .ok (.lmul, 1) := by decide +kernel
theorem dX8_part_10 : decode cX8_part 10 = .ok (.lstore_n 3, 1) := by decide +kernel
theorem dX8_part_11 : decode cX8_part 11 = .ok (.lload_n 0, 1) := by decide +kernel
theorem dX8_part_12 : decode cX8_part 12 = .ok (.ldc2_w 196, 3) := by decide +kernel
theorem dX8_part_15 : decode cX8_part 15 = .ok (.invokestatic 201, 3) := by decide +kernel
theorem dX8_part_18 : decode cX8_part 18 = .ok (.iload_n 2, 1) := by decide +kernel
theorem dX8_part_19 : decode cX8_part 19 = .ok (.i2l, 1) := by decide +kernel
theorem dX8_part_20 : decode cX8_part 20 = .ok (.lmul, 1) := by decide +kernel
theorem dX8_part_21 : decode cX8_part 21 = .ok (.lstore 5, 2) := by decide +kernel
theorem dX8_part_23 : decode cX8_part 23 = .ok (.lload_n 3, 1) := by decide +kernel
theorem dX8_part_24 : decode cX8_part 24 = .ok (.lload 5, 2) := by decide +kernel
theorem dX8_part_26 : decode cX8_part 26 = .ok (.ldc2_w 196, 3) := by decide +kernel
theorem dX8_part_29 : decode cX8_part 29 = .ok (.ldiv, 1) := by decide +kernel
theorem dX8_part_30 : decode cX8_part 30 = .ok (.ladd, 1) := by decide +kernel
theorem dX8_part_31 : decode cX8_part 31 = .ok (.lstore_n 3, 1) := by decide +kernel
theorem dX8_part_32 : decode cX8_part 32 = .ok (.lload 5, 2) := by decide +kernel
theorem dX8_part_34 : decode cX8_part 34 = .ok (.ldc2_w 196, 3) := by decide +kernel
theorem dX8_part_37 : decode cX8_part 37 = .ok (.lrem, 1) := by decide +kernel
theorem dX8_part_38 : decode cX8_part 38 = .ok (.lstore 5, 2) := by decide +kernel
theorem dX8_part_40 : decode cX8_part 40 = .ok (.lload 5, 2) := by decide +kernel
theorem dX8_part_42 : decode cX8_part 42 = .ok (.ldc2_w 204, 3) := by decide +kernel
theorem dX8_part_45 : decode cX8_part 45 = .ok (.lcmp, 1) := by decide +kernel
theorem dX8_part_46 : decode cX8_part 46 = .ok (.ifCond .gt 20, 3) := by decide +kernel
theorem dX8_part_49 : decode cX8_part 49 = .ok (.lload 5, 2) := by decide +kernel
theorem dX8_part_51 : decode cX8_part 51 = .ok (.ldc2_w 204, 3) := by decide +kernel
theorem dX8_part_54 : decode cX8_part 54 = .ok (.lcmp, 1) := by decide +kernel
theorem dX8_part_55 : decode cX8_part 55 = .ok (.ifCond .ne 15, 3) := by decide +kernel
theorem dX8_part_58 : decode cX8_part 58 = .ok (.lload_n 3, 1) := by decide +kernel
theorem dX8_part_59 : decode cX8_part 59 = .ok (.lconst 1, 1) := by decide +kernel
theorem dX8_part_60 : decode cX8_part 60 = .ok (.land, 1) := by decide +kernel
theorem dX8_part_61 : decode cX8_part 61 = .ok (.lconst 0, 1) := by decide +kernel
theorem dX8_part_62 : decode cX8_part 62 = .ok (.lcmp, 1) := by decide +kernel
theorem dX8_part_63 : decode cX8_part 63 = .ok (.ifCond .eq 7, 3) := by decide +kernel
theorem dX8_part_66 : decode cX8_part 66 = .ok (.iconst 1, 1) := by decide +kernel
theorem dX8_part_67 : decode cX8_part 67 = .ok (.goto 4, 3) := by decide +kernel
theorem dX8_part_70 : decode cX8_part 70 = .ok (.iconst 0, 1) := by decide +kernel
theorem dX8_part_71 : decode cX8_part 71 = .ok (.istore 7, 2) := by decide +kernel
theorem dX8_part_73 : decode cX8_part 73 = .ok (.iload 7, 2) := by decide +kernel
theorem dX8_part_75 : decode cX8_part 75 = .ok (.ifCond .eq 9, 3) := by decide +kernel
theorem dX8_part_78 : decode cX8_part 78 = .ok (.lload_n 3, 1) := by decide +kernel
theorem dX8_part_79 : decode cX8_part 79 = .ok (.lconst 1, 1) := by decide +kernel
theorem dX8_part_80 : decode cX8_part 80 = .ok (.ladd, 1) := by decide +kernel
theorem dX8_part_81 : decode cX8_part 81 = .ok (.goto 4, 3) := by decide +kernel
theorem dX8_part_84 : decode cX8_part 84 = .ok (.lload_n 3, 1) := by decide +kernel
theorem dX8_part_85 : decode cX8_part 85 = .ok (.lreturn, 1) := by decide +kernel
theorem dX8_line_0 : decode cX8_line 0 = .ok (.iconst 4, 1) := by decide +kernel
theorem dX8_line_1 : decode cX8_line 1 = .ok (.bipush 60, 2) := by decide +kernel
theorem dX8_line_3 : decode cX8_line 3 = .ok (.aload_n 0, 1) := by decide +kernel
theorem dX8_line_4 : decode cX8_line 4 = .ok (.getfield 206, 3) := by decide +kernel
theorem dX8_line_7 : decode cX8_line 7 = .ok (.imul, 1) := by decide +kernel
theorem dX8_line_8 : decode cX8_line 8 = .ok (.aload_n 0, 1) := by decide +kernel
theorem dX8_line_9 : decode cX8_line 9 = .ok (.getfield 167, 3) := by decide +kernel
theorem dX8_line_12 : decode cX8_line 12 = .ok (.aload_n 0, 1) := by decide +kernel
theorem dX8_line_13 : decode cX8_line 13 = .ok (.getfield 206, 3) := by decide +kernel
theorem dX8_line_16 : decode cX8_line 16 = .ok (.iaload, 1) := by decide +kernel
theorem dX8_line_17 : decode cX8_line 17 = .ok (.iadd, 1) := by decide +kernel
theorem dX8_line_18 : decode cX8_line 18 = .ok (.imul, 1) := by decide +kernel
theorem dX8_line_19 : decode cX8_line 19 = .ok (.istore 7, 2) := by decide +kernel
theorem dX8_line_21 : decode cX8_line 21 = .ok (.aload_n 0, 1) := by decide +kernel
theorem dX8_line_22 : decode cX8_line 22 = .ok (.getfield 170, 3) := by decide +kernel
theorem dX8_line_25 : decode cX8_line 25 = .ok (.iload 7, 2) := by decide +kernel
theorem dX8_line_27 : decode cX8_line 27 = .ok (.iload_n 1, 1) := by decide +kernel
theorem dX8_line_28 : decode cX8_line 28 = .ok (.i2l, 1) := by decide +kernel
theorem dX8_line_29 : decode cX8_line 29 = .ok (.lastore, 1) := by decide +kernel
theorem dX8_line_30 : decode cX8_line 30 = .ok (.aload_n 0, 1) := by decide +kernel
theorem dX8_line_31 : decode cX8_line 31 = .ok (.getfield 170, 3) := by decide +kernel
theorem dX8_line_34 : decode cX8_line 34 = .ok (.iload 7, 2) := by decide +kernel
theorem dX8_line_36 : decode cX8_line 36 = .ok (.iconst 1, 1) := by decide +kernel
theorem dX8_line_37 : decode cX8_line 37 = .ok (.iadd, 1) := by decide +kernel
theorem dX8_line_38 : decode cX8_line 38 = .ok (.iload_n 2, 1) := by decide +kernel
theorem dX8_line_39 : decode cX8_line 39 = .ok (.i2l, 1) := by decide +kernel
theorem dX8_line_40 : decode cX8_line 40 = .ok (.lastore, 1) := by decide +kernel
theorem dX8_line_41 : decode cX8_line 41 = .ok (.aload_n 0, 1) := by decide +kernel
theorem dX8_line_42 : decode cX8_line 42 = .ok (.getfield 170, 3) := by decide +kernel
theorem dX8_line_45 : decode cX8_line 45 = .ok (.iload 7, 2) := by decide +kernel
theorem dX8_line_47 : decode cX8_line 47 = .ok (.iconst 2, 1) := by decide +kernel
theorem dX8_line_48 : decode cX8_line 48 = .ok (.iadd, 1) := by decide +kernel
theorem dX8_line_49 : decode cX8_line 49 = .ok (.lload_n 3, 1) := by decide +kernel
theorem dX8_line_50 : decode cX8_line 50 = .ok (.lastore, 1) := by decide +kernel
theorem dX8_line_51 : decode cX8_line 51 = .ok (.aload_n 0, 1) := by decide +kernel
theorem dX8_line_52 : decode cX8_line 52 = .ok (.getfield 170, 3) := by decide +kernel
theorem dX8_line_55 : decode cX8_line 55 = .ok (.iload 7, 2) := by decide +kernel
theorem dX8_line_57 : decode cX8_line 57 = .ok (.iconst 3, 1) := by decide +kernel
theorem dX8_line_58 : decode cX8_line 58 = .ok (.iadd, 1) := by decide +kernel
theorem dX8_line_59 : decode cX8_line 59 = .ok (.lload 5, 2) := by decide +kernel
theorem dX8_line_61 : decode cX8_line 61 = .ok (.lastore, 1) := by decide +kernel
theorem dX8_line_62 : decode cX8_line 62 = .ok (.aload_n 0, 1) := by decide +kernel
theorem dX8_line_63 : decode cX8_line 63 = .ok (.getfield 167, 3) := by decide +kernel
theorem dX8_line_66 : decode cX8_line 66 = .ok (.aload_n 0, 1) := by decide +kernel
theorem dX8_line_67 : decode cX8_line 67 = .ok (.getfield 206, 3) := by decide +kernel
theorem dX8_line_70 : decode cX8_line 70 = .ok (.dup2, 1) := by decide +kernel
theorem dX8_line_71 : decode cX8_line 71 = .ok (.iaload, 1) := by decide +kernel
theorem dX8_line_72 : decode cX8_line 72 = .ok (.iconst 1, 1) := by decide +kernel
theorem dX8_line_73 : decode cX8_line 73 = .ok (.iadd, 1) := by decide +kernel
theorem dX8_line_74 : decode cX8_line 74 = .ok (.iastore, 1) := by decide +kernel
theorem dX8_line_75 : decode cX8_line 75 = .ok (.return_, 1) := by decide +kernel
theorem dX8_close_0 : decode cX8_close 0 = .ok (.iload_n 1, 1) := by decide +kernel
theorem dX8_close_1 : decode cX8_close 1 = .ok (.invokestatic 7, 3) := by decide +kernel
theorem dX8_close_4 : decode cX8_close 4 = .ok (.ifCond .ne 6, 3) := by decide +kernel
theorem dX8_close_7 : decode cX8_close 7 = .ok (.bipush (-2), 2) := by decide +kernel
theorem dX8_close_9 : decode cX8_close 9 = .ok (.ireturn, 1) := by decide +kernel
theorem dX8_close_10 : decode cX8_close 10 = .ok (.aload_n 0, 1) := by decide +kernel
theorem dX8_close_11 : decode cX8_close 11 = .ok (.getfield 49, 3) := by decide +kernel
theorem dX8_close_14 : decode cX8_close 14 = .ok (.iload_n 1, 1) := by decide +kernel
theorem dX8_close_15 : decode cX8_close 15 = .ok (.iaload, 1) := by decide +kernel
theorem dX8_close_16 : decode cX8_close 16 = .ok (.istore_n 2, 1) := by decide +kernel
theorem dX8_close_17 : decode cX8_close 17 = .ok (.aload_n 0, 1) := by decide +kernel
theorem dX8_close_18 : decode cX8_close 18 = .ok (.getfield 24, 3) := by decide +kernel
theorem dX8_close_21 : decode cX8_close 21 = .ok (.sipush 1000, 3) := by decide +kernel
theorem dX8_close_24 : decode cX8_close 24 = .ok (.iload_n 2, 1) := by decide +kernel
theorem dX8_close_25 : decode cX8_close 25 = .ok (.imul, 1) := by decide +kernel
theorem dX8_close_26 : decode cX8_close 26 = .ok (.sipush 999, 3) := by decide +kernel
theorem dX8_close_29 : decode cX8_close 29 = .ok (.iadd, 1) := by decide +kernel
theorem dX8_close_30 : decode cX8_close 30 = .ok (.if_icmp .gt 6, 3) := by decide +kernel
theorem dX8_close_33 : decode cX8_close 33 = .ok (.bipush (-4), 2) := by decide +kernel
theorem dX8_close_35 : decode cX8_close 35 = .ok (.ireturn, 1) := by decide +kernel
theorem dX8_close_36 : decode cX8_close 36 = .ok (.aload_n 0, 1) := by decide +kernel
theorem dX8_close_37 : decode cX8_close 37 = .ok (.getfield 206, 3) := by decide +kernel
theorem dX8_close_40 : decode cX8_close 40 = .ok (.bipush 60, 2) := by decide +kernel
theorem dX8_close_42 : decode cX8_close 42 = .ok (.if_icmp .ne 6, 3) := by decide +kernel
theorem dX8_close_45 : decode cX8_close 45 = .ok (.bipush (-3), 2) := by decide +kernel
theorem dX8_close_47 : decode cX8_close 47 = .ok (.ireturn, 1) := by decide +kernel
theorem dX8_close_48 : decode cX8_close 48 = .ok (.aload_n 0, 1) := by decide +kernel
theorem dX8_close_49 : decode cX8_close 49 = .ok (.getfield 161, 3) := by decide +kernel
theorem dX8_close_52 : decode cX8_close 52 = .ok (.aload_n 0, 1) := by decide +kernel
theorem dX8_close_53 : decode cX8_close 53 = .ok (.getfield 206, 3) := by decide +kernel
theorem dX8_close_56 : decode cX8_close 56 = .ok (.iload_n 1, 1) := by decide +kernel
theorem dX8_close_57 : decode cX8_close 57 = .ok (.iastore, 1) := by decide +kernel
theorem dX8_close_58 : decode cX8_close 58 = .ok (.aload_n 0, 1) := by decide +kernel
theorem dX8_close_59 : decode cX8_close 59 = .ok (.getfield 164, 3) := by decide +kernel
theorem dX8_close_62 : decode cX8_close 62 = .ok (.aload_n 0, 1) := by decide +kernel
theorem dX8_close_63 : decode cX8_close 63 = .ok (.getfield 206, 3) := by decide +kernel
theorem dX8_close_66 : decode cX8_close 66 = .ok (.iload_n 2, 1) := by decide +kernel
theorem dX8_close_67 : decode cX8_close 67 = .ok (.iastore, 1) := by decide +kernel
theorem dX8_close_68 : decode cX8_close 68 = .ok (.aload_n 0, 1) := by decide +kernel
theorem dX8_close_69 : decode cX8_close 69 = .ok (.getfield 167, 3) := by decide +kernel
theorem dX8_close_72 : decode cX8_close 72 = .ok (.aload_n 0, 1) := by decide +kernel
theorem dX8_close_73 : decode cX8_close 73 = .ok (.getfield 206, 3) := by decide +kernel
theorem dX8_close_76 : decode cX8_close 76 = .ok (.iconst 0, 1) := by decide +kernel
theorem dX8_close_77 : decode cX8_close 77 = .ok (.iastore, 1) := by decide +kernel
theorem dX8_close_78 : decode cX8_close 78 = .ok (.lconst 0, 1) := by decide +kernel
theorem dX8_close_79 : decode cX8_close 79 = .ok (.lstore_n 3, 1) := by decide +kernel
theorem dX8_close_80 : decode cX8_close 80 = .ok (.iconst 0, 1) := by decide +kernel
theorem dX8_close_81 : decode cX8_close 81 = .ok (.istore 5, 2) := by decide +kernel
theorem dX8_close_83 : decode cX8_close 83 = .ok (.iload 5, 2) := by decide +kernel
theorem dX8_close_85 : decode cX8_close 85 = .ok (.iconst 4, 1) := by decide +kernel
theorem dX8_close_86 : decode cX8_close 86 = .ok (.if_icmp .ge 90, 3) := by decide +kernel
theorem dX8_close_89 : decode cX8_close 89 = .ok (.aload_n 0, 1) := by decide +kernel
theorem dX8_close_90 : decode cX8_close 90 = .ok (.getfield 131, 3) := by decide +kernel
theorem dX8_close_93 : decode cX8_close 93 = .ok (.iload_n 1, 1) := by decide +kernel
theorem dX8_close_94 : decode cX8_close 94 = .ok (.iload 5, 2) := by decide +kernel
theorem dX8_close_96 : decode cX8_close 96 = .ok (.invokestatic 174, 3) := by decide +kernel
theorem dX8_close_99 : decode cX8_close 99 = .ok (.aload_n 0, 1) := by decide +kernel
theorem dX8_close_100 : decode cX8_close 100 = .ok (.getfield 131, 3) := by decide +kernel
theorem dX8_close_103 : decode cX8_close 103 = .ok (.bipush 18, 2) := by decide +kernel
theorem dX8_close_105 : decode cX8_close 105 = .ok (.bipush 24, 2) := by decide +kernel
theorem dX8_close_107 : decode cX8_close 107 = .ok (.iconst 4, 1) := by decide +kernel
theorem dX8_close_108 : decode cX8_close 108 = .ok (.aload_n 0, 1) := by decide +kernel
theorem dX8_close_109 : decode cX8_close 109 = .ok (.getfield 206, 3) := by decide +kernel
theorem dX8_close_112 : decode cX8_close 112 = .ok (.imul, 1) := by decide +kernel
theorem dX8_close_113 : decode cX8_close 113 = .ok (.iadd, 1) := by decide +kernel
theorem dX8_close_114 : decode cX8_close 114 = .ok (.iload 5, 2) := by decide +kernel
theorem dX8_close_116 : decode cX8_close 116 = .ok (.iadd, 1) := by decide +kernel
theorem dX8_close_117 : decode cX8_close 117 = .ok (.imul, 1) := by decide +kernel
theorem dX8_close_118 : decode cX8_close 118 = .ok (.bipush 18, 2) := by decide +kernel
theorem dX8_close_120 : decode cX8_close 120 = .ok (.invokestatic 209, 3) := by decide +kernel
theorem dX8_close_123 : decode cX8_close 123 = .ok (.aload_n 0, 1) := by decide +kernel
theorem dX8_close_124 : decode cX8_close 124 = .ok (.iload_n 1, 1) := by decide +kernel
theorem dX8_close_125 : decode cX8_close 125 = .ok (.iload 5, 2) := by decide +kernel
theorem dX8_close_127 : decode cX8_close 127 = .ok (.iload_n 2, 1) := by decide +kernel
theorem dX8_close_128 : decode cX8_close 128 = .ok (.invokevirtual 193, 3) := by decide +kernel
theorem dX8_close_131 : decode cX8_close 131 = .ok (.lstore 6, 2) := by decide +kernel
theorem dX8_close_133 : decode cX8_close 133 = .ok (.lload 6, 2) := by decide +kernel
theorem dX8_close_135 : decode cX8_close 135 = .ok (.lconst 0, 1) := by decide +kernel
theorem dX8_close_136 : decode cX8_close 136 = .ok (.lcmp, 1) := by decide +kernel
theorem dX8_close_137 : decode cX8_close 137 = .ok (.ifCond .le 33, 3) := by decide +kernel
theorem dX8_close_140 : decode cX8_close 140 = .ok (.aload_n 0, 1) := by decide +kernel
theorem dX8_close_141 : decode cX8_close 141 = .ok (.iload_n 1, 1) := by decide +kernel
theorem dX8_close_142 : decode cX8_close 142 = .ok (.iload 5, 2) := by decide +kernel
theorem dX8_close_144 : decode cX8_close 144 = .ok (.invokestatic 174, 3) := by decide +kernel
theorem dX8_close_147 : decode cX8_close 147 = .ok (.lload 6, 2) := by decide +kernel
theorem dX8_close_149 : decode cX8_close 149 = .ok (.invokevirtual 179, 3) := by decide +kernel
theorem dX8_close_152 : decode cX8_close 152 = .ok (.lstore 8, 2) := by decide +kernel
theorem dX8_close_154 : decode cX8_close 154 = .ok (.aload_n 0, 1) := by decide +kernel
theorem dX8_close_155 : decode cX8_close 155 = .ok (.iconst 0, 1) := by decide +kernel
theorem dX8_close_156 : decode cX8_close 156 = .ok (.iload 5, 2) := by decide +kernel
theorem dX8_close_158 : decode cX8_close 158 = .ok (.lload 6, 2) := by decide +kernel
theorem dX8_close_160 : decode cX8_close 160 = .ok (.lload 8, 2) := by decide +kernel
theorem dX8_close_162 : decode cX8_close 162 = .ok (.invokevirtual 215, 3) := by decide +kernel
theorem dX8_close_165 : decode cX8_close 165 = .ok (.lload_n 3, 1) := by decide +kernel
theorem dX8_close_166 : decode cX8_close 166 = .ok (.lload 8, 2) := by decide +kernel
theorem dX8_close_168 : decode cX8_close 168 = .ok (.ladd, 1) := by decide +kernel
theorem dX8_close_169 : decode cX8_close 169 = .ok (.lstore_n 3, 1) := by decide +kernel
theorem dX8_close_170 : decode cX8_close 170 = .ok (.iinc 5 1, 3) := by decide +kernel
theorem dX8_close_173 : decode cX8_close 173 = .ok (.goto (-90), 3) := by decide +kernel
theorem dX8_close_176 : decode cX8_close 176 = .ok (.iconst 0, 1) := by decide +kernel
theorem dX8_close_177 : decode cX8_close 177 = .ok (.istore 5, 2) := by decide +kernel
theorem dX8_close_179 : decode cX8_close 179 = .ok (.iload 5, 2) := by decide +kernel
theorem dX8_close_181 : decode cX8_close 181 = .ok (.iconst 4, 1) := by decide +kernel
theorem dX8_close_182 : decode cX8_close 182 = .ok (.if_icmp .ge 82, 3) := by decide +kernel
theorem dX8_close_185 : decode cX8_close 185 = .ok (.iconst 4, 1) := by decide +kernel
theorem dX8_close_186 : decode cX8_close 186 = .ok (.iload_n 1, 1) := by decide +kernel
theorem dX8_close_187 : decode cX8_close 187 = .ok (.imul, 1) := by decide +kernel
theorem dX8_close_188 : decode cX8_close 188 = .ok (.iload 5, 2) := by decide +kernel
theorem dX8_close_190 : decode cX8_close 190 = .ok (.iadd, 1) := by decide +kernel
theorem dX8_close_191 : decode cX8_close 191 = .ok (.istore 6, 2) := by decide +kernel
theorem dX8_close_193 : decode cX8_close 193 = .ok (.aload_n 0, 1) := by decide +kernel
theorem dX8_close_194 : decode cX8_close 194 = .ok (.getfield 158, 3) := by decide +kernel
theorem dX8_close_197 : decode cX8_close 197 = .ok (.iload 6, 2) := by decide +kernel
theorem dX8_close_199 : decode cX8_close 199 = .ok (.baload, 1) := by decide +kernel
theorem dX8_close_200 : decode cX8_close 200 = .ok (.ifCond .eq 58, 3) := by decide +kernel
theorem dX8_close_203 : decode cX8_close 203 = .ok (.aload_n 0, 1) := by decide +kernel
theorem dX8_close_204 : decode cX8_close 204 = .ok (.iconst 1, 1) := by decide +kernel
theorem dX8_close_205 : decode cX8_close 205 = .ok (.iload 5, 2) := by decide +kernel
theorem dX8_close_207 : decode cX8_close 207 = .ok (.aload_n 0, 1) := by decide +kernel
theorem dX8_close_208 : decode cX8_close 208 = .ok (.getfield 152, 3) := by decide +kernel
theorem dX8_close_211 : decode cX8_close 211 = .ok (.iload 6, 2) := by decide +kernel
theorem dX8_close_213 : decode cX8_close 213 = .ok (.laload, 1) := by decide +kernel
theorem dX8_close_214 : decode cX8_close 214 = .ok (.aload_n 0, 1) := by decide +kernel
theorem dX8_close_215 : decode cX8_close 215 = .ok (.getfield 155, 3) := by decide +kernel
theorem dX8_close_218 : decode cX8_close 218 = .ok (.iload 6, 2) := by decide +kernel
theorem dX8_close_220 : decode cX8_close 220 = .ok (.laload, 1) := by decide +kernel
theorem dX8_close_221 : decode cX8_close 221 = .ok (.invokevirtual 215, 3) := by decide +kernel
theorem dX8_close_224 : decode cX8_close 224 = .ok (.lload_n 3, 1) := by decide +kernel
theorem dX8_close_225 : decode cX8_close 225 = .ok (.aload_n 0, 1) := by decide +kernel
theorem dX8_close_226 : decode cX8_close 226 = .ok (.getfield 155, 3) := by decide +kernel
theorem dX8_close_229 : decode cX8_close 229 = .ok (.iload 6, 2) := by decide +kernel
theorem dX8_close_231 : decode cX8_close 231 = .ok (.laload, 1) := by decide +kernel
theorem dX8_close_232 : decode cX8_close 232 = .ok (.ladd, 1) := by decide +kernel
theorem dX8_close_233 : decode cX8_close 233 = .ok (.lstore_n 3, 1) := by decide +kernel
theorem dX8_close_234 : decode cX8_close 234 = .ok (.aload_n 0, 1) := by decide +kernel
theorem dX8_close_235 : decode cX8_close 235 = .ok (.getfield 158, 3) := by decide +kernel
theorem dX8_close_238 : decode cX8_close 238 = .ok (.iload 6, 2) := by decide +kernel
theorem dX8_close_240 : decode cX8_close 240 = .ok (.iconst 0, 1) := by decide +kernel
theorem dX8_close_241 : decode cX8_close 241 = .ok (.bastore, 1) := by decide +kernel
theorem dX8_close_242 : decode cX8_close 242 = .ok (.aload_n 0, 1) := by decide +kernel
theorem dX8_close_243 : decode cX8_close 243 = .ok (.getfield 152, 3) := by decide +kernel
theorem dX8_close_246 : decode cX8_close 246 = .ok (.iload 6, 2) := by decide +kernel
theorem dX8_close_248 : decode cX8_close 248 = .ok (.lconst 0, 1) := by decide +kernel
theorem dX8_close_249 : decode cX8_close 249 = .ok (.lastore, 1) := by decide +kernel
theorem dX8_close_250 : decode cX8_close 250 = .ok (.aload_n 0, 1) := by decide +kernel
theorem dX8_close_251 : decode cX8_close 251 = .ok (.getfield 155, 3) := by decide +kernel
theorem dX8_close_254 : decode cX8_close 254 = .ok (.iload 6, 2) := by decide +kernel
theorem dX8_close_256 : decode cX8_close 256 = .ok (.lconst 0, 1) := by decide +kernel
theorem dX8_close_257 : decode cX8_close 257 = .ok (.lastore, 1) := by decide +kernel
theorem dX8_close_258 : decode cX8_close 258 = .ok (.iinc 5 1, 3) := by decide +kernel
theorem dX8_close_261 : decode cX8_close 261 = .ok (.goto (-82), 3) := by decide +kernel
theorem dX8_close_264 : decode cX8_close 264 = .ok (.lload_n 3, 1) := by decide +kernel
theorem dX8_close_265 : decode cX8_close 265 = .ok (.aload_n 0, 1) := by decide +kernel
theorem dX8_close_266 : decode cX8_close 266 = .ok (.getfield 134, 3) := by decide +kernel
theorem dX8_close_269 : decode cX8_close 269 = .ok (.iload_n 1, 1) := by decide +kernel
theorem dX8_close_270 : decode cX8_close 270 = .ok (.iaload, 1) := by decide +kernel
theorem dX8_close_271 : decode cX8_close 271 = .ok (.invokestatic 219, 3) := by decide +kernel
theorem dX8_close_274 : decode cX8_close 274 = .ok (.lstore 5, 2) := by decide +kernel
theorem dX8_close_276 : decode cX8_close 276 = .ok (.lload 5, 2) := by decide +kernel
theorem dX8_close_278 : decode cX8_close 278 = .ok (.lconst 0, 1) := by decide +kernel
theorem dX8_close_279 : decode cX8_close 279 = .ok (.lcmp, 1) := by decide +kernel
theorem dX8_close_280 : decode cX8_close 280 = .ok (.ifCond .eq 18, 3) := by decide +kernel
theorem dX8_close_283 : decode cX8_close 283 = .ok (.aload_n 0, 1) := by decide +kernel
theorem dX8_close_284 : decode cX8_close 284 = .ok (.iconst 2, 1) := by decide +kernel
theorem dX8_close_285 : decode cX8_close 285 = .ok (.iconst (-1), 1) := by decide +kernel
theorem dX8_close_286 : decode cX8_close 286 = .ok (.lconst 0, 1) := by decide +kernel
theorem dX8_close_287 : decode cX8_close 287 = .ok (.lload 5, 2) := by decide +kernel
theorem dX8_close_289 : decode cX8_close 289 = .ok (.lneg, 1) := by decide +kernel
theorem dX8_close_290 : decode cX8_close 290 = .ok (.invokevirtual 215, 3) := by decide +kernel
theorem dX8_close_293 : decode cX8_close 293 = .ok (.lload_n 3, 1) := by decide +kernel
theorem dX8_close_294 : decode cX8_close 294 = .ok (.lload 5, 2) := by decide +kernel
theorem dX8_close_296 : decode cX8_close 296 = .ok (.lsub, 1) := by decide +kernel
theorem dX8_close_297 : decode cX8_close 297 = .ok (.lstore_n 3, 1) := by decide +kernel
theorem dX8_close_298 : decode cX8_close 298 = .ok (.lload_n 3, 1) := by decide +kernel
theorem dX8_close_299 : decode cX8_close 299 = .ok (.aload_n 0, 1) := by decide +kernel
theorem dX8_close_300 : decode cX8_close 300 = .ok (.getfield 137, 3) := by decide +kernel
theorem dX8_close_303 : decode cX8_close 303 = .ok (.iload_n 1, 1) := by decide +kernel
theorem dX8_close_304 : decode cX8_close 304 = .ok (.laload, 1) := by decide +kernel
theorem dX8_close_305 : decode cX8_close 305 = .ok (.lcmp, 1) := by decide +kernel
theorem dX8_close_306 : decode cX8_close 306 = .ok (.ifCond .ge 25, 3) := by decide +kernel
theorem dX8_close_309 : decode cX8_close 309 = .ok (.aload_n 0, 1) := by decide +kernel
theorem dX8_close_310 : decode cX8_close 310 = .ok (.iconst 3, 1) := by decide +kernel
theorem dX8_close_311 : decode cX8_close 311 = .ok (.iconst (-1), 1) := by decide +kernel
theorem dX8_close_312 : decode cX8_close 312 = .ok (.lconst 0, 1) := by decide +kernel
theorem dX8_close_313 : decode cX8_close 313 = .ok (.aload_n 0, 1) := by decide +kernel
theorem dX8_close_314 : decode cX8_close 314 = .ok (.getfield 137, 3) := by decide +kernel
theorem dX8_close_317 : decode cX8_close 317 = .ok (.iload_n 1, 1) := by decide +kernel
theorem dX8_close_318 : decode cX8_close 318 = .ok (.laload, 1) := by decide +kernel
theorem dX8_close_319 : decode cX8_close 319 = .ok (.lload_n 3, 1) := by decide +kernel
theorem dX8_close_320 : decode cX8_close 320 = .ok (.lsub, 1) := by decide +kernel
theorem dX8_close_321 : decode cX8_close 321 = .ok (.invokevirtual 215, 3) := by decide +kernel
theorem dX8_close_324 : decode cX8_close 324 = .ok (.aload_n 0, 1) := by decide +kernel
theorem dX8_close_325 : decode cX8_close 325 = .ok (.getfield 137, 3) := by decide +kernel
theorem dX8_close_328 : decode cX8_close 328 = .ok (.iload_n 1, 1) := by decide +kernel
theorem dX8_close_329 : decode cX8_close 329 = .ok (.laload, 1) := by decide +kernel
theorem dX8_close_330 : decode cX8_close 330 = .ok (.lstore_n 3, 1) := by decide +kernel
theorem dX8_close_331 : decode cX8_close 331 = .ok (.lload_n 3, 1) := by decide +kernel
theorem dX8_close_332 : decode cX8_close 332 = .ok (.aload_n 0, 1) := by decide +kernel
theorem dX8_close_333 : decode cX8_close 333 = .ok (.getfield 140, 3) := by decide +kernel
theorem dX8_close_336 : decode cX8_close 336 = .ok (.iload_n 1, 1) := by decide +kernel
theorem dX8_close_337 : decode cX8_close 337 = .ok (.iaload, 1) := by decide +kernel
theorem dX8_close_338 : decode cX8_close 338 = .ok (.invokestatic 219, 3) := by decide +kernel
theorem dX8_close_341 : decode cX8_close 341 = .ok (.lstore 7, 2) := by decide +kernel
theorem dX8_close_343 : decode cX8_close 343 = .ok (.lload 7, 2) := by decide +kernel
theorem dX8_close_345 : decode cX8_close 345 = .ok (.lconst 0, 1) := by decide +kernel
theorem dX8_close_346 : decode cX8_close 346 = .ok (.lcmp, 1) := by decide +kernel
theorem dX8_close_347 : decode cX8_close 347 = .ok (.ifCond .eq 17, 3) := by decide +kernel
theorem dX8_close_350 : decode cX8_close 350 = .ok (.aload_n 0, 1) := by decide +kernel
theorem dX8_close_351 : decode cX8_close 351 = .ok (.iconst 4, 1) := by decide +kernel
theorem dX8_close_352 : decode cX8_close 352 = .ok (.iconst (-1), 1) := by decide +kernel
theorem dX8_close_353 : decode cX8_close 353 = .ok (.lconst 0, 1) := by decide +kernel
theorem dX8_close_354 : decode cX8_close 354 = .ok (.lload 7, 2) := by decide +kernel
theorem dX8_close_356 : decode cX8_close 356 = .ok (.invokevirtual 215, 3) := by decide +kernel
theorem dX8_close_359 : decode cX8_close 359 = .ok (.lload_n 3, 1) := by decide +kernel
theorem dX8_close_360 : decode cX8_close 360 = .ok (.lload 7, 2) := by decide +kernel
theorem dX8_close_362 : decode cX8_close 362 = .ok (.ladd, 1) := by decide +kernel
theorem dX8_close_363 : decode cX8_close 363 = .ok (.lstore_n 3, 1) := by decide +kernel
theorem dX8_close_364 : decode cX8_close 364 = .ok (.aload_n 0, 1) := by decide +kernel
theorem dX8_close_365 : decode cX8_close 365 = .ok (.iload_n 1, 1) := by decide +kernel
theorem dX8_close_366 : decode cX8_close 366 = .ok (.iload_n 2, 1) := by decide +kernel
theorem dX8_close_367 : decode cX8_close 367 = .ok (.lload_n 3, 1) := by decide +kernel
theorem dX8_close_368 : decode cX8_close 368 = .ok (.invokevirtual 223, 3) := by decide +kernel
theorem dX8_close_371 : decode cX8_close 371 = .ok (.aload_n 0, 1) := by decide +kernel
theorem dX8_close_372 : decode cX8_close 372 = .ok (.getfield 49, 3) := by decide +kernel
theorem dX8_close_375 : decode cX8_close 375 = .ok (.iload_n 1, 1) := by decide +kernel
theorem dX8_close_376 : decode cX8_close 376 = .ok (.dup2, 1) := by decide +kernel
theorem dX8_close_377 : decode cX8_close 377 = .ok (.iaload, 1) := by decide +kernel
theorem dX8_close_378 : decode cX8_close 378 = .ok (.iconst 1, 1) := by decide +kernel
theorem dX8_close_379 : decode cX8_close 379 = .ok (.iadd, 1) := by decide +kernel
theorem dX8_close_380 : decode cX8_close 380 = .ok (.iastore, 1) := by decide +kernel
theorem dX8_close_381 : decode cX8_close 381 = .ok (.aload_n 0, 1) := by decide +kernel
theorem dX8_close_382 : decode cX8_close 382 = .ok (.dup, 1) := by decide +kernel
theorem dX8_close_383 : decode cX8_close 383 = .ok (.getfield 206, 3) := by decide +kernel
theorem dX8_close_386 : decode cX8_close 386 = .ok (.iconst 1, 1) := by decide +kernel
theorem dX8_close_387 : decode cX8_close 387 = .ok (.iadd, 1) := by decide +kernel
theorem dX8_close_388 : decode cX8_close 388 = .ok (.putfield 206, 3) := by decide +kernel
theorem dX8_close_391 : decode cX8_close 391 = .ok (.aload_n 0, 1) := by decide +kernel
theorem dX8_close_392 : decode cX8_close 392 = .ok (.getfield 206, 3) := by decide +kernel
theorem dX8_close_395 : decode cX8_close 395 = .ok (.iconst 1, 1) := by decide +kernel
theorem dX8_close_396 : decode cX8_close 396 = .ok (.isub, 1) := by decide +kernel
theorem dX8_close_397 : decode cX8_close 397 = .ok (.ireturn, 1) := by decide +kernel
theorem dX8_useCredits_0 : decode cX8_useCredits 0 = .ok (.lload_n 3, 1) := by decide +kernel
theorem dX8_useCredits_1 : decode cX8_useCredits 1 = .ok (.lstore 5, 2) := by decide +kernel
theorem dX8_useCredits_3 : decode cX8_useCredits 3 = .ok (.lload 5, 2) := by decide +kernel
theorem dX8_useCredits_5 : decode cX8_useCredits 5 = .ok (.lconst 0, 1) := by decide +kernel
theorem dX8_useCredits_6 : decode cX8_useCredits 6 = .ok (.lcmp, 1) := by decide +kernel
theorem dX8_useCredits_7 : decode cX8_useCredits 7 = .ok (.ifCond .le 7, 3) := by decide +kernel
theorem dX8_useCredits_10 : decode cX8_useCredits 10 = .ok (.iconst 1, 1) := by decide +kernel
theorem dX8_useCredits_11 : decode cX8_useCredits 11 = .ok (.goto 4, 3) := by decide +kernel
theorem dX8_useCredits_14 : decode cX8_useCredits 14 = .ok (.iconst 0, 1) := by decide +kernel
theorem dX8_useCredits_15 : decode cX8_useCredits 15 = .ok (.istore 7, 2) := by decide +kernel
theorem dX8_useCredits_17 : decode cX8_useCredits 17 = .ok (.iload 7, 2) := by decide +kernel
theorem dX8_useCredits_19 : decode cX8_useCredits 19 = .ok (.ifCond .eq 156, 3) := by decide +kernel
theorem dX8_useCredits_22 : decode cX8_useCredits 22 = .ok (.iconst (-1), 1) := by decide +kernel
theorem dX8_useCredits_23 : decode cX8_useCredits 23 = .ok (.istore 8, 2) := by decide +kernel
theorem dX8_useCredits_25 : decode cX8_useCredits 25 = .ok (.bipush 40, 2) := by decide +kernel
theorem dX8_useCredits_27 : decode cX8_useCredits 27 = .ok (.iload_n 1, 1) := by decide +kernel
theorem dX8_useCredits_28 : decode cX8_useCredits 28 = .ok (.imul, 1) := by decide +kernel
theorem dX8_useCredits_29 : decode cX8_useCredits 29 = .ok (.istore 9, 2) := by decide +kernel
theorem dX8_useCredits_31 : decode cX8_useCredits 31 = .ok (.iload 9, 2) := by decide +kernel
theorem dX8_useCredits_33 : decode cX8_useCredits 33 = .ok (.bipush 40, 2) := by decide +kernel
theorem dX8_useCredits_35 : decode cX8_useCredits 35 = .ok (.iload_n 1, 1) := by decide +kernel
theorem dX8_useCredits_36 : decode cX8_useCredits 36 = .ok (.imul, 1) := by decide +kernel
theorem dX8_useCredits_37 : decode cX8_useCredits 37 = .ok (.aload_n 0, 1) := by decide +kernel
theorem dX8_useCredits_38 : decode cX8_useCredits 38 = .ok (.getfield 143, 3) := by decide +kernel
theorem dX8_useCredits_41 : decode cX8_useCredits 41 = .ok (.iload_n 1, 1) := by decide +kernel
theorem dX8_useCredits_42 : decode cX8_useCredits 42 = .ok (.iaload, 1) := by decide +kernel
theorem dX8_useCredits_43 : decode cX8_useCredits 43 = .ok (.iadd, 1) := by decide +kernel
theorem dX8_useCredits_44 : decode cX8_useCredits 44 = .ok (.if_icmp .ge 59, 3) := by decide +kernel
theorem dX8_useCredits_47 : decode cX8_useCredits 47 = .ok (.aload_n 0, 1) := by decide +kernel
theorem dX8_useCredits_48 : decode cX8_useCredits 48 = .ok (.getfield 149, 3) := by decide +kernel
theorem dX8_useCredits_51 : decode cX8_useCredits 51 = .ok (.iload 9, 2) := by decide +kernel
theorem dX8_useCredits_53 : decode cX8_useCredits 53 = .ok (.iaload, 1) := by decide +kernel
theorem dX8_useCredits_54 : decode cX8_useCredits 54 = .ok (.iload_n 2, 1) := by decide +kernel
theorem dX8_useCredits_55 : decode cX8_useCredits 55 = .ok (.if_icmp .lt 42, 3) := by decide +kernel
theorem dX8_useCredits_58 : decode cX8_useCredits 58 = .ok (.aload_n 0, 1) := by decide +kernel
theorem dX8_useCredits_59 : decode cX8_useCredits 59 = .ok (.getfield 146, 3) := by decide +kernel
theorem dX8_useCredits_62 : decode cX8_useCredits 62 = .ok (.iload 9, 2) := by decide +kernel
theorem dX8_useCredits_64 : decode cX8_useCredits 64 = .ok (.laload, 1) := by decide +kernel
theorem dX8_useCredits_65 : decode cX8_useCredits 65 = .ok (.lconst 0, 1) := by decide +kernel
theorem dX8_useCredits_66 : decode cX8_useCredits 66 = .ok (.lcmp, 1) := by decide +kernel
theorem dX8_useCredits_67 : decode cX8_useCredits 67 = .ok (.ifCond .le 30, 3) := by decide +kernel
theorem dX8_useCredits_70 : decode cX8_useCredits 70 = .ok (.iload 8, 2) := by decide +kernel
theorem dX8_useCredits_72 : decode cX8_useCredits 72 = .ok (.iconst (-1), 1) := by decide +kernel
theorem dX8_useCredits_73 : decode cX8_useCredits 73 = .ok (.if_icmp .eq 20, 3) := by decide +kernel
theorem dX8_useCredits_76 : decode cX8_useCredits 76 = .ok (.aload_n 0, 1) := by decide +kernel
theorem dX8_useCredits_77 : decode cX8_useCredits 77 = .ok (.getfield 149, 3) := by decide +kernel
theorem dX8_useCredits_80 : decode cX8_useCredits 80 = .ok (.iload 9, 2) := by decide +kernel
theorem dX8_useCredits_82 : decode cX8_useCredits 82 = .ok (.iaload, 1) := by decide +kernel
theorem dX8_useCredits_83 : decode cX8_useCredits 83 = .ok (.aload_n 0, 1) := by decide +kernel
theorem dX8_useCredits_84 : decode cX8_useCredits 84 = .ok (.getfield 149, 3) := by decide +kernel
theorem dX8_useCredits_87 : decode cX8_useCredits 87 = .ok (.iload 8, 2) := by decide +kernel
theorem dX8_useCredits_89 : decode cX8_useCredits 89 = .ok (.iaload, 1) := by decide +kernel
theorem dX8_useCredits_90 : decode cX8_useCredits 90 = .ok (.if_icmp .ge 7, 3) := by decide +kernel
theorem dX8_useCredits_93 : decode cX8_useCredits 93 = .ok (.iload 9, 2) := by decide +kernel
theorem dX8_useCredits_95 : decode cX8_useCredits 95 = .ok (.istore 8, 2) := by decide +kernel
theorem dX8_useCredits_97 : decode cX8_useCredits 97 = .ok (.iinc 9 1, 3) := by decide +kernel
theorem dX8_useCredits_100 : decode cX8_useCredits 100 = .ok (.goto (-69), 3) := by decide +kernel
theorem dX8_useCredits_103 : decode cX8_useCredits 103 = .ok (.iload 8, 2) := by decide +kernel
theorem dX8_useCredits_105 : decode cX8_useCredits 105 = .ok (.iconst (-1), 1) := by decide +kernel
theorem dX8_useCredits_106 : decode cX8_useCredits 106 = .ok (.if_icmp .eq 46, 3) := by decide +kernel
theorem dX8_useCredits_109 : decode cX8_useCredits 109 = .ok (.lload 5, 2) := by decide +kernel
theorem dX8_useCredits_111 : decode cX8_useCredits 111 = .ok (.aload_n 0, 1) := by decide +kernel
theorem dX8_useCredits_112 : decode cX8_useCredits 112 = .ok (.getfield 146, 3) := by decide +kernel
theorem dX8_useCredits_115 : decode cX8_useCredits 115 = .ok (.iload 8, 2) := by decide +kernel
theorem dX8_useCredits_117 : decode cX8_useCredits 117 = .ok (.laload, 1) := by decide +kernel
theorem dX8_useCredits_118 : decode cX8_useCredits 118 = .ok (.invokestatic 109, 3) := by decide +kernel
theorem dX8_useCredits_121 : decode cX8_useCredits 121 = .ok (.lstore 9, 2) := by decide +kernel
theorem dX8_useCredits_123 : decode cX8_useCredits 123 = .ok (.aload_n 0, 1) := by decide +kernel
theorem dX8_useCredits_124 : decode cX8_useCredits 124 = .ok (.iconst 5, 1) := by decide +kernel
theorem dX8_useCredits_125 : decode cX8_useCredits 125 = .ok (.iconst (-1), 1) := by decide +kernel
theorem dX8_useCredits_126 : decode cX8_useCredits 126 = .ok (.lconst 0, 1) := by decide +kernel
theorem dX8_useCredits_127 : decode cX8_useCredits 127 = .ok (.lload 9, 2) := by decide +kernel
theorem dX8_useCredits_129 : decode cX8_useCredits 129 = .ok (.lneg, 1) := by decide +kernel
theorem dX8_useCredits_130 : decode cX8_useCredits 130 = .ok (.invokevirtual 215, 3) := by decide +kernel
theorem dX8_useCredits_133 : decode cX8_useCredits 133 = .ok (.aload_n 0, 1) := by decide +kernel
theorem dX8_useCredits_134 : decode cX8_useCredits 134 = .ok (.getfield 146, 3) := by decide +kernel
theorem dX8_useCredits_137 : decode cX8_useCredits 137 = .ok (.iload 8, 2) := by decide +kernel
theorem dX8_useCredits_139 : decode cX8_useCredits 139 = .ok (.dup2, 1) := by decide +kernel
theorem dX8_useCredits_140 : decode cX8_useCredits 140 = .ok (.laload, 1) := by decide +kernel
theorem dX8_useCredits_141 : decode cX8_useCredits 141 = .ok (.lload 9, 2) := by decide +kernel
theorem dX8_useCredits_143 : decode cX8_useCredits 143 = .ok (.lsub, 1) := by decide +kernel
theorem dX8_useCredits_144 : decode cX8_useCredits 144 = .ok (.lastore, 1) := by decide +kernel
theorem dX8_useCredits_145 : decode cX8_useCredits 145 = .ok (.lload 5, 2) := by decide +kernel
theorem dX8_useCredits_147 : decode cX8_useCredits 147 = .ok (.lload 9, 2) := by decide +kernel
theorem dX8_useCredits_149 : decode cX8_useCredits 149 = .ok (.lsub, 1) := by decide +kernel
theorem dX8_useCredits_150 : decode cX8_useCredits 150 = .ok (.lstore 5, 2) := by decide +kernel
theorem dX8_useCredits_152 : decode cX8_useCredits 152 = .ok (.iload 8, 2) := by decide +kernel
theorem dX8_useCredits_154 : decode cX8_useCredits 154 = .ok (.iconst (-1), 1) := by decide +kernel
theorem dX8_useCredits_155 : decode cX8_useCredits 155 = .ok (.if_icmp .eq 14, 3) := by decide +kernel
theorem dX8_useCredits_158 : decode cX8_useCredits 158 = .ok (.lload 5, 2) := by decide +kernel
theorem dX8_useCredits_160 : decode cX8_useCredits 160 = .ok (.lconst 0, 1) := by decide +kernel
theorem dX8_useCredits_161 : decode cX8_useCredits 161 = .ok (.lcmp, 1) := by decide +kernel
theorem dX8_useCredits_162 : decode cX8_useCredits 162 = .ok (.ifCond .le 7, 3) := by decide +kernel
theorem dX8_useCredits_165 : decode cX8_useCredits 165 = .ok (.iconst 1, 1) := by decide +kernel
theorem dX8_useCredits_166 : decode cX8_useCredits 166 = .ok (.goto 4, 3) := by decide +kernel
theorem dX8_useCredits_169 : decode cX8_useCredits 169 = .ok (.iconst 0, 1) := by decide +kernel
theorem dX8_useCredits_170 : decode cX8_useCredits 170 = .ok (.istore 7, 2) := by decide +kernel
theorem dX8_useCredits_172 : decode cX8_useCredits 172 = .ok (.goto (-155), 3) := by decide +kernel
theorem dX8_useCredits_175 : decode cX8_useCredits 175 = .ok (.return_, 1) := by decide +kernel
theorem dX8_line__0 : decode cX8_line_ 0 = .ok (.iload_n 1, 1) := by decide +kernel
theorem dX8_line__1 : decode cX8_line_ 1 = .ok (.ifCond .lt 34, 3) := by decide +kernel
theorem dX8_line__4 : decode cX8_line_ 4 = .ok (.iload_n 1, 1) := by decide +kernel
theorem dX8_line__5 : decode cX8_line_ 5 = .ok (.aload_n 0, 1) := by decide +kernel
theorem dX8_line__6 : decode cX8_line_ 6 = .ok (.getfield 206, 3) := by decide +kernel
theorem dX8_line__9 : decode cX8_line_ 9 = .ok (.if_icmp .ge 26, 3) := by decide +kernel
theorem dX8_line__12 : decode cX8_line_ 12 = .ok (.iload_n 2, 1) := by decide +kernel
theorem dX8_line__13 : decode cX8_line_ 13 = .ok (.ifCond .lt 22, 3) := by decide +kernel
theorem dX8_line__16 : decode cX8_line_ 16 = .ok (.iload_n 2, 1) := by decide +kernel
theorem dX8_line__17 : decode cX8_line_ 17 = .ok (.aload_n 0, 1) := by decide +kernel
theorem dX8_line__18 : decode cX8_line_ 18 = .ok (.getfield 167, 3) := by decide +kernel
theorem dX8_line__21 : decode cX8_line_ 21 = .ok (.iload_n 1, 1) := by decide +kernel
theorem dX8_line__22 : decode cX8_line_ 22 = .ok (.iaload, 1) := by decide +kernel
theorem dX8_line__23 : decode cX8_line_ 23 = .ok (.if_icmp .ge 12, 3) := by decide +kernel
theorem dX8_line__26 : decode cX8_line_ 26 = .ok (.iload_n 3, 1) := by decide +kernel
theorem dX8_line__27 : decode cX8_line_ 27 = .ok (.ifCond .lt 8, 3) := by decide +kernel
theorem dX8_line__30 : decode cX8_line_ 30 = .ok (.iload_n 3, 1) := by decide +kernel
theorem dX8_line__31 : decode cX8_line_ 31 = .ok (.iconst 3, 1) := by decide +kernel
theorem dX8_line__32 : decode cX8_line_ 32 = .ok (.if_icmp .le 7, 3) := by decide +kernel
theorem dX8_line__35 : decode cX8_line_ 35 = .ok (.ldc2_w 75, 3) := by decide +kernel
theorem dX8_line__38 : decode cX8_line_ 38 = .ok (.lreturn, 1) := by decide +kernel
theorem dX8_line__39 : decode cX8_line_ 39 = .ok (.aload_n 0, 1) := by decide +kernel
theorem dX8_line__40 : decode cX8_line_ 40 = .ok (.getfield 170, 3) := by decide +kernel
theorem dX8_line__43 : decode cX8_line_ 43 = .ok (.iconst 4, 1) := by decide +kernel
theorem dX8_line__44 : decode cX8_line_ 44 = .ok (.bipush 60, 2) := by decide +kernel
theorem dX8_line__46 : decode cX8_line_ 46 = .ok (.iload_n 1, 1) := by decide +kernel
theorem dX8_line__47 : decode cX8_line_ 47 = .ok (.imul, 1) := by decide +kernel
theorem dX8_line__48 : decode cX8_line_ 48 = .ok (.iload_n 2, 1) := by decide +kernel
theorem dX8_line__49 : decode cX8_line_ 49 = .ok (.iadd, 1) := by decide +kernel
theorem dX8_line__50 : decode cX8_line_ 50 = .ok (.imul, 1) := by decide +kernel
theorem dX8_line__51 : decode cX8_line_ 51 = .ok (.iload_n 3, 1) := by decide +kernel
theorem dX8_line__52 : decode cX8_line_ 52 = .ok (.iadd, 1) := by decide +kernel
theorem dX8_line__53 : decode cX8_line_ 53 = .ok (.laload, 1) := by decide +kernel
theorem dX8_line__54 : decode cX8_line_ 54 = .ok (.lreturn, 1) := by decide +kernel
theorem dX8_invoice_0 : decode cX8_invoice 0 = .ok (.iload_n 1, 1) := by decide +kernel
theorem dX8_invoice_1 : decode cX8_invoice 1 = .ok (.ifCond .lt 11, 3) := by decide +kernel
theorem dX8_invoice_4 : decode cX8_invoice 4 = .ok (.iload_n 1, 1) := by decide +kernel
theorem dX8_invoice_5 : decode cX8_invoice 5 = .ok (.aload_n 0, 1) := by decide +kernel
theorem dX8_invoice_6 : decode cX8_invoice 6 = .ok (.getfield 206, 3) := by decide +kernel
theorem dX8_invoice_9 : decode cX8_invoice 9 = .ok (.if_icmp .lt 7, 3) := by decide +kernel
theorem dX8_invoice_12 : decode cX8_invoice 12 = .ok (.ldc2_w 75, 3) := by decide +kernel
theorem dX8_invoice_15 : decode cX8_invoice 15 = .ok (.lreturn, 1) := by decide +kernel
theorem dX8_invoice_16 : decode cX8_invoice 16 = .ok (.lconst 0, 1) := by decide +kernel
theorem dX8_invoice_17 : decode cX8_invoice 17 = .ok (.lstore_n 3, 1) := by decide +kernel
theorem dX8_invoice_18 : decode cX8_invoice 18 = .ok (.iconst 0, 1) := by decide +kernel
theorem dX8_invoice_19 : decode cX8_invoice 19 = .ok (.istore 5, 2) := by decide +kernel
theorem dX8_invoice_21 : decode cX8_invoice 21 = .ok (.iload 5, 2) := by decide +kernel
theorem dX8_invoice_23 : decode cX8_invoice 23 = .ok (.aload_n 0, 1) := by decide +kernel
theorem dX8_invoice_24 : decode cX8_invoice 24 = .ok (.getfield 167, 3) := by decide +kernel
theorem dX8_invoice_27 : decode cX8_invoice 27 = .ok (.iload_n 1, 1) := by decide +kernel
theorem dX8_invoice_28 : decode cX8_invoice 28 = .ok (.iaload, 1) := by decide +kernel
theorem dX8_invoice_29 : decode cX8_invoice 29 = .ok (.if_icmp .ge 28, 3) := by decide +kernel
theorem dX8_invoice_32 : decode cX8_invoice 32 = .ok (.lload_n 3, 1) := by decide +kernel
theorem dX8_invoice_33 : decode cX8_invoice 33 = .ok (.aload_n 0, 1) := by decide +kernel
theorem dX8_invoice_34 : decode cX8_invoice 34 = .ok (.getfield 170, 3) := by decide +kernel
theorem dX8_invoice_37 : decode cX8_invoice 37 = .ok (.iconst 4, 1) := by decide +kernel
theorem dX8_invoice_38 : decode cX8_invoice 38 = .ok (.bipush 60, 2) := by decide +kernel
theorem dX8_invoice_40 : decode cX8_invoice 40 = .ok (.iload_n 1, 1) := by decide +kernel
theorem dX8_invoice_41 : decode cX8_invoice 41 = .ok (.imul, 1) := by decide +kernel
theorem dX8_invoice_42 : decode cX8_invoice 42 = .ok (.iload 5, 2) := by decide +kernel
theorem dX8_invoice_44 : decode cX8_invoice 44 = .ok (.iadd, 1) := by decide +kernel
theorem dX8_invoice_45 : decode cX8_invoice 45 = .ok (.imul, 1) := by decide +kernel
theorem dX8_invoice_46 : decode cX8_invoice 46 = .ok (.iconst 3, 1) := by decide +kernel
theorem dX8_invoice_47 : decode cX8_invoice 47 = .ok (.iadd, 1) := by decide +kernel
theorem dX8_invoice_48 : decode cX8_invoice 48 = .ok (.laload, 1) := by decide +kernel
theorem dX8_invoice_49 : decode cX8_invoice 49 = .ok (.ladd, 1) := by decide +kernel
theorem dX8_invoice_50 : decode cX8_invoice 50 = .ok (.lstore_n 3, 1) := by decide +kernel
theorem dX8_invoice_51 : decode cX8_invoice 51 = .ok (.iinc 5 1, 3) := by decide +kernel
theorem dX8_invoice_54 : decode cX8_invoice 54 = .ok (.goto (-33), 3) := by decide +kernel
theorem dX8_invoice_57 : decode cX8_invoice 57 = .ok (.iload_n 2, 1) := by decide +kernel
theorem dX8_invoice_58 : decode cX8_invoice 58 = .ok (.tableswitch 56 0 3 #[30, 38, 46, 54], 30) := by decide +kernel
theorem dX8_invoice_88 : decode cX8_invoice 88 = .ok (.aload_n 0, 1) := by decide +kernel
theorem dX8_invoice_89 : decode cX8_invoice 89 = .ok (.getfield 161, 3) := by decide +kernel
theorem dX8_invoice_92 : decode cX8_invoice 92 = .ok (.iload_n 1, 1) := by decide +kernel
theorem dX8_invoice_93 : decode cX8_invoice 93 = .ok (.iaload, 1) := by decide +kernel
theorem dX8_invoice_94 : decode cX8_invoice 94 = .ok (.i2l, 1) := by decide +kernel
theorem dX8_invoice_95 : decode cX8_invoice 95 = .ok (.lreturn, 1) := by decide +kernel
theorem dX8_invoice_96 : decode cX8_invoice 96 = .ok (.aload_n 0, 1) := by decide +kernel
theorem dX8_invoice_97 : decode cX8_invoice 97 = .ok (.getfield 164, 3) := by decide +kernel
theorem dX8_invoice_100 : decode cX8_invoice 100 = .ok (.iload_n 1, 1) := by decide +kernel
theorem dX8_invoice_101 : decode cX8_invoice 101 = .ok (.iaload, 1) := by decide +kernel
theorem dX8_invoice_102 : decode cX8_invoice 102 = .ok (.i2l, 1) := by decide +kernel
theorem dX8_invoice_103 : decode cX8_invoice 103 = .ok (.lreturn, 1) := by decide +kernel
theorem dX8_invoice_104 : decode cX8_invoice 104 = .ok (.aload_n 0, 1) := by decide +kernel
theorem dX8_invoice_105 : decode cX8_invoice 105 = .ok (.getfield 167, 3) := by decide +kernel
theorem dX8_invoice_108 : decode cX8_invoice 108 = .ok (.iload_n 1, 1) := by decide +kernel
theorem dX8_invoice_109 : decode cX8_invoice 109 = .ok (.iaload, 1) := by decide +kernel
theorem dX8_invoice_110 : decode cX8_invoice 110 = .ok (.i2l, 1) := by decide +kernel
theorem dX8_invoice_111 : decode cX8_invoice 111 = .ok (.lreturn, 1) := by decide +kernel
theorem dX8_invoice_112 : decode cX8_invoice 112 = .ok (.lload_n 3, 1) := by decide +kernel
theorem dX8_invoice_113 : decode cX8_invoice 113 = .ok (.lreturn, 1) := by decide +kernel
theorem dX8_invoice_114 : decode cX8_invoice 114 = .ok (.ldc2_w 75, 3) := by decide +kernel
theorem dX8_invoice_117 : decode cX8_invoice 117 = .ok (.lreturn, 1) := by decide +kernel
theorem dX8_count_0 : decode cX8_count 0 = .ok (.iload_n 1, 1) := by decide +kernel
theorem dX8_count_1 : decode cX8_count 1 = .ok (.tableswitch 64 0 4 #[35, 40, 45, 54, 59], 35) := by decide +kernel
theorem dX8_count_36 : decode cX8_count 36 = .ok (.aload_n 0, 1) := by decide +kernel
theorem dX8_count_37 : decode cX8_count 37 = .ok (.getfield 24, 3) := by decide +kernel
theorem dX8_count_40 : decode cX8_count 40 = .ok (.ireturn, 1) := by decide +kernel
theorem dX8_count_41 : decode cX8_count 41 = .ok (.aload_n 0, 1) := by decide +kernel
theorem dX8_count_42 : decode cX8_count 42 = .ok (.getfield 3, 3) := by decide +kernel
theorem dX8_count_45 : decode cX8_count 45 = .ok (.ireturn, 1) := by decide +kernel
theorem dX8_count_46 : decode cX8_count 46 = .ok (.aload_n 0, 1) := by decide +kernel
theorem dX8_count_47 : decode cX8_count 47 = .ok (.invokevirtual 45, 3) := by decide +kernel
theorem dX8_count_50 : decode cX8_count 50 = .ok (.aload_n 0, 1) := by decide +kernel
theorem dX8_count_51 : decode cX8_count 51 = .ok (.getfield 32, 3) := by decide +kernel
theorem dX8_count_54 : decode cX8_count 54 = .ok (.ireturn, 1) := by decide +kernel
theorem dX8_count_55 : decode cX8_count 55 = .ok (.aload_n 0, 1) := by decide +kernel
theorem dX8_count_56 : decode cX8_count 56 = .ok (.invokevirtual 122, 3) := by decide +kernel
theorem dX8_count_59 : decode cX8_count 59 = .ok (.ireturn, 1) := by decide +kernel
theorem dX8_count_60 : decode cX8_count 60 = .ok (.aload_n 0, 1) := by decide +kernel
theorem dX8_count_61 : decode cX8_count 61 = .ok (.getfield 206, 3) := by decide +kernel
theorem dX8_count_64 : decode cX8_count 64 = .ok (.ireturn, 1) := by decide +kernel
theorem dX8_count_65 : decode cX8_count 65 = .ok (.bipush (-2), 2) := by decide +kernel
theorem dX8_count_67 : decode cX8_count 67 = .ok (.ireturn, 1) := by decide +kernel
theorem dX8_closed_0 : decode cX8_closed 0 = .ok (.iload_n 1, 1) := by decide +kernel
theorem dX8_closed_1 : decode cX8_closed 1 = .ok (.invokestatic 7, 3) := by decide +kernel
theorem dX8_closed_4 : decode cX8_closed 4 = .ok (.ifCond .eq 12, 3) := by decide +kernel
theorem dX8_closed_7 : decode cX8_closed 7 = .ok (.aload_n 0, 1) := by decide +kernel
theorem dX8_closed_8 : decode cX8_closed 8 = .ok (.getfield 49, 3) := by decide +kernel
theorem dX8_closed_11 : decode cX8_closed 11 = .ok (.iload_n 1, 1) := by decide +kernel
theorem dX8_closed_12 : decode cX8_closed 12 = .ok (.iaload, 1) := by decide +kernel
theorem dX8_closed_13 : decode cX8_closed 13 = .ok (.goto 5, 3) := by decide +kernel
theorem dX8_closed_16 : decode cX8_closed 16 = .ok (.bipush (-2), 2) := by decide +kernel
theorem dX8_closed_18 : decode cX8_closed 18 = .ok (.ireturn, 1) := by decide +kernel
theorem dJ9_floorDiv_f86c9_0 : decode cJ9_floorDiv_f86c9 0 = .ok (.lload_n 0, 1) := by decide +kernel
theorem dJ9_floorDiv_f86c9_1 : decode cJ9_floorDiv_f86c9 1 = .ok (.lload_n 2, 1) := by decide +kernel
theorem dJ9_floorDiv_f86c9_2 : decode cJ9_floorDiv_f86c9 2 = .ok (.ldiv, 1) := by decide +kernel
theorem dJ9_floorDiv_f86c9_3 : decode cJ9_floorDiv_f86c9 3 = .ok (.lstore 4, 2) := by decide +kernel
theorem dJ9_floorDiv_f86c9_5 : decode cJ9_floorDiv_f86c9 5 = .ok (.lload_n 0, 1) := by decide +kernel
theorem dJ9_floorDiv_f86c9_6 : decode cJ9_floorDiv_f86c9 6 = .ok (.lload_n 2, 1) := by decide +kernel
theorem dJ9_floorDiv_f86c9_7 : decode cJ9_floorDiv_f86c9 7 = .ok (.lxor, 1) := by decide +kernel
theorem dJ9_floorDiv_f86c9_8 : decode cJ9_floorDiv_f86c9 8 = .ok (.lconst 0, 1) := by decide +kernel
theorem dJ9_floorDiv_f86c9_9 : decode cJ9_floorDiv_f86c9 9 = .ok (.lcmp, 1) := by decide +kernel
theorem dJ9_floorDiv_f86c9_10 : decode cJ9_floorDiv_f86c9 10 = .ok (.ifCond .ge 17, 3) := by decide +kernel
theorem dJ9_floorDiv_f86c9_13 : decode cJ9_floorDiv_f86c9 13 = .ok (.lload 4, 2) := by decide +kernel
theorem dJ9_floorDiv_f86c9_15 : decode cJ9_floorDiv_f86c9 15 = .ok (.lload_n 2, 1) := by decide +kernel
theorem dJ9_floorDiv_f86c9_16 : decode cJ9_floorDiv_f86c9 16 = .ok (.lmul, 1) := by decide +kernel
theorem dJ9_floorDiv_f86c9_17 : decode cJ9_floorDiv_f86c9 17 = .ok (.lload_n 0, 1) := by decide +kernel
theorem dJ9_floorDiv_f86c9_18 : decode cJ9_floorDiv_f86c9 18 = .ok (.lcmp, 1) := by decide +kernel
theorem dJ9_floorDiv_f86c9_19 : decode cJ9_floorDiv_f86c9 19 = .ok (.ifCond .eq 8, 3) := by decide +kernel
theorem dJ9_floorDiv_f86c9_22 : decode cJ9_floorDiv_f86c9 22 = .ok (.lload 4, 2) := by decide +kernel
theorem dJ9_floorDiv_f86c9_24 : decode cJ9_floorDiv_f86c9 24 = .ok (.lconst 1, 1) := by decide +kernel
theorem dJ9_floorDiv_f86c9_25 : decode cJ9_floorDiv_f86c9 25 = .ok (.lsub, 1) := by decide +kernel
theorem dJ9_floorDiv_f86c9_26 : decode cJ9_floorDiv_f86c9 26 = .ok (.lreturn, 1) := by decide +kernel
theorem dJ9_floorDiv_f86c9_27 : decode cJ9_floorDiv_f86c9 27 = .ok (.lload 4, 2) := by decide +kernel
theorem dJ9_floorDiv_f86c9_29 : decode cJ9_floorDiv_f86c9 29 = .ok (.lreturn, 1) := by decide +kernel
theorem dJ9_floorMod_f86c9_0 : decode cJ9_floorMod_f86c9 0 = .ok (.lload_n 0, 1) := by decide +kernel
theorem dJ9_floorMod_f86c9_1 : decode cJ9_floorMod_f86c9 1 = .ok (.lload_n 2, 1) := by decide +kernel
theorem dJ9_floorMod_f86c9_2 : decode cJ9_floorMod_f86c9 2 = .ok (.lrem, 1) := by decide +kernel
theorem dJ9_floorMod_f86c9_3 : decode cJ9_floorMod_f86c9 3 = .ok (.lstore 4, 2) := by decide +kernel
theorem dJ9_floorMod_f86c9_5 : decode cJ9_floorMod_f86c9 5 = .ok (.lload_n 0, 1) := by decide +kernel
theorem dJ9_floorMod_f86c9_6 : decode cJ9_floorMod_f86c9 6 = .ok (.lload_n 2, 1) := by decide +kernel
theorem dJ9_floorMod_f86c9_7 : decode cJ9_floorMod_f86c9 7 = .ok (.lxor, 1) := by decide +kernel
theorem dJ9_floorMod_f86c9_8 : decode cJ9_floorMod_f86c9 8 = .ok (.lconst 0, 1) := by decide +kernel
theorem dJ9_floorMod_f86c9_9 : decode cJ9_floorMod_f86c9 9 = .ok (.lcmp, 1) := by decide +kernel
theorem dJ9_floorMod_f86c9_10 : decode cJ9_floorMod_f86c9 10 = .ok (.ifCond .ge 15, 3) := by decide +kernel
theorem dJ9_floorMod_f86c9_13 : decode cJ9_floorMod_f86c9 13 = .ok (.lload 4, 2) := by decide +kernel
theorem dJ9_floorMod_f86c9_15 : decode cJ9_floorMod_f86c9 15 = .ok (.lconst 0, 1) := by decide +kernel
theorem dJ9_floorMod_f86c9_16 : decode cJ9_floorMod_f86c9 16 = .ok (.lcmp, 1) := by decide +kernel
theorem dJ9_floorMod_f86c9_17 : decode cJ9_floorMod_f86c9 17 = .ok (.ifCond .eq 8, 3) := by decide +kernel
theorem dJ9_floorMod_f86c9_20 : decode cJ9_floorMod_f86c9 20 = .ok (.lload 4, 2) := by decide +kernel
theorem dJ9_floorMod_f86c9_22 : decode cJ9_floorMod_f86c9 22 = .ok (.lload_n 2, 1) := by decide +kernel
theorem dJ9_floorMod_f86c9_23 : decode cJ9_floorMod_f86c9 23 = .ok (.ladd, 1) := by decide +kernel
