theorem dX7_tiers_25 : decode cX7_tiers 25 = .ok (.ireturn, 1) := by decide +kernel
theorem dX7_tiers_26 : decode cX7_tiers 26 = .ok (.aload 4, 2) := by decide +kernel
theorem dX7_tiers_28 : decode cX7_tiers 28 = .ok (.aload 4, 2) := by decide +kernel
theorem dX7_tiers_30 : decode cX7_tiers 30 = .ok (.getfield 159, 3) := by decide +kernel
theorem dX7_tiers_33 : decode cX7_tiers 33 = .ok (.iload_n 3, 1) := by decide +kernel
theorem dX7_tiers_34 : decode cX7_tiers 34 = .ok (.invokestatic 162, 3) := by decide +kernel
theorem dX7_tiers_37 : decode cX7_tiers 37 = .ok (.putfield 159, 3) := by decide +kernel
theorem dX7_tiers_40 : decode cX7_tiers 40 = .ok (.aload 4, 2) := by decide +kernel
theorem dX7_tiers_42 : decode cX7_tiers 42 = .ok (.getfield 159, 3) := by decide +kernel
theorem dX7_tiers_45 : decode cX7_tiers 45 = .ok (.ireturn, 1) := by decide +kernel
theorem dX7_cost_0 : decode cX7_cost 0 = .ok (.aload_n 0, 1) := by decide +kernel
theorem dX7_cost_1 : decode cX7_cost 1 = .ok (.iload_n 1, 1) := by decide +kernel
theorem dX7_cost_2 : decode cX7_cost 2 = .ok (.iload_n 2, 1) := by decide +kernel
theorem dX7_cost_3 : decode cX7_cost 3 = .ok (.invokevirtual 139, 3) := by decide +kernel
theorem dX7_cost_6 : decode cX7_cost 6 = .ok (.astore 5, 2) := by decide +kernel
theorem dX7_cost_8 : decode cX7_cost 8 = .ok (.aload 5, 2) := by decide +kernel
theorem dX7_cost_10 : decode cX7_cost 10 = .ok (.ifnull 17, 3) := by decide +kernel
theorem dX7_cost_13 : decode cX7_cost 13 = .ok (.lload_n 3, 1) := by decide +kernel
theorem dX7_cost_14 : decode cX7_cost 14 = .ok (.lconst 0, 1) := by decide +kernel
theorem dX7_cost_15 : decode cX7_cost 15 = .ok (.lcmp, 1) := by decide +kernel
theorem dX7_cost_16 : decode cX7_cost 16 = .ok (.ifCond .lt 11, 3) := by decide +kernel
theorem dX7_cost_19 : decode cX7_cost 19 = .ok (.lload_n 3, 1) := by decide +kernel
theorem dX7_cost_20 : decode cX7_cost 20 = .ok (.ldc2_w 152, 3) := by decide +kernel
theorem dX7_cost_23 : decode cX7_cost 23 = .ok (.lcmp, 1) := by decide +kernel
theorem dX7_cost_24 : decode cX7_cost 24 = .ok (.ifCond .le 7, 3) := by decide +kernel
theorem dX7_cost_27 : decode cX7_cost 27 = .ok (.ldc2_w 167, 3) := by decide +kernel
theorem dX7_cost_30 : decode cX7_cost 30 = .ok (.lreturn, 1) := by decide +kernel
theorem dX7_cost_31 : decode cX7_cost 31 = .ok (.aload 5, 2) := by decide +kernel
theorem dX7_cost_33 : decode cX7_cost 33 = .ok (.lload_n 3, 1) := by decide +kernel
theorem dX7_cost_34 : decode cX7_cost 34 = .ok (.invokevirtual 169, 3) := by decide +kernel
theorem dX7_cost_37 : decode cX7_cost 37 = .ok (.lreturn, 1) := by decide +kernel
theorem dX7_terms_0 : decode cX7_terms 0 = .ok (.aload_n 0, 1) := by decide +kernel
theorem dX7_terms_1 : decode cX7_terms 1 = .ok (.iload_n 1, 1) := by decide +kernel
theorem dX7_terms_2 : decode cX7_terms 2 = .ok (.invokevirtual 43, 3) := by decide +kernel
theorem dX7_terms_5 : decode cX7_terms 5 = .ok (.astore 6, 2) := by decide +kernel
theorem dX7_terms_7 : decode cX7_terms 7 = .ok (.aload 6, 2) := by decide +kernel
theorem dX7_terms_9 : decode cX7_terms 9 = .ok (.ifnull 32, 3) := by decide +kernel
theorem dX7_terms_12 : decode cX7_terms 12 = .ok (.iload_n 2, 1) := by decide +kernel
theorem dX7_terms_13 : decode cX7_terms 13 = .ok (.invokestatic 173, 3) := by decide +kernel
theorem dX7_terms_16 : decode cX7_terms 16 = .ok (.ifCond .eq 25, 3) := by decide +kernel
theorem dX7_terms_19 : decode cX7_terms 19 = .ok (.lload_n 3, 1) := by decide +kernel
theorem dX7_terms_20 : decode cX7_terms 20 = .ok (.lconst 0, 1) := by decide +kernel
theorem dX7_terms_21 : decode cX7_terms 21 = .ok (.lcmp, 1) := by decide +kernel
theorem dX7_terms_22 : decode cX7_terms 22 = .ok (.ifCond .lt 19, 3) := by decide +kernel
theorem dX7_terms_25 : decode cX7_terms 25 = .ok (.lload_n 3, 1) := by decide +kernel
theorem dX7_terms_26 : decode cX7_terms 26 = .ok (.ldc2_w 176, 3) := by decide +kernel
theorem dX7_terms_29 : decode cX7_terms 29 = .ok (.lcmp, 1) := by decide +kernel
theorem dX7_terms_30 : decode cX7_terms 30 = .ok (.ifCond .gt 11, 3) := by decide +kernel
theorem dX7_terms_33 : decode cX7_terms 33 = .ok (.iload 5, 2) := by decide +kernel
theorem dX7_terms_35 : decode cX7_terms 35 = .ok (.invokestatic 173, 3) := by decide +kernel
theorem dX7_terms_38 : decode cX7_terms 38 = .ok (.ifCond .ne 6, 3) := by decide +kernel
theorem dX7_terms_41 : decode cX7_terms 41 = .ok (.bipush (-2), 2) := by decide +kernel
theorem dX7_terms_43 : decode cX7_terms 43 = .ok (.ireturn, 1) := by decide +kernel
theorem dX7_terms_44 : decode cX7_terms 44 = .ok (.aload 6, 2) := by decide +kernel
theorem dX7_terms_46 : decode cX7_terms 46 = .ok (.iload_n 2, 1) := by decide +kernel
theorem dX7_terms_47 : decode cX7_terms 47 = .ok (.putfield 178, 3) := by decide +kernel
theorem dX7_terms_50 : decode cX7_terms 50 = .ok (.aload 6, 2) := by decide +kernel
theorem dX7_terms_52 : decode cX7_terms 52 = .ok (.lload_n 3, 1) := by decide +kernel
theorem dX7_terms_53 : decode cX7_terms 53 = .ok (.putfield 181, 3) := by decide +kernel
theorem dX7_terms_56 : decode cX7_terms 56 = .ok (.aload 6, 2) := by decide +kernel
theorem dX7_terms_58 : decode cX7_terms 58 = .ok (.iload 5, 2) := by decide +kernel
theorem dX7_terms_60 : decode cX7_terms 60 = .ok (.putfield 185, 3) := by decide +kernel
theorem dX7_terms_63 : decode cX7_terms 63 = .ok (.iconst 0, 1) := by decide +kernel
theorem dX7_terms_64 : decode cX7_terms 64 = .ok (.ireturn, 1) := by decide +kernel
theorem dX7_credit_0 : decode cX7_credit 0 = .ok (.aload_n 0, 1) := by decide +kernel
theorem dX7_credit_1 : decode cX7_credit 1 = .ok (.iload_n 1, 1) := by decide +kernel
theorem dX7_credit_2 : decode cX7_credit 2 = .ok (.invokevirtual 43, 3) := by decide +kernel
theorem dX7_credit_5 : decode cX7_credit 5 = .ok (.astore 5, 2) := by decide +kernel
theorem dX7_credit_7 : decode cX7_credit 7 = .ok (.aload 5, 2) := by decide +kernel
theorem dX7_credit_9 : decode cX7_credit 9 = .ok (.ifnull 17, 3) := by decide +kernel
theorem dX7_credit_12 : decode cX7_credit 12 = .ok (.lload_n 2, 1) := by decide +kernel
theorem dX7_credit_13 : decode cX7_credit 13 = .ok (.lconst 1, 1) := by decide +kernel
theorem dX7_credit_14 : decode cX7_credit 14 = .ok (.lcmp, 1) := by decide +kernel
theorem dX7_credit_15 : decode cX7_credit 15 = .ok (.ifCond .lt 11, 3) := by decide +kernel
theorem dX7_credit_18 : decode cX7_credit 18 = .ok (.lload_n 2, 1) := by decide +kernel
theorem dX7_credit_19 : decode cX7_credit 19 = .ok (.ldc2_w 176, 3) := by decide +kernel
theorem dX7_credit_22 : decode cX7_credit 22 = .ok (.lcmp, 1) := by decide +kernel
theorem dX7_credit_23 : decode cX7_credit 23 = .ok (.ifCond .le 6, 3) := by decide +kernel
theorem dX7_credit_26 : decode cX7_credit 26 = .ok (.bipush (-2), 2) := by decide +kernel
theorem dX7_credit_28 : decode cX7_credit 28 = .ok (.ireturn, 1) := by decide +kernel
theorem dX7_credit_29 : decode cX7_credit 29 = .ok (.iload 4, 2) := by decide +kernel
theorem dX7_credit_31 : decode cX7_credit 31 = .ok (.invokestatic 188, 3) := by decide +kernel
theorem dX7_credit_34 : decode cX7_credit 34 = .ok (.ifCond .eq 13, 3) := by decide +kernel
theorem dX7_credit_37 : decode cX7_credit 37 = .ok (.iload 4, 2) := by decide +kernel
theorem dX7_credit_39 : decode cX7_credit 39 = .ok (.aload 5, 2) := by decide +kernel
theorem dX7_credit_41 : decode cX7_credit 41 = .ok (.getfield 191, 3) := by decide +kernel
theorem dX7_credit_44 : decode cX7_credit 44 = .ok (.if_icmp .ge 6, 3) := by decide +kernel
theorem dX7_credit_47 : decode cX7_credit 47 = .ok (.bipush (-2), 2) := by decide +kernel
theorem dX7_credit_49 : decode cX7_credit 49 = .ok (.ireturn, 1) := by decide +kernel
theorem dX7_credit_50 : decode cX7_credit 50 = .ok (.aload 5, 2) := by decide +kernel
theorem dX7_credit_52 : decode cX7_credit 52 = .ok (.getfield 194, 3) := by decide +kernel
theorem dX7_credit_55 : decode cX7_credit 55 = .ok (.lload_n 2, 1) := by decide +kernel
theorem dX7_credit_56 : decode cX7_credit 56 = .ok (.iload 4, 2) := by decide +kernel
theorem dX7_credit_58 : decode cX7_credit 58 = .ok (.invokevirtual 198, 3) := by decide +kernel
theorem dX7_credit_61 : decode cX7_credit 61 = .ok (.ireturn, 1) := by decide +kernel
theorem dX7_close_0 : decode cX7_close 0 = .ok (.aload_n 0, 1) := by decide +kernel
theorem dX7_close_1 : decode cX7_close 1 = .ok (.iload_n 1, 1) := by decide +kernel
theorem dX7_close_2 : decode cX7_close 2 = .ok (.invokevirtual 43, 3) := by decide +kernel
theorem dX7_close_5 : decode cX7_close 5 = .ok (.astore_n 2, 1) := by decide +kernel
theorem dX7_close_6 : decode cX7_close 6 = .ok (.aload_n 2, 1) := by decide +kernel
theorem dX7_close_7 : decode cX7_close 7 = .ok (.ifnonnull 6, 3) := by decide +kernel
theorem dX7_close_10 : decode cX7_close 10 = .ok (.bipush (-2), 2) := by decide +kernel
theorem dX7_close_12 : decode cX7_close 12 = .ok (.ireturn, 1) := by decide +kernel
theorem dX7_close_13 : decode cX7_close 13 = .ok (.aload_n 0, 1) := by decide +kernel
theorem dX7_close_14 : decode cX7_close 14 = .ok (.getfield 65, 3) := by decide +kernel
theorem dX7_close_17 : decode cX7_close 17 = .ok (.aload_n 2, 1) := by decide +kernel
theorem dX7_close_18 : decode cX7_close 18 = .ok (.getfield 191, 3) := by decide +kernel
theorem dX7_close_21 : decode cX7_close 21 = .ok (.iconst 1, 1) := by decide +kernel
theorem dX7_close_22 : decode cX7_close 22 = .ok (.iadd, 1) := by decide +kernel
theorem dX7_close_23 : decode cX7_close 23 = .ok (.sipush 1000, 3) := by decide +kernel
theorem dX7_close_26 : decode cX7_close 26 = .ok (.imul, 1) := by decide +kernel
theorem dX7_close_27 : decode cX7_close 27 = .ok (.if_icmp .ge 6, 3) := by decide +kernel
theorem dX7_close_30 : decode cX7_close 30 = .ok (.bipush (-4), 2) := by decide +kernel
theorem dX7_close_32 : decode cX7_close 32 = .ok (.ireturn, 1) := by decide +kernel
theorem dX7_close_33 : decode cX7_close 33 = .ok (.aload_n 0, 1) := by decide +kernel
theorem dX7_close_34 : decode cX7_close 34 = .ok (.getfield 204, 3) := by decide +kernel
theorem dX7_close_37 : decode cX7_close 37 = .ok (.bipush 60, 2) := by decide +kernel
theorem dX7_close_39 : decode cX7_close 39 = .ok (.if_icmp .lt 6, 3) := by decide +kernel
theorem dX7_close_42 : decode cX7_close 42 = .ok (.bipush (-3), 2) := by decide +kernel
theorem dX7_close_44 : decode cX7_close 44 = .ok (.ireturn, 1) := by decide +kernel
theorem dX7_close_45 : decode cX7_close 45 = .ok (.new 27, 3) := by decide +kernel
theorem dX7_close_48 : decode cX7_close 48 = .ok (.dup, 1) := by decide +kernel
theorem dX7_close_49 : decode cX7_close 49 = .ok (.iload_n 1, 1) := by decide +kernel
theorem dX7_close_50 : decode cX7_close 50 = .ok (.aload_n 2, 1) := by decide +kernel
theorem dX7_close_51 : decode cX7_close 51 = .ok (.getfield 191, 3) := by decide +kernel
theorem dX7_close_54 : decode cX7_close 54 = .ok (.invokespecial 207, 3) := by decide +kernel
theorem dX7_close_57 : decode cX7_close 57 = .ok (.astore_n 3, 1) := by decide +kernel
theorem dX7_close_58 : decode cX7_close 58 = .ok (.aload_n 0, 1) := by decide +kernel
theorem dX7_close_59 : decode cX7_close 59 = .ok (.aload_n 3, 1) := by decide +kernel
theorem dX7_close_60 : decode cX7_close 60 = .ok (.aload_n 2, 1) := by decide +kernel
theorem dX7_close_61 : decode cX7_close 61 = .ok (.invokevirtual 209, 3) := by decide +kernel
theorem dX7_close_64 : decode cX7_close 64 = .ok (.aload_n 2, 1) := by decide +kernel
theorem dX7_close_65 : decode cX7_close 65 = .ok (.aload_n 3, 1) := by decide +kernel
theorem dX7_close_66 : decode cX7_close 66 = .ok (.invokevirtual 213, 3) := by decide +kernel
theorem dX7_close_69 : decode cX7_close 69 = .ok (.aload_n 2, 1) := by decide +kernel
theorem dX7_close_70 : decode cX7_close 70 = .ok (.aload_n 3, 1) := by decide +kernel
theorem dX7_close_71 : decode cX7_close 71 = .ok (.invokevirtual 217, 3) := by decide +kernel
theorem dX7_close_74 : decode cX7_close 74 = .ok (.aload_n 2, 1) := by decide +kernel
theorem dX7_close_75 : decode cX7_close 75 = .ok (.getfield 194, 3) := by decide +kernel
theorem dX7_close_78 : decode cX7_close 78 = .ok (.aload_n 3, 1) := by decide +kernel
theorem dX7_close_79 : decode cX7_close 79 = .ok (.invokevirtual 220, 3) := by decide +kernel
theorem dX7_close_82 : decode cX7_close 82 = .ok (.aload_n 2, 1) := by decide +kernel
theorem dX7_close_83 : decode cX7_close 83 = .ok (.invokevirtual 223, 3) := by decide +kernel
theorem dX7_close_86 : decode cX7_close 86 = .ok (.aload_n 0, 1) := by decide +kernel
theorem dX7_close_87 : decode cX7_close 87 = .ok (.getfield 29, 3) := by decide +kernel
theorem dX7_close_90 : decode cX7_close 90 = .ok (.aload_n 0, 1) := by decide +kernel
theorem dX7_close_91 : decode cX7_close 91 = .ok (.getfield 204, 3) := by decide +kernel
theorem dX7_close_94 : decode cX7_close 94 = .ok (.aload_n 3, 1) := by decide +kernel
theorem dX7_close_95 : decode cX7_close 95 = .ok (.aastore, 1) := by decide +kernel
theorem dX7_close_96 : decode cX7_close 96 = .ok (.aload_n 0, 1) := by decide +kernel
theorem dX7_close_97 : decode cX7_close 97 = .ok (.dup, 1) := by decide +kernel
theorem dX7_close_98 : decode cX7_close 98 = .ok (.getfield 204, 3) := by decide +kernel
theorem dX7_close_101 : decode cX7_close 101 = .ok (.iconst 1, 1) := by decide +kernel
theorem dX7_close_102 : decode cX7_close 102 = .ok (.iadd, 1) := by decide +kernel
theorem dX7_close_103 : decode cX7_close 103 = .ok (.putfield 204, 3) := by decide +kernel
theorem dX7_close_106 : decode cX7_close 106 = .ok (.aload_n 0, 1) := by decide +kernel
theorem dX7_close_107 : decode cX7_close 107 = .ok (.getfield 204, 3) := by decide +kernel
theorem dX7_close_110 : decode cX7_close 110 = .ok (.iconst 1, 1) := by decide +kernel
theorem dX7_close_111 : decode cX7_close 111 = .ok (.isub, 1) := by decide +kernel
theorem dX7_close_112 : decode cX7_close 112 = .ok (.ireturn, 1) := by decide +kernel
theorem dX7_used_0 : decode cX7_used 0 = .ok (.aload_n 0, 1) := by decide +kernel
theorem dX7_used_1 : decode cX7_used 1 = .ok (.iload_n 1, 1) := by decide +kernel
theorem dX7_used_2 : decode cX7_used 2 = .ok (.invokevirtual 47, 3) := by decide +kernel
theorem dX7_used_5 : decode cX7_used 5 = .ok (.astore 4, 2) := by decide +kernel
theorem dX7_used_7 : decode cX7_used 7 = .ok (.aload 4, 2) := by decide +kernel
theorem dX7_used_9 : decode cX7_used 9 = .ok (.ifnull 17, 3) := by decide +kernel
theorem dX7_used_12 : decode cX7_used 12 = .ok (.iload_n 2, 1) := by decide +kernel
theorem dX7_used_13 : decode cX7_used 13 = .ok (.invokestatic 75, 3) := by decide +kernel
theorem dX7_used_16 : decode cX7_used 16 = .ok (.ifCond .eq 10, 3) := by decide +kernel
theorem dX7_used_19 : decode cX7_used 19 = .ok (.iload_n 3, 1) := by decide +kernel
theorem dX7_used_20 : decode cX7_used 20 = .ok (.invokestatic 188, 3) := by decide +kernel
theorem dX7_used_23 : decode cX7_used 23 = .ok (.ifCond .ne 7, 3) := by decide +kernel
theorem dX7_used_26 : decode cX7_used 26 = .ok (.ldc2_w 167, 3) := by decide +kernel
theorem dX7_used_29 : decode cX7_used 29 = .ok (.lreturn, 1) := by decide +kernel
theorem dX7_used_30 : decode cX7_used 30 = .ok (.aload 4, 2) := by decide +kernel
theorem dX7_used_32 : decode cX7_used 32 = .ok (.getfield 226, 3) := by decide +kernel
theorem dX7_used_35 : decode cX7_used 35 = .ok (.iload_n 2, 1) := by decide +kernel
theorem dX7_used_36 : decode cX7_used 36 = .ok (.aaload, 1) := by decide +kernel
theorem dX7_used_37 : decode cX7_used 37 = .ok (.iload_n 3, 1) := by decide +kernel
theorem dX7_used_38 : decode cX7_used 38 = .ok (.laload, 1) := by decide +kernel
theorem dX7_used_39 : decode cX7_used 39 = .ok (.lreturn, 1) := by decide +kernel
theorem dX7_held_0 : decode cX7_held 0 = .ok (.aload_n 0, 1) := by decide +kernel
theorem dX7_held_1 : decode cX7_held 1 = .ok (.iload_n 1, 1) := by decide +kernel
theorem dX7_held_2 : decode cX7_held 2 = .ok (.invokevirtual 47, 3) := by decide +kernel
theorem dX7_held_5 : decode cX7_held 5 = .ok (.astore_n 3, 1) := by decide +kernel
theorem dX7_held_6 : decode cX7_held 6 = .ok (.aload_n 3, 1) := by decide +kernel
theorem dX7_held_7 : decode cX7_held 7 = .ok (.ifnull 10, 3) := by decide +kernel
theorem dX7_held_10 : decode cX7_held 10 = .ok (.iload_n 2, 1) := by decide +kernel
theorem dX7_held_11 : decode cX7_held 11 = .ok (.invokestatic 75, 3) := by decide +kernel
theorem dX7_held_14 : decode cX7_held 14 = .ok (.ifCond .ne 6, 3) := by decide +kernel
theorem dX7_held_17 : decode cX7_held 17 = .ok (.bipush (-2), 2) := by decide +kernel
theorem dX7_held_19 : decode cX7_held 19 = .ok (.ireturn, 1) := by decide +kernel
theorem dX7_held_20 : decode cX7_held 20 = .ok (.aload_n 3, 1) := by decide +kernel
theorem dX7_held_21 : decode cX7_held 21 = .ok (.getfield 230, 3) := by decide +kernel
theorem dX7_held_24 : decode cX7_held 24 = .ok (.iload_n 2, 1) := by decide +kernel
theorem dX7_held_25 : decode cX7_held 25 = .ok (.iaload, 1) := by decide +kernel
theorem dX7_held_26 : decode cX7_held 26 = .ok (.ireturn, 1) := by decide +kernel
theorem dX7_room_0 : decode cX7_room 0 = .ok (.aload_n 0, 1) := by decide +kernel
theorem dX7_room_1 : decode cX7_room 1 = .ok (.iload_n 1, 1) := by decide +kernel
theorem dX7_room_2 : decode cX7_room 2 = .ok (.invokevirtual 47, 3) := by decide +kernel
theorem dX7_room_5 : decode cX7_room 5 = .ok (.astore_n 3, 1) := by decide +kernel
theorem dX7_room_6 : decode cX7_room 6 = .ok (.aload_n 3, 1) := by decide +kernel
theorem dX7_room_7 : decode cX7_room 7 = .ok (.ifnull 10, 3) := by decide +kernel
theorem dX7_room_10 : decode cX7_room 10 = .ok (.iload_n 2, 1) := by decide +kernel
theorem dX7_room_11 : decode cX7_room 11 = .ok (.invokestatic 75, 3) := by decide +kernel
theorem dX7_room_14 : decode cX7_room 14 = .ok (.ifCond .ne 6, 3) := by decide +kernel
theorem dX7_room_17 : decode cX7_room 17 = .ok (.bipush (-2), 2) := by decide +kernel
theorem dX7_room_19 : decode cX7_room 19 = .ok (.ireturn, 1) := by decide +kernel
theorem dX7_room_20 : decode cX7_room 20 = .ok (.aload_n 3, 1) := by decide +kernel
theorem dX7_room_21 : decode cX7_room 21 = .ok (.iload_n 2, 1) := by decide +kernel
theorem dX7_room_22 : decode cX7_room 22 = .ok (.aload_n 0, 1) := by decide +kernel
theorem dX7_room_23 : decode cX7_room 23 = .ok (.getfield 65, 3) := by decide +kernel
theorem dX7_room_26 : decode cX7_room 26 = .ok (.sipush 1000, 3) := by decide +kernel
theorem dX7_room_29 : decode cX7_room 29 = .ok (.idiv, 1) := by decide +kernel
theorem dX7_room_30 : decode cX7_room 30 = .ok (.invokevirtual 105, 3) := by decide +kernel
theorem dX7_room_33 : decode cX7_room 33 = .ok (.ireturn, 1) := by decide +kernel
theorem dX7_hold_0 : decode cX7_hold 0 = .ok (.aload_n 0, 1) := by decide +kernel
theorem dX7_hold_1 : decode cX7_hold 1 = .ok (.iload_n 1, 1) := by decide +kernel
theorem dX7_hold_2 : decode cX7_hold 2 = .ok (.invokevirtual 233, 3) := by decide +kernel
theorem dX7_hold_5 : decode cX7_hold 5 = .ok (.astore_n 3, 1) := by decide +kernel
theorem dX7_hold_6 : decode cX7_hold 6 = .ok (.aload_n 3, 1) := by decide +kernel
theorem dX7_hold_7 : decode cX7_hold 7 = .ok (.ifnonnull 6, 3) := by decide +kernel
theorem dX7_hold_10 : decode cX7_hold 10 = .ok (.bipush (-2), 2) := by decide +kernel
theorem dX7_hold_12 : decode cX7_hold 12 = .ok (.ireturn, 1) := by decide +kernel
theorem dX7_hold_13 : decode cX7_hold 13 = .ok (.iload_n 2, 1) := by decide +kernel
theorem dX7_hold_14 : decode cX7_hold 14 = .ok (.tableswitch 70 0 4 #[34, 42, 47, 52, 57], 34) := by decide +kernel
theorem dX7_hold_48 : decode cX7_hold 48 = .ok (.aload_n 3, 1) := by decide +kernel
theorem dX7_hold_49 : decode cX7_hold 49 = .ok (.getfield 123, 3) := by decide +kernel
theorem dX7_hold_52 : decode cX7_hold 52 = .ok (.getfield 127, 3) := by decide +kernel
theorem dX7_hold_55 : decode cX7_hold 55 = .ok (.ireturn, 1) := by decide +kernel
theorem dX7_hold_56 : decode cX7_hold 56 = .ok (.aload_n 3, 1) := by decide +kernel
theorem dX7_hold_57 : decode cX7_hold 57 = .ok (.getfield 128, 3) := by decide +kernel
theorem dX7_hold_60 : decode cX7_hold 60 = .ok (.ireturn, 1) := by decide +kernel
theorem dX7_hold_61 : decode cX7_hold 61 = .ok (.aload_n 3, 1) := by decide +kernel
theorem dX7_hold_62 : decode cX7_hold 62 = .ok (.getfield 120, 3) := by decide +kernel
theorem dX7_hold_65 : decode cX7_hold 65 = .ok (.ireturn, 1) := by decide +kernel
theorem dX7_hold_66 : decode cX7_hold 66 = .ok (.aload_n 3, 1) := by decide +kernel
theorem dX7_hold_67 : decode cX7_hold 67 = .ok (.getfield 236, 3) := by decide +kernel
theorem dX7_hold_70 : decode cX7_hold 70 = .ok (.ireturn, 1) := by decide +kernel
theorem dX7_hold_71 : decode cX7_hold 71 = .ok (.aload_n 3, 1) := by decide +kernel
theorem dX7_hold_72 : decode cX7_hold 72 = .ok (.getfield 239, 3) := by decide +kernel
theorem dX7_hold_75 : decode cX7_hold 75 = .ok (.ifCond .eq 7, 3) := by decide +kernel
theorem dX7_hold_78 : decode cX7_hold 78 = .ok (.iconst 1, 1) := by decide +kernel
theorem dX7_hold_79 : decode cX7_hold 79 = .ok (.goto 4, 3) := by decide +kernel
theorem dX7_hold_82 : decode cX7_hold 82 = .ok (.iconst 0, 1) := by decide +kernel
theorem dX7_hold_83 : decode cX7_hold 83 = .ok (.ireturn, 1) := by decide +kernel
theorem dX7_hold_84 : decode cX7_hold 84 = .ok (.bipush (-2), 2) := by decide +kernel
theorem dX7_hold_86 : decode cX7_hold 86 = .ok (.ireturn, 1) := by decide +kernel
theorem dX7_line_0 : decode cX7_line 0 = .ok (.aload_n 0, 1) := by decide +kernel
theorem dX7_line_1 : decode cX7_line 1 = .ok (.iload_n 1, 1) := by decide +kernel
theorem dX7_line_2 : decode cX7_line 2 = .ok (.invokevirtual 243, 3) := by decide +kernel
theorem dX7_line_5 : decode cX7_line 5 = .ok (.astore 4, 2) := by decide +kernel
theorem dX7_line_7 : decode cX7_line 7 = .ok (.aload 4, 2) := by decide +kernel
theorem dX7_line_9 : decode cX7_line 9 = .ok (.ifnull 16, 3) := by decide +kernel
theorem dX7_line_12 : decode cX7_line 12 = .ok (.iload_n 2, 1) := by decide +kernel
theorem dX7_line_13 : decode cX7_line 13 = .ok (.ifCond .lt 12, 3) := by decide +kernel
theorem dX7_line_16 : decode cX7_line 16 = .ok (.iload_n 2, 1) := by decide +kernel
theorem dX7_line_17 : decode cX7_line 17 = .ok (.aload 4, 2) := by decide +kernel
theorem dX7_line_19 : decode cX7_line 19 = .ok (.getfield 247, 3) := by decide +kernel
theorem dX7_line_22 : decode cX7_line 22 = .ok (.if_icmp .lt 7, 3) := by decide +kernel
theorem dX7_line_25 : decode cX7_line 25 = .ok (.ldc2_w 167, 3) := by decide +kernel
theorem dX7_line_28 : decode cX7_line 28 = .ok (.lreturn, 1) := by decide +kernel
theorem dX7_line_29 : decode cX7_line 29 = .ok (.iload_n 3, 1) := by decide +kernel
theorem dX7_line_30 : decode cX7_line 30 = .ok (.tableswitch 64 0 3 #[30, 39, 48, 56], 30) := by decide +kernel
theorem dX7_line_60 : decode cX7_line 60 = .ok (.aload 4, 2) := by decide +kernel
theorem dX7_line_62 : decode cX7_line 62 = .ok (.getfield 250, 3) := by decide +kernel
theorem dX7_line_65 : decode cX7_line 65 = .ok (.iload_n 2, 1) := by decide +kernel
theorem dX7_line_66 : decode cX7_line 66 = .ok (.iaload, 1) := by decide +kernel
theorem dX7_line_67 : decode cX7_line 67 = .ok (.i2l, 1) := by decide +kernel
theorem dX7_line_68 : decode cX7_line 68 = .ok (.lreturn, 1) := by decide +kernel
theorem dX7_line_69 : decode cX7_line 69 = .ok (.aload 4, 2) := by decide +kernel
theorem dX7_line_71 : decode cX7_line 71 = .ok (.getfield 253, 3) := by decide +kernel
theorem dX7_line_74 : decode cX7_line 74 = .ok (.iload_n 2, 1) := by decide +kernel
theorem dX7_line_75 : decode cX7_line 75 = .ok (.iaload, 1) := by decide +kernel
theorem dX7_line_76 : decode cX7_line 76 = .ok (.i2l, 1) := by decide +kernel
theorem dX7_line_77 : decode cX7_line 77 = .ok (.lreturn, 1) := by decide +kernel
theorem dX7_line_78 : decode cX7_line 78 = .ok (.aload 4, 2) := by decide +kernel
theorem dX7_line_80 : decode cX7_line 80 = .ok (.getfield 256, 3) := by decide +kernel
theorem dX7_line_83 : decode cX7_line 83 = .ok (.iload_n 2, 1) := by decide +kernel
theorem dX7_line_84 : decode cX7_line 84 = .ok (.laload, 1) := by decide +kernel
theorem dX7_line_85 : decode cX7_line 85 = .ok (.lreturn, 1) := by decide +kernel
theorem dX7_line_86 : decode cX7_line 86 = .ok (.aload 4, 2) := by decide +kernel
theorem dX7_line_88 : decode cX7_line 88 = .ok (.getfield 260, 3) := by decide +kernel
theorem dX7_line_91 : decode cX7_line 91 = .ok (.iload_n 2, 1) := by decide +kernel
theorem dX7_line_92 : decode cX7_line 92 = .ok (.laload, 1) := by decide +kernel
theorem dX7_line_93 : decode cX7_line 93 = .ok (.lreturn, 1) := by decide +kernel
theorem dX7_line_94 : decode cX7_line 94 = .ok (.ldc2_w 167, 3) := by decide +kernel
theorem dX7_line_97 : decode cX7_line 97 = .ok (.lreturn, 1) := by decide +kernel
theorem dX7_invoice_0 : decode cX7_invoice 0 = .ok (.aload_n 0, 1) := by decide +kernel
theorem dX7_invoice_1 : decode cX7_invoice 1 = .ok (.iload_n 1, 1) := by decide +kernel
theorem dX7_invoice_2 : decode cX7_invoice 2 = .ok (.invokevirtual 243, 3) := by decide +kernel
theorem dX7_invoice_5 : decode cX7_invoice 5 = .ok (.astore_n 3, 1) := by decide +kernel
theorem dX7_invoice_6 : decode cX7_invoice 6 = .ok (.aload_n 3, 1) := by decide +kernel
theorem dX7_invoice_7 : decode cX7_invoice 7 = .ok (.ifnonnull 7, 3) := by decide +kernel
theorem dX7_invoice_10 : decode cX7_invoice 10 = .ok (.ldc2_w 167, 3) := by decide +kernel
theorem dX7_invoice_13 : decode cX7_invoice 13 = .ok (.lreturn, 1) := by decide +kernel
theorem dX7_invoice_14 : decode cX7_invoice 14 = .ok (.iload_n 2, 1) := by decide +kernel
theorem dX7_invoice_15 : decode cX7_invoice 15 = .ok (.tableswitch 52 0 3 #[29, 35, 41, 47], 29) := by decide +kernel
theorem dX7_invoice_44 : decode cX7_invoice 44 = .ok (.aload_n 3, 1) := by decide +kernel
theorem dX7_invoice_45 : decode cX7_invoice 45 = .ok (.getfield 263, 3) := by decide +kernel
theorem dX7_invoice_48 : decode cX7_invoice 48 = .ok (.i2l, 1) := by decide +kernel
theorem dX7_invoice_49 : decode cX7_invoice 49 = .ok (.lreturn, 1) := by decide +kernel
theorem dX7_invoice_50 : decode cX7_invoice 50 = .ok (.aload_n 3, 1) := by decide +kernel
theorem dX7_invoice_51 : decode cX7_invoice 51 = .ok (.getfield 266, 3) := by decide +kernel
theorem dX7_invoice_54 : decode cX7_invoice 54 = .ok (.i2l, 1) := by decide +kernel
theorem dX7_invoice_55 : decode cX7_invoice 55 = .ok (.lreturn, 1) := by decide +kernel
theorem dX7_invoice_56 : decode cX7_invoice 56 = .ok (.aload_n 3, 1) := by decide +kernel
theorem dX7_invoice_57 : decode cX7_invoice 57 = .ok (.getfield 247, 3) := by decide +kernel
theorem dX7_invoice_60 : decode cX7_invoice 60 = .ok (.i2l, 1) := by decide +kernel
theorem dX7_invoice_61 : decode cX7_invoice 61 = .ok (.lreturn, 1) := by decide +kernel
theorem dX7_invoice_62 : decode cX7_invoice 62 = .ok (.aload_n 3, 1) := by decide +kernel
theorem dX7_invoice_63 : decode cX7_invoice 63 = .ok (.getfield 269, 3) := by decide +kernel
theorem dX7_invoice_66 : decode cX7_invoice 66 = .ok (.lreturn, 1) := by decide +kernel
theorem dX7_invoice_67 : decode cX7_invoice 67 = .ok (.ldc2_w 167, 3) := by decide +kernel
theorem dX7_invoice_70 : decode cX7_invoice 70 = .ok (.lreturn, 1) := by decide +kernel
theorem dX7_left_0 : decode cX7_left 0 = .ok (.aload_n 0, 1) := by decide +kernel
theorem dX7_left_1 : decode cX7_left 1 = .ok (.iload_n 1, 1) := by decide +kernel
theorem dX7_left_2 : decode cX7_left 2 = .ok (.invokevirtual 43, 3) := by decide +kernel
theorem dX7_left_5 : decode cX7_left 5 = .ok (.astore_n 3, 1) := by decide +kernel
theorem dX7_left_6 : decode cX7_left 6 = .ok (.aload_n 3, 1) := by decide +kernel
theorem dX7_left_7 : decode cX7_left 7 = .ok (.ifnull 18, 3) := by decide +kernel
theorem dX7_left_10 : decode cX7_left 10 = .ok (.iload_n 2, 1) := by decide +kernel
theorem dX7_left_11 : decode cX7_left 11 = .ok (.ifCond .lt 14, 3) := by decide +kernel
theorem dX7_left_14 : decode cX7_left 14 = .ok (.iload_n 2, 1) := by decide +kernel
theorem dX7_left_15 : decode cX7_left 15 = .ok (.aload_n 3, 1) := by decide +kernel
theorem dX7_left_16 : decode cX7_left 16 = .ok (.getfield 194, 3) := by decide +kernel
theorem dX7_left_19 : decode cX7_left 19 = .ok (.getfield 272, 3) := by decide +kernel
theorem dX7_left_22 : decode cX7_left 22 = .ok (.if_icmp .lt 7, 3) := by decide +kernel
theorem dX7_left_25 : decode cX7_left 25 = .ok (.ldc2_w 167, 3) := by decide +kernel
theorem dX7_left_28 : decode cX7_left 28 = .ok (.lreturn, 1) := by decide +kernel
theorem dX7_left_29 : decode cX7_left 29 = .ok (.aload_n 3, 1) := by decide +kernel
theorem dX7_left_30 : decode cX7_left 30 = .ok (.getfield 194, 3) := by decide +kernel
theorem dX7_left_33 : decode cX7_left 33 = .ok (.getfield 275, 3) := by decide +kernel
theorem dX7_left_36 : decode cX7_left 36 = .ok (.iload_n 2, 1) := by decide +kernel
theorem dX7_left_37 : decode cX7_left 37 = .ok (.laload, 1) := by decide +kernel
theorem dX7_left_38 : decode cX7_left 38 = .ok (.lreturn, 1) := by decide +kernel
theorem dX7_count_0 : decode cX7_count 0 = .ok (.iload_n 1, 1) := by decide +kernel
theorem dX7_count_1 : decode cX7_count 1 = .ok (.tableswitch 63 0 4 #[35, 40, 45, 53, 58], 35) := by decide +kernel
theorem dX7_count_36 : decode cX7_count 36 = .ok (.aload_n 0, 1) := by decide +kernel
theorem dX7_count_37 : decode cX7_count 37 = .ok (.getfield 65, 3) := by decide +kernel
theorem dX7_count_40 : decode cX7_count 40 = .ok (.ireturn, 1) := by decide +kernel
theorem dX7_count_41 : decode cX7_count 41 = .ok (.aload_n 0, 1) := by decide +kernel
theorem dX7_count_42 : decode cX7_count 42 = .ok (.getfield 59, 3) := by decide +kernel
theorem dX7_count_45 : decode cX7_count 45 = .ok (.ireturn, 1) := by decide +kernel
theorem dX7_count_46 : decode cX7_count 46 = .ok (.aload_n 0, 1) := by decide +kernel
theorem dX7_count_47 : decode cX7_count 47 = .ok (.getfield 36, 3) := by decide +kernel
theorem dX7_count_50 : decode cX7_count 50 = .ok (.getfield 278, 3) := by decide +kernel
theorem dX7_count_53 : decode cX7_count 53 = .ok (.ireturn, 1) := by decide +kernel
theorem dX7_count_54 : decode cX7_count 54 = .ok (.aload_n 0, 1) := by decide +kernel
theorem dX7_count_55 : decode cX7_count 55 = .ok (.getfield 99, 3) := by decide +kernel
theorem dX7_count_58 : decode cX7_count 58 = .ok (.ireturn, 1) := by decide +kernel
theorem dX7_count_59 : decode cX7_count 59 = .ok (.aload_n 0, 1) := by decide +kernel
theorem dX7_count_60 : decode cX7_count 60 = .ok (.getfield 204, 3) := by decide +kernel
theorem dX7_count_63 : decode cX7_count 63 = .ok (.ireturn, 1) := by decide +kernel
theorem dX7_count_64 : decode cX7_count 64 = .ok (.bipush (-2), 2) := by decide +kernel
theorem dX7_count_66 : decode cX7_count 66 = .ok (.ireturn, 1) := by decide +kernel
theorem dX7_closed_0 : decode cX7_closed 0 = .ok (.aload_n 0, 1) := by decide +kernel
theorem dX7_closed_1 : decode cX7_closed 1 = .ok (.iload_n 1, 1) := by decide +kernel
theorem dX7_closed_2 : decode cX7_closed 2 = .ok (.invokevirtual 43, 3) := by decide +kernel
theorem dX7_closed_5 : decode cX7_closed 5 = .ok (.astore_n 2, 1) := by decide +kernel
theorem dX7_closed_6 : decode cX7_closed 6 = .ok (.aload_n 2, 1) := by decide +kernel
theorem dX7_closed_7 : decode cX7_closed 7 = .ok (.ifnonnull 8, 3) := by decide +kernel
theorem dX7_closed_10 : decode cX7_closed 10 = .ok (.bipush (-2), 2) := by decide +kernel
theorem dX7_closed_12 : decode cX7_closed 12 = .ok (.goto 7, 3) := by decide +kernel
theorem dX7_closed_15 : decode cX7_closed 15 = .ok (.aload_n 2, 1) := by decide +kernel
theorem dX7_closed_16 : decode cX7_closed 16 = .ok (.getfield 191, 3) := by decide +kernel
theorem dX7_closed_19 : decode cX7_closed 19 = .ok (.ireturn, 1) := by decide +kernel
theorem dX7_isResource_0 : decode cX7_isResource 0 = .ok (.iload_n 0, 1) := by decide +kernel
theorem dX7_isResource_1 : decode cX7_isResource 1 = .ok (.ifCond .lt 12, 3) := by decide +kernel
theorem dX7_isResource_4 : decode cX7_isResource 4 = .ok (.iload_n 0, 1) := by decide +kernel
theorem dX7_isResource_5 : decode cX7_isResource 5 = .ok (.iconst 4, 1) := by decide +kernel
theorem dX7_isResource_6 : decode cX7_isResource 6 = .ok (.if_icmp .ge 7, 3) := by decide +kernel
theorem dX7_isResource_9 : decode cX7_isResource 9 = .ok (.iconst 1, 1) := by decide +kernel
theorem dX7_isResource_10 : decode cX7_isResource 10 = .ok (.goto 4, 3) := by decide +kernel
theorem dX7_isResource_13 : decode cX7_isResource 13 = .ok (.iconst 0, 1) := by decide +kernel
theorem dX7_isResource_14 : decode cX7_isResource 14 = .ok (.ireturn, 1) := by decide +kernel
theorem dX7_isPeriod_0 : decode cX7_isPeriod 0 = .ok (.iload_n 0, 1) := by decide +kernel
theorem dX7_isPeriod_1 : decode cX7_isPeriod 1 = .ok (.ifCond .lt 13, 3) := by decide +kernel
theorem dX7_isPeriod_4 : decode cX7_isPeriod 4 = .ok (.iload_n 0, 1) := by decide +kernel
theorem dX7_isPeriod_5 : decode cX7_isPeriod 5 = .ok (.bipush 100, 2) := by decide +kernel
theorem dX7_isPeriod_7 : decode cX7_isPeriod 7 = .ok (.if_icmp .ge 7, 3) := by decide +kernel
theorem dX7_isPeriod_10 : decode cX7_isPeriod 10 = .ok (.iconst 1, 1) := by decide +kernel
theorem dX7_isPeriod_11 : decode cX7_isPeriod 11 = .ok (.goto 4, 3) := by decide +kernel
theorem dX7_isPeriod_14 : decode cX7_isPeriod 14 = .ok (.iconst 0, 1) := by decide +kernel
theorem dX7_isPeriod_15 : decode cX7_isPeriod 15 = .ok (.ireturn, 1) := by decide +kernel
theorem dX7_isUnits_0 : decode cX7_isUnits 0 = .ok (.iload_n 0, 1) := by decide +kernel
theorem dX7_isUnits_1 : decode cX7_isUnits 1 = .ok (.iconst 1, 1) := by decide +kernel
theorem dX7_isUnits_2 : decode cX7_isUnits 2 = .ok (.if_icmp .lt 13, 3) := by decide +kernel
theorem dX7_isUnits_5 : decode cX7_isUnits 5 = .ok (.iload_n 0, 1) := by decide +kernel
theorem dX7_isUnits_6 : decode cX7_isUnits 6 = .ok (.ldc 154, 2) := by decide +kernel
theorem dX7_isUnits_8 : decode cX7_isUnits 8 = .ok (.if_icmp .gt 7, 3) := by decide +kernel
theorem dX7_isUnits_11 : decode cX7_isUnits 11 = .ok (.iconst 1, 1) := by decide +kernel
theorem dX7_isUnits_12 : decode cX7_isUnits 12 = .ok (.goto 4, 3) := by decide +kernel
theorem dX7_isUnits_15 : decode cX7_isUnits 15 = .ok (.iconst 0, 1) := by decide +kernel
theorem dX7_isUnits_16 : decode cX7_isUnits 16 = .ok (.ireturn, 1) := by decide +kernel
theorem dX7_isRate_0 : decode cX7_isRate 0 = .ok (.iload_n 0, 1) := by decide +kernel
theorem dX7_isRate_1 : decode cX7_isRate 1 = .ok (.ifCond .lt 14, 3) := by decide +kernel
theorem dX7_isRate_4 : decode cX7_isRate 4 = .ok (.iload_n 0, 1) := by decide +kernel
theorem dX7_isRate_5 : decode cX7_isRate 5 = .ok (.sipush 10000, 3) := by decide +kernel
theorem dX7_isRate_8 : decode cX7_isRate 8 = .ok (.if_icmp .gt 7, 3) := by decide +kernel
theorem dX7_isRate_11 : decode cX7_isRate 11 = .ok (.iconst 1, 1) := by decide +kernel
theorem dX7_isRate_12 : decode cX7_isRate 12 = .ok (.goto 4, 3) := by decide +kernel
theorem dX7_isRate_15 : decode cX7_isRate 15 = .ok (.iconst 0, 1) := by decide +kernel
theorem dX7_isRate_16 : decode cX7_isRate 16 = .ok (.ireturn, 1) := by decide +kernel
theorem dX7_tenantAt_0 : decode cX7_tenantAt 0 = .ok (.iload_n 1, 1) := by decide +kernel
theorem dX7_tenantAt_1 : decode cX7_tenantAt 1 = .ok (.ifCond .lt 18, 3) := by decide +kernel
theorem dX7_tenantAt_4 : decode cX7_tenantAt 4 = .ok (.iload_n 1, 1) := by decide +kernel
theorem dX7_tenantAt_5 : decode cX7_tenantAt 5 = .ok (.bipush 6, 2) := by decide +kernel
theorem dX7_tenantAt_7 : decode cX7_tenantAt 7 = .ok (.if_icmp .ge 12, 3) := by decide +kernel
theorem dX7_tenantAt_10 : decode cX7_tenantAt 10 = .ok (.aload_n 0, 1) := by decide +kernel
theorem dX7_tenantAt_11 : decode cX7_tenantAt 11 = .ok (.getfield 11, 3) := by decide +kernel
theorem dX7_tenantAt_14 : decode cX7_tenantAt 14 = .ok (.iload_n 1, 1) := by decide +kernel
theorem dX7_tenantAt_15 : decode cX7_tenantAt 15 = .ok (.aaload, 1) := by decide +kernel
theorem dX7_tenantAt_16 : decode cX7_tenantAt 16 = .ok (.goto 4, 3) := by decide +kernel
theorem dX7_tenantAt_19 : decode cX7_tenantAt 19 = .ok (.aconst_null, 1) := by decide +kernel
theorem dX7_tenantAt_20 : decode cX7_tenantAt 20 = .ok (.areturn, 1) := by decide +kernel
theorem dX7_accountAt_0 : decode cX7_accountAt 0 = .ok (.iload_n 1, 1) := by decide +kernel
theorem dX7_accountAt_1 : decode cX7_accountAt 1 = .ok (.ifCond .lt 20, 3) := by decide +kernel
theorem dX7_accountAt_4 : decode cX7_accountAt 4 = .ok (.iload_n 1, 1) := by decide +kernel
theorem dX7_accountAt_5 : decode cX7_accountAt 5 = .ok (.aload_n 0, 1) := by decide +kernel
theorem dX7_accountAt_6 : decode cX7_accountAt 6 = .ok (.getfield 59, 3) := by decide +kernel
theorem dX7_accountAt_9 : decode cX7_accountAt 9 = .ok (.if_icmp .ge 12, 3) := by decide +kernel
theorem dX7_accountAt_12 : decode cX7_accountAt 12 = .ok (.aload_n 0, 1) := by decide +kernel
theorem dX7_accountAt_13 : decode cX7_accountAt 13 = .ok (.getfield 17, 3) := by decide +kernel
theorem dX7_accountAt_16 : decode cX7_accountAt 16 = .ok (.iload_n 1, 1) := by decide +kernel
theorem dX7_accountAt_17 : decode cX7_accountAt 17 = .ok (.aaload, 1) := by decide +kernel
theorem dX7_accountAt_18 : decode cX7_accountAt 18 = .ok (.goto 4, 3) := by decide +kernel
theorem dX7_accountAt_21 : decode cX7_accountAt 21 = .ok (.aconst_null, 1) := by decide +kernel
theorem dX7_accountAt_22 : decode cX7_accountAt 22 = .ok (.areturn, 1) := by decide +kernel
theorem dX7_holdAt_0 : decode cX7_holdAt 0 = .ok (.iload_n 1, 1) := by decide +kernel
theorem dX7_holdAt_1 : decode cX7_holdAt 1 = .ok (.ifCond .lt 20, 3) := by decide +kernel
theorem dX7_holdAt_4 : decode cX7_holdAt 4 = .ok (.iload_n 1, 1) := by decide +kernel
theorem dX7_holdAt_5 : decode cX7_holdAt 5 = .ok (.aload_n 0, 1) := by decide +kernel
theorem dX7_holdAt_6 : decode cX7_holdAt 6 = .ok (.getfield 102, 3) := by decide +kernel
theorem dX7_holdAt_9 : decode cX7_holdAt 9 = .ok (.if_icmp .ge 12, 3) := by decide +kernel
theorem dX7_holdAt_12 : decode cX7_holdAt 12 = .ok (.aload_n 0, 1) := by decide +kernel
theorem dX7_holdAt_13 : decode cX7_holdAt 13 = .ok (.getfield 23, 3) := by decide +kernel
theorem dX7_holdAt_16 : decode cX7_holdAt 16 = .ok (.iload_n 1, 1) := by decide +kernel
theorem dX7_holdAt_17 : decode cX7_holdAt 17 = .ok (.aaload, 1) := by decide +kernel
theorem dX7_holdAt_18 : decode cX7_holdAt 18 = .ok (.goto 4, 3) := by decide +kernel
theorem dX7_holdAt_21 : decode cX7_holdAt 21 = .ok (.aconst_null, 1) := by decide +kernel
theorem dX7_holdAt_22 : decode cX7_holdAt 22 = .ok (.areturn, 1) := by decide +kernel
theorem dX7_openHoldAt_0 : decode cX7_openHoldAt 0 = .ok (.aload_n 0, 1) := by decide +kernel
theorem dX7_openHoldAt_1 : decode cX7_openHoldAt 1 = .ok (.iload_n 1, 1) := by decide +kernel
theorem dX7_openHoldAt_2 : decode cX7_openHoldAt 2 = .ok (.invokevirtual 233, 3) := by decide +kernel
theorem dX7_openHoldAt_5 : decode cX7_openHoldAt 5 = .ok (.astore_n 2, 1) := by decide +kernel
theorem dX7_openHoldAt_6 : decode cX7_openHoldAt 6 = .ok (.aload_n 2, 1) := by decide +kernel
theorem dX7_openHoldAt_7 : decode cX7_openHoldAt 7 = .ok (.ifnull 14, 3) := by decide +kernel
theorem dX7_openHoldAt_10 : decode cX7_openHoldAt 10 = .ok (.aload_n 2, 1) := by decide +kernel
theorem dX7_openHoldAt_11 : decode cX7_openHoldAt 11 = .ok (.getfield 239, 3) := by decide +kernel
theorem dX7_openHoldAt_14 : decode cX7_openHoldAt 14 = .ok (.ifCond .eq 7, 3) := by decide +kernel
theorem dX7_openHoldAt_17 : decode cX7_openHoldAt 17 = .ok (.aload_n 2, 1) := by decide +kernel
theorem dX7_openHoldAt_18 : decode cX7_openHoldAt 18 = .ok (.goto 4, 3) := by decide +kernel
theorem dX7_openHoldAt_21 : decode cX7_openHoldAt 21 = .ok (.aconst_null, 1) := by decide +kernel
theorem dX7_openHoldAt_22 : decode cX7_openHoldAt 22 = .ok (.areturn, 1) := by decide +kernel
theorem dX7_invoiceAt_0 : decode cX7_invoiceAt 0 = .ok (.iload_n 1, 1) := by decide +kernel
theorem dX7_invoiceAt_1 : decode cX7_invoiceAt 1 = .ok (.ifCond .lt 20, 3) := by decide +kernel
theorem dX7_invoiceAt_4 : decode cX7_invoiceAt 4 = .ok (.iload_n 1, 1) := by decide +kernel
theorem dX7_invoiceAt_5 : decode cX7_invoiceAt 5 = .ok (.aload_n 0, 1) := by decide +kernel
theorem dX7_invoiceAt_6 : decode cX7_invoiceAt 6 = .ok (.getfield 204, 3) := by decide +kernel
theorem dX7_invoiceAt_9 : decode cX7_invoiceAt 9 = .ok (.if_icmp .ge 12, 3) := by decide +kernel
theorem dX7_invoiceAt_12 : decode cX7_invoiceAt 12 = .ok (.aload_n 0, 1) := by decide +kernel
theorem dX7_invoiceAt_13 : decode cX7_invoiceAt 13 = .ok (.getfield 29, 3) := by decide +kernel
theorem dX7_invoiceAt_16 : decode cX7_invoiceAt 16 = .ok (.iload_n 1, 1) := by decide +kernel
theorem dX7_invoiceAt_17 : decode cX7_invoiceAt 17 = .ok (.aaload, 1) := by decide +kernel
theorem dX7_invoiceAt_18 : decode cX7_invoiceAt 18 = .ok (.goto 4, 3) := by decide +kernel
theorem dX7_invoiceAt_21 : decode cX7_invoiceAt 21 = .ok (.aconst_null, 1) := by decide +kernel
theorem dX7_invoiceAt_22 : decode cX7_invoiceAt 22 = .ok (.areturn, 1) := by decide +kernel
theorem dX7_pricesAt_0 : decode cX7_pricesAt 0 = .ok (.aload_n 0, 1) := by decide +kernel
theorem dX7_pricesAt_1 : decode cX7_pricesAt 1 = .ok (.iload_n 1, 1) := by decide +kernel
theorem dX7_pricesAt_2 : decode cX7_pricesAt 2 = .ok (.invokevirtual 43, 3) := by decide +kernel
theorem dX7_pricesAt_5 : decode cX7_pricesAt 5 = .ok (.astore_n 3, 1) := by decide +kernel
theorem dX7_pricesAt_6 : decode cX7_pricesAt 6 = .ok (.aload_n 3, 1) := by decide +kernel
theorem dX7_pricesAt_7 : decode cX7_pricesAt 7 = .ok (.ifnull 19, 3) := by decide +kernel
theorem dX7_pricesAt_10 : decode cX7_pricesAt 10 = .ok (.iload_n 2, 1) := by decide +kernel
theorem dX7_pricesAt_11 : decode cX7_pricesAt 11 = .ok (.invokestatic 75, 3) := by decide +kernel
theorem dX7_pricesAt_14 : decode cX7_pricesAt 14 = .ok (.ifCond .eq 12, 3) := by decide +kernel
theorem dX7_pricesAt_17 : decode cX7_pricesAt 17 = .ok (.aload_n 3, 1) := by decide +kernel
theorem dX7_pricesAt_18 : decode cX7_pricesAt 18 = .ok (.getfield 281, 3) := by decide +kernel
theorem dX7_pricesAt_21 : decode cX7_pricesAt 21 = .ok (.iload_n 2, 1) := by decide +kernel
theorem dX7_pricesAt_22 : decode cX7_pricesAt 22 = .ok (.aaload, 1) := by decide +kernel
theorem dX7_pricesAt_23 : decode cX7_pricesAt 23 = .ok (.goto 4, 3) := by decide +kernel
theorem dX7_pricesAt_26 : decode cX7_pricesAt 26 = .ok (.aconst_null, 1) := by decide +kernel
theorem dX7_pricesAt_27 : decode cX7_pricesAt 27 = .ok (.areturn, 1) := by decide +kernel
theorem dX7_countUnits_0 : decode cX7_countUnits 0 = .ok (.iload 4, 2) := by decide +kernel
theorem dX7_countUnits_2 : decode cX7_countUnits 2 = .ok (.aload_n 1, 1) := by decide +kernel
theorem dX7_countUnits_3 : decode cX7_countUnits 3 = .ok (.getfield 51, 3) := by decide +kernel
theorem dX7_countUnits_6 : decode cX7_countUnits 6 = .ok (.getfield 191, 3) := by decide +kernel
theorem dX7_countUnits_9 : decode cX7_countUnits 9 = .ok (.if_icmp .ge 7, 3) := by decide +kernel
theorem dX7_countUnits_12 : decode cX7_countUnits 12 = .ok (.iconst 1, 1) := by decide +kernel
theorem dX7_countUnits_13 : decode cX7_countUnits 13 = .ok (.goto 4, 3) := by decide +kernel
theorem dX7_countUnits_16 : decode cX7_countUnits 16 = .ok (.iconst 0, 1) := by decide +kernel
theorem dX7_countUnits_17 : decode cX7_countUnits 17 = .ok (.istore 5, 2) := by decide +kernel
theorem dX7_countUnits_19 : decode cX7_countUnits 19 = .ok (.iload 5, 2) := by decide +kernel
theorem dX7_countUnits_21 : decode cX7_countUnits 21 = .ok (.ifCond .eq 23, 3) := by decide +kernel
theorem dX7_countUnits_24 : decode cX7_countUnits 24 = .ok (.aload_n 1, 1) := by decide +kernel
theorem dX7_countUnits_25 : decode cX7_countUnits 25 = .ok (.getfield 51, 3) := by decide +kernel
theorem dX7_countUnits_28 : decode cX7_countUnits 28 = .ok (.iload_n 2, 1) := by decide +kernel
theorem dX7_countUnits_29 : decode cX7_countUnits 29 = .ok (.aload_n 0, 1) := by decide +kernel
theorem dX7_countUnits_30 : decode cX7_countUnits 30 = .ok (.aload_n 1, 1) := by decide +kernel
theorem dX7_countUnits_31 : decode cX7_countUnits 31 = .ok (.getfield 51, 3) := by decide +kernel
theorem dX7_countUnits_34 : decode cX7_countUnits 34 = .ok (.iload_n 2, 1) := by decide +kernel
theorem dX7_countUnits_35 : decode cX7_countUnits 35 = .ok (.iload 4, 2) := by decide +kernel
theorem dX7_countUnits_37 : decode cX7_countUnits 37 = .ok (.invokevirtual 285, 3) := by decide +kernel
theorem dX7_countUnits_40 : decode cX7_countUnits 40 = .ok (.iload_n 3, 1) := by decide +kernel
theorem dX7_countUnits_41 : decode cX7_countUnits 41 = .ok (.invokevirtual 289, 3) := by decide +kernel
theorem dX7_countUnits_44 : decode cX7_countUnits 44 = .ok (.aload_n 1, 1) := by decide +kernel
theorem dX7_countUnits_45 : decode cX7_countUnits 45 = .ok (.iload_n 2, 1) := by decide +kernel
theorem dX7_countUnits_46 : decode cX7_countUnits 46 = .ok (.iload 4, 2) := by decide +kernel
theorem dX7_countUnits_48 : decode cX7_countUnits 48 = .ok (.iload_n 3, 1) := by decide +kernel
theorem dX7_countUnits_49 : decode cX7_countUnits 49 = .ok (.invokevirtual 293, 3) := by decide +kernel
theorem dX7_countUnits_52 : decode cX7_countUnits 52 = .ok (.iload 5, 2) := by decide +kernel
theorem dX7_countUnits_54 : decode cX7_countUnits 54 = .ok (.ifCond .eq 7, 3) := by decide +kernel
theorem dX7_countUnits_57 : decode cX7_countUnits 57 = .ok (.iconst 1, 1) := by decide +kernel
theorem dX7_countUnits_58 : decode cX7_countUnits 58 = .ok (.goto 4, 3) := by decide +kernel
theorem dX7_countUnits_61 : decode cX7_countUnits 61 = .ok (.iconst 0, 1) := by decide +kernel
theorem dX7_countUnits_62 : decode cX7_countUnits 62 = .ok (.ireturn, 1) := by decide +kernel
theorem dX7_quantityOf_0 : decode cX7_quantityOf 0 = .ok (.lconst 0, 1) := by decide +kernel
theorem dX7_quantityOf_1 : decode cX7_quantityOf 1 = .ok (.lstore 4, 2) := by decide +kernel
theorem dX7_quantityOf_3 : decode cX7_quantityOf 3 = .ok (.iconst 0, 1) := by decide +kernel
theorem dX7_quantityOf_4 : decode cX7_quantityOf 4 = .ok (.istore 6, 2) := by decide +kernel
theorem dX7_quantityOf_6 : decode cX7_quantityOf 6 = .ok (.iload 6, 2) := by decide +kernel
theorem dX7_quantityOf_8 : decode cX7_quantityOf 8 = .ok (.aload_n 0, 1) := by decide +kernel
theorem dX7_quantityOf_9 : decode cX7_quantityOf 9 = .ok (.getfield 59, 3) := by decide +kernel
theorem dX7_quantityOf_12 : decode cX7_quantityOf 12 = .ok (.if_icmp .ge 60, 3) := by decide +kernel
theorem dX7_quantityOf_15 : decode cX7_quantityOf 15 = .ok (.aload_n 0, 1) := by decide +kernel
theorem dX7_quantityOf_16 : decode cX7_quantityOf 16 = .ok (.getfield 17, 3) := by decide +kernel
theorem dX7_quantityOf_19 : decode cX7_quantityOf 19 = .ok (.iload 6, 2) := by decide +kernel
theorem dX7_quantityOf_21 : decode cX7_quantityOf 21 = .ok (.aaload, 1) := by decide +kernel
theorem dX7_quantityOf_22 : decode cX7_quantityOf 22 = .ok (.astore 7, 2) := by decide +kernel
theorem dX7_quantityOf_24 : decode cX7_quantityOf 24 = .ok (.aload 7, 2) := by decide +kernel
theorem dX7_quantityOf_26 : decode cX7_quantityOf 26 = .ok (.ifnull 40, 3) := by decide +kernel
theorem dX7_quantityOf_29 : decode cX7_quantityOf 29 = .ok (.aload 7, 2) := by decide +kernel
theorem dX7_quantityOf_31 : decode cX7_quantityOf 31 = .ok (.getfield 297, 3) := by decide +kernel
theorem dX7_quantityOf_34 : decode cX7_quantityOf 34 = .ok (.ifnonnull 32, 3) := by decide +kernel
theorem dX7_quantityOf_37 : decode cX7_quantityOf 37 = .ok (.aload 7, 2) := by decide +kernel
theorem dX7_quantityOf_39 : decode cX7_quantityOf 39 = .ok (.getfield 51, 3) := by decide +kernel
theorem dX7_quantityOf_42 : decode cX7_quantityOf 42 = .ok (.getfield 55, 3) := by decide +kernel
theorem dX7_quantityOf_45 : decode cX7_quantityOf 45 = .ok (.aload_n 1, 1) := by decide +kernel
theorem dX7_quantityOf_46 : decode cX7_quantityOf 46 = .ok (.getfield 55, 3) := by decide +kernel
theorem dX7_quantityOf_49 : decode cX7_quantityOf 49 = .ok (.if_icmp .ne 17, 3) := by decide +kernel
theorem dX7_quantityOf_52 : decode cX7_quantityOf 52 = .ok (.lload 4, 2) := by decide +kernel
theorem dX7_quantityOf_54 : decode cX7_quantityOf 54 = .ok (.aload 7, 2) := by decide +kernel
theorem dX7_quantityOf_56 : decode cX7_quantityOf 56 = .ok (.getfield 226, 3) := by decide +kernel
theorem dX7_quantityOf_59 : decode cX7_quantityOf 59 = .ok (.iload_n 2, 1) := by decide +kernel
theorem dX7_quantityOf_60 : decode cX7_quantityOf 60 = .ok (.aaload, 1) := by decide +kernel
theorem dX7_quantityOf_61 : decode cX7_quantityOf 61 = .ok (.iload_n 3, 1) := by decide +kernel
theorem dX7_quantityOf_62 : decode cX7_quantityOf 62 = .ok (.laload, 1) := by decide +kernel
theorem dX7_quantityOf_63 : decode cX7_quantityOf 63 = .ok (.ladd, 1) := by decide +kernel
theorem dX7_quantityOf_64 : decode cX7_quantityOf 64 = .ok (.lstore 4, 2) := by decide +kernel
theorem dX7_quantityOf_66 : decode cX7_quantityOf 66 = .ok (.iinc 6 1, 3) := by decide +kernel
theorem dX7_quantityOf_69 : decode cX7_quantityOf 69 = .ok (.goto (-63), 3) := by decide +kernel
theorem dX7_quantityOf_72 : decode cX7_quantityOf 72 = .ok (.lload 4, 2) := by decide +kernel
theorem dX7_quantityOf_74 : decode cX7_quantityOf 74 = .ok (.lreturn, 1) := by decide +kernel
theorem dX7_billUsage_0 : decode cX7_billUsage 0 = .ok (.iconst 0, 1) := by decide +kernel
theorem dX7_billUsage_1 : decode cX7_billUsage 1 = .ok (.istore_n 3, 1) := by decide +kernel
theorem dX7_billUsage_2 : decode cX7_billUsage 2 = .ok (.iload_n 3, 1) := by decide +kernel
theorem dX7_billUsage_3 : decode cX7_billUsage 3 = .ok (.iconst 4, 1) := by decide +kernel
theorem dX7_billUsage_4 : decode cX7_billUsage 4 = .ok (.if_icmp .ge 47, 3) := by decide +kernel
theorem dX7_billUsage_7 : decode cX7_billUsage 7 = .ok (.aload_n 0, 1) := by decide +kernel
theorem dX7_billUsage_8 : decode cX7_billUsage 8 = .ok (.aload_n 2, 1) := by decide +kernel
theorem dX7_billUsage_9 : decode cX7_billUsage 9 = .ok (.iload_n 3, 1) := by decide +kernel
theorem dX7_billUsage_10 : decode cX7_billUsage 10 = .ok (.aload_n 1, 1) := by decide +kernel
theorem dX7_billUsage_11 : decode cX7_billUsage 11 = .ok (.getfield 266, 3) := by decide +kernel
theorem dX7_billUsage_14 : decode cX7_billUsage 14 = .ok (.invokevirtual 285, 3) := by decide +kernel
theorem dX7_billUsage_17 : decode cX7_billUsage 17 = .ok (.lstore 4, 2) := by decide +kernel
theorem dX7_billUsage_19 : decode cX7_billUsage 19 = .ok (.lload 4, 2) := by decide +kernel
theorem dX7_billUsage_21 : decode cX7_billUsage 21 = .ok (.lconst 0, 1) := by decide +kernel
theorem dX7_billUsage_22 : decode cX7_billUsage 22 = .ok (.lcmp, 1) := by decide +kernel
theorem dX7_billUsage_23 : decode cX7_billUsage 23 = .ok (.ifCond .le 22, 3) := by decide +kernel
theorem dX7_billUsage_26 : decode cX7_billUsage 26 = .ok (.aload_n 1, 1) := by decide +kernel
theorem dX7_billUsage_27 : decode cX7_billUsage 27 = .ok (.iconst 0, 1) := by decide +kernel
theorem dX7_billUsage_28 : decode cX7_billUsage 28 = .ok (.iload_n 3, 1) := by decide +kernel
theorem dX7_billUsage_29 : decode cX7_billUsage 29 = .ok (.lload 4, 2) := by decide +kernel
theorem dX7_billUsage_31 : decode cX7_billUsage 31 = .ok (.aload_n 2, 1) := by decide +kernel
theorem dX7_billUsage_32 : decode cX7_billUsage 32 = .ok (.getfield 281, 3) := by decide +kernel
theorem dX7_billUsage_35 : decode cX7_billUsage 35 = .ok (.iload_n 3, 1) := by decide +kernel
theorem dX7_billUsage_36 : decode cX7_billUsage 36 = .ok (.aaload, 1) := by decide +kernel
theorem dX7_billUsage_37 : decode cX7_billUsage 37 = .ok (.lload 4, 2) := by decide +kernel
theorem dX7_billUsage_39 : decode cX7_billUsage 39 = .ok (.invokevirtual 169, 3) := by decide +kernel
theorem dX7_billUsage_42 : decode cX7_billUsage 42 = .ok (.invokevirtual 300, 3) := by decide +kernel
theorem dX7_billUsage_45 : decode cX7_billUsage 45 = .ok (.iinc 3 1, 3) := by decide +kernel
theorem dX7_billUsage_48 : decode cX7_billUsage 48 = .ok (.goto (-46), 3) := by decide +kernel
theorem dX7_billUsage_51 : decode cX7_billUsage 51 = .ok (.return_, 1) := by decide +kernel
theorem dX7_endOldHolds_0 : decode cX7_endOldHolds 0 = .ok (.iconst 0, 1) := by decide +kernel
theorem dX7_endOldHolds_1 : decode cX7_endOldHolds 1 = .ok (.istore_n 1, 1) := by decide +kernel
theorem dX7_endOldHolds_2 : decode cX7_endOldHolds 2 = .ok (.iload_n 1, 1) := by decide +kernel
theorem dX7_endOldHolds_3 : decode cX7_endOldHolds 3 = .ok (.aload_n 0, 1) := by decide +kernel
theorem dX7_endOldHolds_4 : decode cX7_endOldHolds 4 = .ok (.getfield 102, 3) := by decide +kernel
theorem dX7_endOldHolds_7 : decode cX7_endOldHolds 7 = .ok (.if_icmp .ge 38, 3) := by decide +kernel
theorem dX7_endOldHolds_10 : decode cX7_endOldHolds 10 = .ok (.aload_n 0, 1) := by decide +kernel
theorem dX7_endOldHolds_11 : decode cX7_endOldHolds 11 = .ok (.iload_n 1, 1) := by decide +kernel
theorem dX7_endOldHolds_12 : decode cX7_endOldHolds 12 = .ok (.invokevirtual 116, 3) := by decide +kernel
theorem dX7_endOldHolds_15 : decode cX7_endOldHolds 15 = .ok (.astore_n 2, 1) := by decide +kernel
theorem dX7_endOldHolds_16 : decode cX7_endOldHolds 16 = .ok (.aload_n 2, 1) := by decide +kernel
theorem dX7_endOldHolds_17 : decode cX7_endOldHolds 17 = .ok (.ifnull 22, 3) := by decide +kernel
theorem dX7_endOldHolds_20 : decode cX7_endOldHolds 20 = .ok (.aload_n 0, 1) := by decide +kernel
theorem dX7_endOldHolds_21 : decode cX7_endOldHolds 21 = .ok (.getfield 65, 3) := by decide +kernel
theorem dX7_endOldHolds_24 : decode cX7_endOldHolds 24 = .ok (.aload_n 2, 1) := by decide +kernel
theorem dX7_endOldHolds_25 : decode cX7_endOldHolds 25 = .ok (.getfield 236, 3) := by decide +kernel
theorem dX7_endOldHolds_28 : decode cX7_endOldHolds 28 = .ok (.isub, 1) := by decide +kernel
theorem dX7_endOldHolds_29 : decode cX7_endOldHolds 29 = .ok (.bipush 60, 2) := by decide +kernel
theorem dX7_endOldHolds_31 : decode cX7_endOldHolds 31 = .ok (.if_icmp .lt 8, 3) := by decide +kernel
theorem dX7_endOldHolds_34 : decode cX7_endOldHolds 34 = .ok (.aload_n 0, 1) := by decide +kernel
theorem dX7_endOldHolds_35 : decode cX7_endOldHolds 35 = .ok (.aload_n 2, 1) := by decide +kernel
theorem dX7_endOldHolds_36 : decode cX7_endOldHolds 36 = .ok (.invokevirtual 135, 3) := by decide +kernel
theorem dX7_endOldHolds_39 : decode cX7_endOldHolds 39 = .ok (.iinc 1 1, 3) := by decide +kernel
theorem dX7_endOldHolds_42 : decode cX7_endOldHolds 42 = .ok (.goto (-40), 3) := by decide +kernel
theorem dX7_endOldHolds_45 : decode cX7_endOldHolds 45 = .ok (.return_, 1) := by decide +kernel
theorem dX7_endHold_0 : decode cX7_endHold 0 = .ok (.aload_n 1, 1) := by decide +kernel
theorem dX7_endHold_1 : decode cX7_endHold 1 = .ok (.iconst 0, 1) := by decide +kernel
theorem dX7_endHold_2 : decode cX7_endHold 2 = .ok (.putfield 239, 3) := by decide +kernel
theorem dX7_endHold_5 : decode cX7_endHold 5 = .ok (.aload_n 0, 1) := by decide +kernel
theorem dX7_endHold_6 : decode cX7_endHold 6 = .ok (.dup, 1) := by decide +kernel
theorem dX7_endHold_7 : decode cX7_endHold 7 = .ok (.getfield 99, 3) := by decide +kernel
theorem dX7_endHold_10 : decode cX7_endHold 10 = .ok (.iconst 1, 1) := by decide +kernel
theorem dX7_endHold_11 : decode cX7_endHold 11 = .ok (.isub, 1) := by decide +kernel
theorem dX7_endHold_12 : decode cX7_endHold 12 = .ok (.putfield 99, 3) := by decide +kernel
theorem dX7_endHold_15 : decode cX7_endHold 15 = .ok (.aload_n 1, 1) := by decide +kernel
theorem dX7_endHold_16 : decode cX7_endHold 16 = .ok (.getfield 123, 3) := by decide +kernel
theorem dX7_endHold_19 : decode cX7_endHold 19 = .ok (.aload_n 1, 1) := by decide +kernel
theorem dX7_endHold_20 : decode cX7_endHold 20 = .ok (.getfield 128, 3) := by decide +kernel
theorem dX7_endHold_23 : decode cX7_endHold 23 = .ok (.aload_n 1, 1) := by decide +kernel
theorem dX7_endHold_24 : decode cX7_endHold 24 = .ok (.getfield 120, 3) := by decide +kernel
theorem dX7_endHold_27 : decode cX7_endHold 27 = .ok (.ineg, 1) := by decide +kernel
theorem dX7_endHold_28 : decode cX7_endHold 28 = .ok (.invokevirtual 112, 3) := by decide +kernel
theorem dX7_endHold_31 : decode cX7_endHold 31 = .ok (.return_, 1) := by decide +kernel
theorem dX8_isTenant_0 : decode cX8_isTenant 0 = .ok (.iload_n 0, 1) := by decide +kernel
theorem dX8_isTenant_1 : decode cX8_isTenant 1 = .ok (.ifCond .lt 13, 3) := by decide +kernel
theorem dX8_isTenant_4 : decode cX8_isTenant 4 = .ok (.iload_n 0, 1) := by decide +kernel
theorem dX8_isTenant_5 : decode cX8_isTenant 5 = .ok (.bipush 6, 2) := by decide +kernel
theorem dX8_isTenant_7 : decode cX8_isTenant 7 = .ok (.if_icmp .ge 7, 3) := by decide +kernel
theorem dX8_isTenant_10 : decode cX8_isTenant 10 = .ok (.iconst 1, 1) := by decide +kernel
theorem dX8_isTenant_11 : decode cX8_isTenant 11 = .ok (.goto 4, 3) := by decide +kernel
theorem dX8_isTenant_14 : decode cX8_isTenant 14 = .ok (.iconst 0, 1) := by decide +kernel
theorem dX8_isTenant_15 : decode cX8_isTenant 15 = .ok (.ireturn, 1) := by decide +kernel
theorem dX8_isResource_0 : decode cX8_isResource 0 = .ok (.iload_n 0, 1) := by decide +kernel
theorem dX8_isResource_1 : decode cX8_isResource 1 = .ok (.ifCond .lt 12, 3) := by decide +kernel
theorem dX8_isResource_4 : decode cX8_isResource 4 = .ok (.iload_n 0, 1) := by decide +kernel
theorem dX8_isResource_5 : decode cX8_isResource 5 = .ok (.iconst 4, 1) := by decide +kernel
theorem dX8_isResource_6 : decode cX8_isResource 6 = .ok (.if_icmp .ge 7, 3) := by decide +kernel
theorem dX8_isResource_9 : decode cX8_isResource 9 = .ok (.iconst 1, 1) := by decide +kernel
theorem dX8_isResource_10 : decode cX8_isResource 10 = .ok (.goto 4, 3) := by decide +kernel
theorem dX8_isResource_13 : decode cX8_isResource 13 = .ok (.iconst 0, 1) := by decide +kernel
theorem dX8_isResource_14 : decode cX8_isResource 14 = .ok (.ireturn, 1) := by decide +kernel
theorem dX8_isAccount_0 : decode cX8_isAccount 0 = .ok (.iload_n 1, 1) := by decide +kernel
theorem dX8_isAccount_1 : decode cX8_isAccount 1 = .ok (.ifCond .lt 15, 3) := by decide +kernel
theorem dX8_isAccount_4 : decode cX8_isAccount 4 = .ok (.iload_n 1, 1) := by decide +kernel
theorem dX8_isAccount_5 : decode cX8_isAccount 5 = .ok (.aload_n 0, 1) := by decide +kernel
theorem dX8_isAccount_6 : decode cX8_isAccount 6 = .ok (.getfield 3, 3) := by decide +kernel
theorem dX8_isAccount_9 : decode cX8_isAccount 9 = .ok (.if_icmp .ge 7, 3) := by decide +kernel
theorem dX8_isAccount_12 : decode cX8_isAccount 12 = .ok (.iconst 1, 1) := by decide +kernel
theorem dX8_isAccount_13 : decode cX8_isAccount 13 = .ok (.goto 4, 3) := by decide +kernel
theorem dX8_isAccount_16 : decode cX8_isAccount 16 = .ok (.iconst 0, 1) := by decide +kernel
theorem dX8_isAccount_17 : decode cX8_isAccount 17 = .ok (.ireturn, 1) := by decide +kernel
theorem dX8_account_0 : decode cX8_account 0 = .ok (.iload_n 1, 1) := by decide +kernel
theorem dX8_account_1 : decode cX8_account 1 = .ok (.invokestatic 7, 3) := by decide +kernel
theorem dX8_account_4 : decode cX8_account 4 = .ok (.ifCond .eq 26, 3) := by decide +kernel
theorem dX8_account_7 : decode cX8_account 7 = .ok (.iload_n 2, 1) := by decide +kernel
theorem dX8_account_8 : decode cX8_account 8 = .ok (.iconst (-1), 1) := by decide +kernel
theorem dX8_account_9 : decode cX8_account 9 = .ok (.if_icmp .eq 24, 3) := by decide +kernel
theorem dX8_account_12 : decode cX8_account 12 = .ok (.aload_n 0, 1) := by decide +kernel
theorem dX8_account_13 : decode cX8_account 13 = .ok (.iload_n 2, 1) := by decide +kernel
theorem dX8_account_14 : decode cX8_account 14 = .ok (.invokevirtual 11, 3) := by decide +kernel
theorem dX8_account_17 : decode cX8_account 17 = .ok (.ifCond .eq 13, 3) := by decide +kernel
theorem dX8_account_20 : decode cX8_account 20 = .ok (.aload_n 0, 1) := by decide +kernel
theorem dX8_account_21 : decode cX8_account 21 = .ok (.getfield 14, 3) := by decide +kernel
theorem dX8_account_24 : decode cX8_account 24 = .ok (.iload_n 2, 1) := by decide +kernel
theorem dX8_account_25 : decode cX8_account 25 = .ok (.iaload, 1) := by decide +kernel
theorem dX8_account_26 : decode cX8_account 26 = .ok (.iload_n 1, 1) := by decide +kernel
theorem dX8_account_27 : decode cX8_account 27 = .ok (.if_icmp .eq 6, 3) := by decide +kernel
theorem dX8_account_30 : decode cX8_account 30 = .ok (.bipush (-2), 2) := by decide +kernel
theorem dX8_account_32 : decode cX8_account 32 = .ok (.ireturn, 1) := by decide +kernel
theorem dX8_account_33 : decode cX8_account 33 = .ok (.aload_n 0, 1) := by decide +kernel
theorem dX8_account_34 : decode cX8_account 34 = .ok (.getfield 3, 3) := by decide +kernel
theorem dX8_account_37 : decode cX8_account 37 = .ok (.bipush 24, 2) := by decide +kernel
theorem dX8_account_39 : decode cX8_account 39 = .ok (.if_icmp .ne 6, 3) := by decide +kernel
theorem dX8_account_42 : decode cX8_account 42 = .ok (.bipush (-3), 2) := by decide +kernel
theorem dX8_account_44 : decode cX8_account 44 = .ok (.ireturn, 1) := by decide +kernel
theorem dX8_account_45 : decode cX8_account 45 = .ok (.aload_n 0, 1) := by decide +kernel
theorem dX8_account_46 : decode cX8_account 46 = .ok (.getfield 14, 3) := by decide +kernel
theorem dX8_account_49 : decode cX8_account 49 = .ok (.aload_n 0, 1) := by decide +kernel
theorem dX8_account_50 : decode cX8_account 50 = .ok (.getfield 3, 3) := by decide +kernel
theorem dX8_account_53 : decode cX8_account 53 = .ok (.iload_n 1, 1) := by decide +kernel
theorem dX8_account_54 : decode cX8_account 54 = .ok (.iastore, 1) := by decide +kernel
theorem dX8_account_55 : decode cX8_account 55 = .ok (.aload_n 0, 1) := by decide +kernel
theorem dX8_account_56 : decode cX8_account 56 = .ok (.getfield 18, 3) := by decide +kernel
theorem dX8_account_59 : decode cX8_account 59 = .ok (.aload_n 0, 1) := by decide +kernel
theorem dX8_account_60 : decode cX8_account 60 = .ok (.getfield 3, 3) := by decide +kernel
theorem dX8_account_63 : decode cX8_account 63 = .ok (.iload_n 2, 1) := by decide +kernel
theorem dX8_account_64 : decode cX8_account 64 = .ok (.iastore, 1) := by decide +kernel
theorem dX8_account_65 : decode cX8_account 65 = .ok (.iconst 0, 1) := by decide +kernel
theorem dX8_account_66 : decode cX8_account 66 = .ok (.istore_n 3, 1) := by decide +kernel
theorem dX8_account_67 : decode cX8_account 67 = .ok (.iload_n 3, 1) := by decide +kernel
theorem dX8_account_68 : decode cX8_account 68 = .ok (.iconst 4, 1) := by decide +kernel
theorem dX8_account_69 : decode cX8_account 69 = .ok (.if_icmp .ge 23, 3) := by decide +kernel
theorem dX8_account_72 : decode cX8_account 72 = .ok (.aload_n 0, 1) := by decide +kernel
theorem dX8_account_73 : decode cX8_account 73 = .ok (.getfield 21, 3) := by decide +kernel
theorem dX8_account_76 : decode cX8_account 76 = .ok (.iconst 4, 1) := by decide +kernel
theorem dX8_account_77 : decode cX8_account 77 = .ok (.aload_n 0, 1) := by decide +kernel
