theorem dX4_odds_39 : decode cX4_odds 39 = .ok (.invokevirtual 98, 3) := by decide +kernel
theorem dX4_odds_42 : decode cX4_odds 42 = .ok (.invokestatic 164, 3) := by decide +kernel
theorem dX4_odds_45 : decode cX4_odds 45 = .ok (.istore 4, 2) := by decide +kernel
theorem dX4_odds_47 : decode cX4_odds 47 = .ok (.iload_n 3, 1) := by decide +kernel
theorem dX4_odds_48 : decode cX4_odds 48 = .ok (.ifCond .ne 19, 3) := by decide +kernel
theorem dX4_odds_51 : decode cX4_odds 51 = .ok (.iload 4, 2) := by decide +kernel
theorem dX4_odds_53 : decode cX4_odds 53 = .ok (.aload_n 0, 1) := by decide +kernel
theorem dX4_odds_54 : decode cX4_odds 54 = .ok (.getfield 21, 3) := by decide +kernel
theorem dX4_odds_57 : decode cX4_odds 57 = .ok (.getfield 204, 3) := by decide +kernel
theorem dX4_odds_60 : decode cX4_odds 60 = .ok (.invokestatic 225, 3) := by decide +kernel
theorem dX4_odds_63 : decode cX4_odds 63 = .ok (.i2l, 1) := by decide +kernel
theorem dX4_odds_64 : decode cX4_odds 64 = .ok (.goto 16, 3) := by decide +kernel
theorem dX4_odds_67 : decode cX4_odds 67 = .ok (.aload_n 0, 1) := by decide +kernel
theorem dX4_odds_68 : decode cX4_odds 68 = .ok (.getfield 21, 3) := by decide +kernel
theorem dX4_odds_71 : decode cX4_odds 71 = .ok (.getfield 204, 3) := by decide +kernel
theorem dX4_odds_74 : decode cX4_odds 74 = .ok (.iload 4, 2) := by decide +kernel
theorem dX4_odds_76 : decode cX4_odds 76 = .ok (.invokestatic 225, 3) := by decide +kernel
theorem dX4_odds_79 : decode cX4_odds 79 = .ok (.i2l, 1) := by decide +kernel
theorem dX4_odds_80 : decode cX4_odds 80 = .ok (.lstore 5, 2) := by decide +kernel
theorem dX4_odds_82 : decode cX4_odds 82 = .ok (.lconst 1, 1) := by decide +kernel
theorem dX4_odds_83 : decode cX4_odds 83 = .ok (.lstore 7, 2) := by decide +kernel
theorem dX4_odds_85 : decode cX4_odds 85 = .ok (.iconst 0, 1) := by decide +kernel
theorem dX4_odds_86 : decode cX4_odds 86 = .ok (.istore 9, 2) := by decide +kernel
theorem dX4_odds_88 : decode cX4_odds 88 = .ok (.iload 9, 2) := by decide +kernel
theorem dX4_odds_90 : decode cX4_odds 90 = .ok (.iload_n 2, 1) := by decide +kernel
theorem dX4_odds_91 : decode cX4_odds 91 = .ok (.if_icmp .ge 16, 3) := by decide +kernel
theorem dX4_odds_94 : decode cX4_odds 94 = .ok (.lload 7, 2) := by decide +kernel
theorem dX4_odds_96 : decode cX4_odds 96 = .ok (.lload 5, 2) := by decide +kernel
theorem dX4_odds_98 : decode cX4_odds 98 = .ok (.lmul, 1) := by decide +kernel
theorem dX4_odds_99 : decode cX4_odds 99 = .ok (.lstore 7, 2) := by decide +kernel
theorem dX4_odds_101 : decode cX4_odds 101 = .ok (.iinc 9 1, 3) := by decide +kernel
theorem dX4_odds_104 : decode cX4_odds 104 = .ok (.goto (-16), 3) := by decide +kernel
theorem dX4_odds_107 : decode cX4_odds 107 = .ok (.lload 7, 2) := by decide +kernel
theorem dX4_odds_109 : decode cX4_odds 109 = .ok (.lreturn, 1) := by decide +kernel
theorem dX4_lessened_0 : decode cX4_lessened 0 = .ok (.bipush 6, 2) := by decide +kernel
theorem dX4_lessened_2 : decode cX4_lessened 2 = .ok (.istore_n 2, 1) := by decide +kernel
theorem dX4_lessened_3 : decode cX4_lessened 3 = .ok (.iload_n 2, 1) := by decide +kernel
theorem dX4_lessened_4 : decode cX4_lessened 4 = .ok (.iconst 1, 1) := by decide +kernel
theorem dX4_lessened_5 : decode cX4_lessened 5 = .ok (.if_icmp .le 25, 3) := by decide +kernel
theorem dX4_lessened_8 : decode cX4_lessened 8 = .ok (.iload_n 0, 1) := by decide +kernel
theorem dX4_lessened_9 : decode cX4_lessened 9 = .ok (.iload_n 2, 1) := by decide +kernel
theorem dX4_lessened_10 : decode cX4_lessened 10 = .ok (.irem, 1) := by decide +kernel
theorem dX4_lessened_11 : decode cX4_lessened 11 = .ok (.ifCond .ne 13, 3) := by decide +kernel
theorem dX4_lessened_14 : decode cX4_lessened 14 = .ok (.iload_n 1, 1) := by decide +kernel
theorem dX4_lessened_15 : decode cX4_lessened 15 = .ok (.iload_n 2, 1) := by decide +kernel
theorem dX4_lessened_16 : decode cX4_lessened 16 = .ok (.irem, 1) := by decide +kernel
theorem dX4_lessened_17 : decode cX4_lessened 17 = .ok (.ifCond .ne 7, 3) := by decide +kernel
theorem dX4_lessened_20 : decode cX4_lessened 20 = .ok (.iload_n 0, 1) := by decide +kernel
theorem dX4_lessened_21 : decode cX4_lessened 21 = .ok (.iload_n 2, 1) := by decide +kernel
theorem dX4_lessened_22 : decode cX4_lessened 22 = .ok (.idiv, 1) := by decide +kernel
theorem dX4_lessened_23 : decode cX4_lessened 23 = .ok (.ireturn, 1) := by decide +kernel
theorem dX4_lessened_24 : decode cX4_lessened 24 = .ok (.iinc 2 (-1), 3) := by decide +kernel
theorem dX4_lessened_27 : decode cX4_lessened 27 = .ok (.goto (-24), 3) := by decide +kernel
theorem dX4_lessened_30 : decode cX4_lessened 30 = .ok (.iload_n 0, 1) := by decide +kernel
theorem dX4_lessened_31 : decode cX4_lessened 31 = .ok (.ireturn, 1) := by decide +kernel
theorem dX4_sheet_0 : decode cX4_sheet 0 = .ok (.aload_n 0, 1) := by decide +kernel
theorem dX4_sheet_1 : decode cX4_sheet 1 = .ok (.iconst 0, 1) := by decide +kernel
theorem dX4_sheet_2 : decode cX4_sheet 2 = .ok (.putfield 42, 3) := by decide +kernel
theorem dX4_sheet_5 : decode cX4_sheet 5 = .ok (.iload_n 1, 1) := by decide +kernel
theorem dX4_sheet_6 : decode cX4_sheet 6 = .ok (.invokestatic 46, 3) := by decide +kernel
theorem dX4_sheet_9 : decode cX4_sheet 9 = .ok (.ifCond .ne 5, 3) := by decide +kernel
theorem dX4_sheet_12 : decode cX4_sheet 12 = .ok (.iconst (-1), 1) := by decide +kernel
theorem dX4_sheet_13 : decode cX4_sheet 13 = .ok (.ireturn, 1) := by decide +kernel
theorem dX4_sheet_14 : decode cX4_sheet 14 = .ok (.iload_n 2, 1) := by decide +kernel
theorem dX4_sheet_15 : decode cX4_sheet 15 = .ok (.invokestatic 50, 3) := by decide +kernel
theorem dX4_sheet_18 : decode cX4_sheet 18 = .ok (.ifCond .eq 9, 3) := by decide +kernel
theorem dX4_sheet_21 : decode cX4_sheet 21 = .ok (.iload_n 3, 1) := by decide +kernel
theorem dX4_sheet_22 : decode cX4_sheet 22 = .ok (.bipush 60, 2) := by decide +kernel
theorem dX4_sheet_24 : decode cX4_sheet 24 = .ok (.if_icmp .le 6, 3) := by decide +kernel
theorem dX4_sheet_27 : decode cX4_sheet 27 = .ok (.bipush (-2), 2) := by decide +kernel
theorem dX4_sheet_29 : decode cX4_sheet 29 = .ok (.ireturn, 1) := by decide +kernel
theorem dX4_sheet_30 : decode cX4_sheet 30 = .ok (.iload_n 3, 1) := by decide +kernel
theorem dX4_sheet_31 : decode cX4_sheet 31 = .ok (.ifCond .ge 9, 3) := by decide +kernel
theorem dX4_sheet_34 : decode cX4_sheet 34 = .ok (.aload_n 0, 1) := by decide +kernel
theorem dX4_sheet_35 : decode cX4_sheet 35 = .ok (.iconst 4, 1) := by decide +kernel
theorem dX4_sheet_36 : decode cX4_sheet 36 = .ok (.invokevirtual 61, 3) := by decide +kernel
theorem dX4_sheet_39 : decode cX4_sheet 39 = .ok (.ireturn, 1) := by decide +kernel
theorem dX4_sheet_40 : decode cX4_sheet 40 = .ok (.aload_n 0, 1) := by decide +kernel
theorem dX4_sheet_41 : decode cX4_sheet 41 = .ok (.getfield 13, 3) := by decide +kernel
theorem dX4_sheet_44 : decode cX4_sheet 44 = .ok (.iload_n 1, 1) := by decide +kernel
theorem dX4_sheet_45 : decode cX4_sheet 45 = .ok (.aaload, 1) := by decide +kernel
theorem dX4_sheet_46 : decode cX4_sheet 46 = .ok (.iload_n 2, 1) := by decide +kernel
theorem dX4_sheet_47 : decode cX4_sheet 47 = .ok (.iload_n 3, 1) := by decide +kernel
theorem dX4_sheet_48 : decode cX4_sheet 48 = .ok (.invokevirtual 228, 3) := by decide +kernel
theorem dX4_sheet_51 : decode cX4_sheet 51 = .ok (.iconst 1, 1) := by decide +kernel
theorem dX4_sheet_52 : decode cX4_sheet 52 = .ok (.ireturn, 1) := by decide +kernel
theorem dX4_lose_0 : decode cX4_lose 0 = .ok (.iload_n 1, 1) := by decide +kernel
theorem dX4_lose_1 : decode cX4_lose 1 = .ok (.invokestatic 46, 3) := by decide +kernel
theorem dX4_lose_4 : decode cX4_lose 4 = .ok (.ifCond .ne 5, 3) := by decide +kernel
theorem dX4_lose_7 : decode cX4_lose 7 = .ok (.iconst (-1), 1) := by decide +kernel
theorem dX4_lose_8 : decode cX4_lose 8 = .ok (.ireturn, 1) := by decide +kernel
theorem dX4_lose_9 : decode cX4_lose 9 = .ok (.aload_n 0, 1) := by decide +kernel
theorem dX4_lose_10 : decode cX4_lose 10 = .ok (.getfield 13, 3) := by decide +kernel
theorem dX4_lose_13 : decode cX4_lose 13 = .ok (.iload_n 1, 1) := by decide +kernel
theorem dX4_lose_14 : decode cX4_lose 14 = .ok (.aaload, 1) := by decide +kernel
theorem dX4_lose_15 : decode cX4_lose 15 = .ok (.getfield 231, 3) := by decide +kernel
theorem dX4_lose_18 : decode cX4_lose 18 = .ok (.ifCond .eq 7, 3) := by decide +kernel
theorem dX4_lose_21 : decode cX4_lose 21 = .ok (.iconst 1, 1) := by decide +kernel
theorem dX4_lose_22 : decode cX4_lose 22 = .ok (.goto 4, 3) := by decide +kernel
theorem dX4_lose_25 : decode cX4_lose 25 = .ok (.iconst 0, 1) := by decide +kernel
theorem dX4_lose_26 : decode cX4_lose 26 = .ok (.istore_n 2, 1) := by decide +kernel
theorem dX4_lose_27 : decode cX4_lose 27 = .ok (.aload_n 0, 1) := by decide +kernel
theorem dX4_lose_28 : decode cX4_lose 28 = .ok (.getfield 13, 3) := by decide +kernel
theorem dX4_lose_31 : decode cX4_lose 31 = .ok (.iload_n 1, 1) := by decide +kernel
theorem dX4_lose_32 : decode cX4_lose 32 = .ok (.aaload, 1) := by decide +kernel
theorem dX4_lose_33 : decode cX4_lose 33 = .ok (.iconst 0, 1) := by decide +kernel
theorem dX4_lose_34 : decode cX4_lose 34 = .ok (.putfield 231, 3) := by decide +kernel
theorem dX4_lose_37 : decode cX4_lose 37 = .ok (.iload_n 2, 1) := by decide +kernel
theorem dX4_lose_38 : decode cX4_lose 38 = .ok (.ireturn, 1) := by decide +kernel
theorem dX4_put_0 : decode cX4_put 0 = .ok (.aload_n 0, 1) := by decide +kernel
theorem dX4_put_1 : decode cX4_put 1 = .ok (.iconst 0, 1) := by decide +kernel
theorem dX4_put_2 : decode cX4_put 2 = .ok (.putfield 42, 3) := by decide +kernel
theorem dX4_put_5 : decode cX4_put 5 = .ok (.iload_n 1, 1) := by decide +kernel
theorem dX4_put_6 : decode cX4_put 6 = .ok (.invokestatic 46, 3) := by decide +kernel
theorem dX4_put_9 : decode cX4_put 9 = .ok (.ifCond .ne 5, 3) := by decide +kernel
theorem dX4_put_12 : decode cX4_put 12 = .ok (.iconst (-1), 1) := by decide +kernel
theorem dX4_put_13 : decode cX4_put 13 = .ok (.ireturn, 1) := by decide +kernel
theorem dX4_put_14 : decode cX4_put 14 = .ok (.aload_n 0, 1) := by decide +kernel
theorem dX4_put_15 : decode cX4_put 15 = .ok (.getfield 13, 3) := by decide +kernel
theorem dX4_put_18 : decode cX4_put 18 = .ok (.iload_n 1, 1) := by decide +kernel
theorem dX4_put_19 : decode cX4_put 19 = .ok (.aaload, 1) := by decide +kernel
theorem dX4_put_20 : decode cX4_put 20 = .ok (.astore 4, 2) := by decide +kernel
theorem dX4_put_22 : decode cX4_put 22 = .ok (.aload 4, 2) := by decide +kernel
theorem dX4_put_24 : decode cX4_put 24 = .ok (.getfield 231, 3) := by decide +kernel
theorem dX4_put_27 : decode cX4_put 27 = .ok (.ifCond .ne 9, 3) := by decide +kernel
theorem dX4_put_30 : decode cX4_put 30 = .ok (.aload_n 0, 1) := by decide +kernel
theorem dX4_put_31 : decode cX4_put 31 = .ok (.iconst 1, 1) := by decide +kernel
theorem dX4_put_32 : decode cX4_put 32 = .ok (.invokevirtual 61, 3) := by decide +kernel
theorem dX4_put_35 : decode cX4_put 35 = .ok (.ireturn, 1) := by decide +kernel
theorem dX4_put_36 : decode cX4_put 36 = .ok (.aload 4, 2) := by decide +kernel
theorem dX4_put_38 : decode cX4_put 38 = .ok (.iload_n 2, 1) := by decide +kernel
theorem dX4_put_39 : decode cX4_put 39 = .ok (.invokevirtual 235, 3) := by decide +kernel
theorem dX4_put_42 : decode cX4_put 42 = .ok (.ifCond .ne 9, 3) := by decide +kernel
theorem dX4_put_45 : decode cX4_put 45 = .ok (.aload_n 0, 1) := by decide +kernel
theorem dX4_put_46 : decode cX4_put 46 = .ok (.iconst 3, 1) := by decide +kernel
theorem dX4_put_47 : decode cX4_put 47 = .ok (.invokevirtual 61, 3) := by decide +kernel
theorem dX4_put_50 : decode cX4_put 50 = .ok (.ireturn, 1) := by decide +kernel
theorem dX4_put_51 : decode cX4_put 51 = .ok (.aload 4, 2) := by decide +kernel
theorem dX4_put_53 : decode cX4_put 53 = .ok (.iload_n 2, 1) := by decide +kernel
theorem dX4_put_54 : decode cX4_put 54 = .ok (.iload_n 3, 1) := by decide +kernel
theorem dX4_put_55 : decode cX4_put 55 = .ok (.invokevirtual 238, 3) := by decide +kernel
theorem dX4_put_58 : decode cX4_put 58 = .ok (.iconst 1, 1) := by decide +kernel
theorem dX4_put_59 : decode cX4_put 59 = .ok (.ireturn, 1) := by decide +kernel
theorem dX4_cell_0 : decode cX4_cell 0 = .ok (.aload_n 0, 1) := by decide +kernel
theorem dX4_cell_1 : decode cX4_cell 1 = .ok (.iconst 0, 1) := by decide +kernel
theorem dX4_cell_2 : decode cX4_cell 2 = .ok (.putfield 42, 3) := by decide +kernel
theorem dX4_cell_5 : decode cX4_cell 5 = .ok (.iload_n 1, 1) := by decide +kernel
theorem dX4_cell_6 : decode cX4_cell 6 = .ok (.invokestatic 46, 3) := by decide +kernel
theorem dX4_cell_9 : decode cX4_cell 9 = .ok (.ifCond .eq 10, 3) := by decide +kernel
theorem dX4_cell_12 : decode cX4_cell 12 = .ok (.iload_n 3, 1) := by decide +kernel
theorem dX4_cell_13 : decode cX4_cell 13 = .ok (.invokestatic 50, 3) := by decide +kernel
theorem dX4_cell_16 : decode cX4_cell 16 = .ok (.ifCond .ne 7, 3) := by decide +kernel
theorem dX4_cell_19 : decode cX4_cell 19 = .ok (.ldc2_w 223, 3) := by decide +kernel
theorem dX4_cell_22 : decode cX4_cell 22 = .ok (.lreturn, 1) := by decide +kernel
theorem dX4_cell_23 : decode cX4_cell 23 = .ok (.aload_n 0, 1) := by decide +kernel
theorem dX4_cell_24 : decode cX4_cell 24 = .ok (.getfield 13, 3) := by decide +kernel
theorem dX4_cell_27 : decode cX4_cell 27 = .ok (.iload_n 1, 1) := by decide +kernel
theorem dX4_cell_28 : decode cX4_cell 28 = .ok (.aaload, 1) := by decide +kernel
theorem dX4_cell_29 : decode cX4_cell 29 = .ok (.astore 4, 2) := by decide +kernel
theorem dX4_cell_31 : decode cX4_cell 31 = .ok (.aload 4, 2) := by decide +kernel
theorem dX4_cell_33 : decode cX4_cell 33 = .ok (.iload_n 3, 1) := by decide +kernel
theorem dX4_cell_34 : decode cX4_cell 34 = .ok (.invokevirtual 53, 3) := by decide +kernel
theorem dX4_cell_37 : decode cX4_cell 37 = .ok (.istore 5, 2) := by decide +kernel
theorem dX4_cell_39 : decode cX4_cell 39 = .ok (.iload 5, 2) := by decide +kernel
theorem dX4_cell_41 : decode cX4_cell 41 = .ok (.ifCond .ne 15, 3) := by decide +kernel
theorem dX4_cell_44 : decode cX4_cell 44 = .ok (.aload 4, 2) := by decide +kernel
theorem dX4_cell_46 : decode cX4_cell 46 = .ok (.iload_n 2, 1) := by decide +kernel
theorem dX4_cell_47 : decode cX4_cell 47 = .ok (.invokevirtual 235, 3) := by decide +kernel
theorem dX4_cell_50 : decode cX4_cell 50 = .ok (.ifCond .ne 6, 3) := by decide +kernel
theorem dX4_cell_53 : decode cX4_cell 53 = .ok (.iconst 3, 1) := by decide +kernel
theorem dX4_cell_54 : decode cX4_cell 54 = .ok (.istore 5, 2) := by decide +kernel
theorem dX4_cell_56 : decode cX4_cell 56 = .ok (.iload 5, 2) := by decide +kernel
theorem dX4_cell_58 : decode cX4_cell 58 = .ok (.ifCond .eq 13, 3) := by decide +kernel
theorem dX4_cell_61 : decode cX4_cell 61 = .ok (.aload_n 0, 1) := by decide +kernel
theorem dX4_cell_62 : decode cX4_cell 62 = .ok (.iload 5, 2) := by decide +kernel
theorem dX4_cell_64 : decode cX4_cell 64 = .ok (.putfield 42, 3) := by decide +kernel
theorem dX4_cell_67 : decode cX4_cell 67 = .ok (.ldc2_w 223, 3) := by decide +kernel
theorem dX4_cell_70 : decode cX4_cell 70 = .ok (.lreturn, 1) := by decide +kernel
theorem dX4_cell_71 : decode cX4_cell 71 = .ok (.aload 4, 2) := by decide +kernel
theorem dX4_cell_73 : decode cX4_cell 73 = .ok (.iload_n 2, 1) := by decide +kernel
theorem dX4_cell_74 : decode cX4_cell 74 = .ok (.invokevirtual 183, 3) := by decide +kernel
theorem dX4_cell_77 : decode cX4_cell 77 = .ok (.i2l, 1) := by decide +kernel
theorem dX4_cell_78 : decode cX4_cell 78 = .ok (.lreturn, 1) := by decide +kernel
theorem dX4_copy_0 : decode cX4_copy 0 = .ok (.aload_n 0, 1) := by decide +kernel
theorem dX4_copy_1 : decode cX4_copy 1 = .ok (.iconst 0, 1) := by decide +kernel
theorem dX4_copy_2 : decode cX4_copy 2 = .ok (.putfield 42, 3) := by decide +kernel
theorem dX4_copy_5 : decode cX4_copy 5 = .ok (.iload_n 1, 1) := by decide +kernel
theorem dX4_copy_6 : decode cX4_copy 6 = .ok (.invokestatic 46, 3) := by decide +kernel
theorem dX4_copy_9 : decode cX4_copy 9 = .ok (.ifCond .eq 10, 3) := by decide +kernel
theorem dX4_copy_12 : decode cX4_copy 12 = .ok (.iload_n 3, 1) := by decide +kernel
theorem dX4_copy_13 : decode cX4_copy 13 = .ok (.invokestatic 46, 3) := by decide +kernel
theorem dX4_copy_16 : decode cX4_copy 16 = .ok (.ifCond .ne 5, 3) := by decide +kernel
theorem dX4_copy_19 : decode cX4_copy 19 = .ok (.iconst (-1), 1) := by decide +kernel
theorem dX4_copy_20 : decode cX4_copy 20 = .ok (.ireturn, 1) := by decide +kernel
theorem dX4_copy_21 : decode cX4_copy 21 = .ok (.aload_n 0, 1) := by decide +kernel
theorem dX4_copy_22 : decode cX4_copy 22 = .ok (.getfield 13, 3) := by decide +kernel
theorem dX4_copy_25 : decode cX4_copy 25 = .ok (.iload_n 1, 1) := by decide +kernel
theorem dX4_copy_26 : decode cX4_copy 26 = .ok (.aaload, 1) := by decide +kernel
theorem dX4_copy_27 : decode cX4_copy 27 = .ok (.astore 6, 2) := by decide +kernel
theorem dX4_copy_29 : decode cX4_copy 29 = .ok (.aload_n 0, 1) := by decide +kernel
theorem dX4_copy_30 : decode cX4_copy 30 = .ok (.getfield 13, 3) := by decide +kernel
theorem dX4_copy_33 : decode cX4_copy 33 = .ok (.iload_n 3, 1) := by decide +kernel
theorem dX4_copy_34 : decode cX4_copy 34 = .ok (.aaload, 1) := by decide +kernel
theorem dX4_copy_35 : decode cX4_copy 35 = .ok (.astore 7, 2) := by decide +kernel
theorem dX4_copy_37 : decode cX4_copy 37 = .ok (.aload 6, 2) := by decide +kernel
theorem dX4_copy_39 : decode cX4_copy 39 = .ok (.getfield 231, 3) := by decide +kernel
theorem dX4_copy_42 : decode cX4_copy 42 = .ok (.ifCond .eq 11, 3) := by decide +kernel
theorem dX4_copy_45 : decode cX4_copy 45 = .ok (.aload 7, 2) := by decide +kernel
theorem dX4_copy_47 : decode cX4_copy 47 = .ok (.getfield 231, 3) := by decide +kernel
theorem dX4_copy_50 : decode cX4_copy 50 = .ok (.ifCond .ne 9, 3) := by decide +kernel
theorem dX4_copy_53 : decode cX4_copy 53 = .ok (.aload_n 0, 1) := by decide +kernel
theorem dX4_copy_54 : decode cX4_copy 54 = .ok (.iconst 1, 1) := by decide +kernel
theorem dX4_copy_55 : decode cX4_copy 55 = .ok (.invokevirtual 61, 3) := by decide +kernel
theorem dX4_copy_58 : decode cX4_copy 58 = .ok (.ireturn, 1) := by decide +kernel
theorem dX4_copy_59 : decode cX4_copy 59 = .ok (.aload 6, 2) := by decide +kernel
theorem dX4_copy_61 : decode cX4_copy 61 = .ok (.getfield 241, 3) := by decide +kernel
theorem dX4_copy_64 : decode cX4_copy 64 = .ok (.aload 7, 2) := by decide +kernel
theorem dX4_copy_66 : decode cX4_copy 66 = .ok (.getfield 241, 3) := by decide +kernel
theorem dX4_copy_69 : decode cX4_copy 69 = .ok (.if_icmp .eq 9, 3) := by decide +kernel
theorem dX4_copy_72 : decode cX4_copy 72 = .ok (.aload_n 0, 1) := by decide +kernel
theorem dX4_copy_73 : decode cX4_copy 73 = .ok (.iconst 2, 1) := by decide +kernel
theorem dX4_copy_74 : decode cX4_copy 74 = .ok (.invokevirtual 61, 3) := by decide +kernel
theorem dX4_copy_77 : decode cX4_copy 77 = .ok (.ireturn, 1) := by decide +kernel
theorem dX4_copy_78 : decode cX4_copy 78 = .ok (.aload 6, 2) := by decide +kernel
theorem dX4_copy_80 : decode cX4_copy 80 = .ok (.iload_n 2, 1) := by decide +kernel
theorem dX4_copy_81 : decode cX4_copy 81 = .ok (.iload 5, 2) := by decide +kernel
theorem dX4_copy_83 : decode cX4_copy 83 = .ok (.invokevirtual 57, 3) := by decide +kernel
theorem dX4_copy_86 : decode cX4_copy 86 = .ok (.ifCond .eq 15, 3) := by decide +kernel
theorem dX4_copy_89 : decode cX4_copy 89 = .ok (.aload 7, 2) := by decide +kernel
theorem dX4_copy_91 : decode cX4_copy 91 = .ok (.iload 4, 2) := by decide +kernel
theorem dX4_copy_93 : decode cX4_copy 93 = .ok (.iload 5, 2) := by decide +kernel
theorem dX4_copy_95 : decode cX4_copy 95 = .ok (.invokevirtual 57, 3) := by decide +kernel
theorem dX4_copy_98 : decode cX4_copy 98 = .ok (.ifCond .ne 9, 3) := by decide +kernel
theorem dX4_copy_101 : decode cX4_copy 101 = .ok (.aload_n 0, 1) := by decide +kernel
theorem dX4_copy_102 : decode cX4_copy 102 = .ok (.iconst 3, 1) := by decide +kernel
theorem dX4_copy_103 : decode cX4_copy 103 = .ok (.invokevirtual 61, 3) := by decide +kernel
theorem dX4_copy_106 : decode cX4_copy 106 = .ok (.ireturn, 1) := by decide +kernel
theorem dX4_copy_107 : decode cX4_copy 107 = .ok (.aload 6, 2) := by decide +kernel
theorem dX4_copy_109 : decode cX4_copy 109 = .ok (.getfield 244, 3) := by decide +kernel
theorem dX4_copy_112 : decode cX4_copy 112 = .ok (.iload_n 2, 1) := by decide +kernel
theorem dX4_copy_113 : decode cX4_copy 113 = .ok (.aload 7, 2) := by decide +kernel
theorem dX4_copy_115 : decode cX4_copy 115 = .ok (.getfield 244, 3) := by decide +kernel
theorem dX4_copy_118 : decode cX4_copy 118 = .ok (.iload 4, 2) := by decide +kernel
theorem dX4_copy_120 : decode cX4_copy 120 = .ok (.iload 5, 2) := by decide +kernel
theorem dX4_copy_122 : decode cX4_copy 122 = .ok (.invokestatic 247, 3) := by decide +kernel
theorem dX4_copy_125 : decode cX4_copy 125 = .ok (.iload 5, 2) := by decide +kernel
theorem dX4_copy_127 : decode cX4_copy 127 = .ok (.ireturn, 1) := by decide +kernel
theorem dX4_tell_0 : decode cX4_tell 0 = .ok (.aload_n 0, 1) := by decide +kernel
theorem dX4_tell_1 : decode cX4_tell 1 = .ok (.getfield 21, 3) := by decide +kernel
theorem dX4_tell_4 : decode cX4_tell 4 = .ok (.iload_n 1, 1) := by decide +kernel
theorem dX4_tell_5 : decode cX4_tell 5 = .ok (.invokevirtual 85, 3) := by decide +kernel
theorem dX4_tell_8 : decode cX4_tell 8 = .ok (.ifCond .ne 5, 3) := by decide +kernel
theorem dX4_tell_11 : decode cX4_tell 11 = .ok (.iconst (-1), 1) := by decide +kernel
theorem dX4_tell_12 : decode cX4_tell 12 = .ok (.ireturn, 1) := by decide +kernel
theorem dX4_tell_13 : decode cX4_tell 13 = .ok (.aload_n 0, 1) := by decide +kernel
theorem dX4_tell_14 : decode cX4_tell 14 = .ok (.getfield 21, 3) := by decide +kernel
theorem dX4_tell_17 : decode cX4_tell 17 = .ok (.getfield 88, 3) := by decide +kernel
theorem dX4_tell_20 : decode cX4_tell 20 = .ok (.iload_n 1, 1) := by decide +kernel
theorem dX4_tell_21 : decode cX4_tell 21 = .ok (.iaload, 1) := by decide +kernel
theorem dX4_tell_22 : decode cX4_tell 22 = .ok (.lookupswitch 38 #[(1, 32), (2, 26)], 26) := by decide +kernel
theorem dX4_tell_48 : decode cX4_tell 48 = .ok (.aload_n 0, 1) := by decide +kernel
theorem dX4_tell_49 : decode cX4_tell 49 = .ok (.iload_n 1, 1) := by decide +kernel
theorem dX4_tell_50 : decode cX4_tell 50 = .ok (.invokevirtual 253, 3) := by decide +kernel
theorem dX4_tell_53 : decode cX4_tell 53 = .ok (.ireturn, 1) := by decide +kernel
theorem dX4_tell_54 : decode cX4_tell 54 = .ok (.aload_n 0, 1) := by decide +kernel
theorem dX4_tell_55 : decode cX4_tell 55 = .ok (.iload_n 1, 1) := by decide +kernel
theorem dX4_tell_56 : decode cX4_tell 56 = .ok (.invokevirtual 256, 3) := by decide +kernel
theorem dX4_tell_59 : decode cX4_tell 59 = .ok (.ireturn, 1) := by decide +kernel
theorem dX4_tell_60 : decode cX4_tell 60 = .ok (.aload_n 0, 1) := by decide +kernel
theorem dX4_tell_61 : decode cX4_tell 61 = .ok (.iload_n 1, 1) := by decide +kernel
theorem dX4_tell_62 : decode cX4_tell 62 = .ok (.invokevirtual 259, 3) := by decide +kernel
theorem dX4_tell_65 : decode cX4_tell 65 = .ok (.ireturn, 1) := by decide +kernel
theorem dX4_pinch_0 : decode cX4_pinch 0 = .ok (.aload_n 0, 1) := by decide +kernel
theorem dX4_pinch_1 : decode cX4_pinch 1 = .ok (.getfield 21, 3) := by decide +kernel
theorem dX4_pinch_4 : decode cX4_pinch 4 = .ok (.iload_n 1, 1) := by decide +kernel
theorem dX4_pinch_5 : decode cX4_pinch 5 = .ok (.invokevirtual 85, 3) := by decide +kernel
theorem dX4_pinch_8 : decode cX4_pinch 8 = .ok (.ifCond .ne 5, 3) := by decide +kernel
theorem dX4_pinch_11 : decode cX4_pinch 11 = .ok (.iconst (-1), 1) := by decide +kernel
theorem dX4_pinch_12 : decode cX4_pinch 12 = .ok (.ireturn, 1) := by decide +kernel
theorem dX4_pinch_13 : decode cX4_pinch 13 = .ok (.aload_n 0, 1) := by decide +kernel
theorem dX4_pinch_14 : decode cX4_pinch 14 = .ok (.getfield 21, 3) := by decide +kernel
theorem dX4_pinch_17 : decode cX4_pinch 17 = .ok (.getfield 88, 3) := by decide +kernel
theorem dX4_pinch_20 : decode cX4_pinch 20 = .ok (.iload_n 1, 1) := by decide +kernel
theorem dX4_pinch_21 : decode cX4_pinch 21 = .ok (.iaload, 1) := by decide +kernel
theorem dX4_pinch_22 : decode cX4_pinch 22 = .ok (.iconst 2, 1) := by decide +kernel
theorem dX4_pinch_23 : decode cX4_pinch 23 = .ok (.if_icmp .ne 10, 3) := by decide +kernel
theorem dX4_pinch_26 : decode cX4_pinch 26 = .ok (.aload_n 0, 1) := by decide +kernel
theorem dX4_pinch_27 : decode cX4_pinch 27 = .ok (.invokevirtual 262, 3) := by decide +kernel
theorem dX4_pinch_30 : decode cX4_pinch 30 = .ok (.goto 8, 3) := by decide +kernel
theorem dX4_pinch_33 : decode cX4_pinch 33 = .ok (.aload_n 0, 1) := by decide +kernel
theorem dX4_pinch_34 : decode cX4_pinch 34 = .ok (.iload_n 1, 1) := by decide +kernel
theorem dX4_pinch_35 : decode cX4_pinch 35 = .ok (.invokevirtual 265, 3) := by decide +kernel
theorem dX4_pinch_38 : decode cX4_pinch 38 = .ok (.ireturn, 1) := by decide +kernel
theorem dX4_as_0 : decode cX4_as 0 = .ok (.aload_n 0, 1) := by decide +kernel
theorem dX4_as_1 : decode cX4_as 1 = .ok (.iconst 0, 1) := by decide +kernel
theorem dX4_as_2 : decode cX4_as 2 = .ok (.putfield 42, 3) := by decide +kernel
theorem dX4_as_5 : decode cX4_as 5 = .ok (.aload_n 0, 1) := by decide +kernel
theorem dX4_as_6 : decode cX4_as 6 = .ok (.getfield 21, 3) := by decide +kernel
theorem dX4_as_9 : decode cX4_as 9 = .ok (.iload_n 1, 1) := by decide +kernel
theorem dX4_as_10 : decode cX4_as 10 = .ok (.invokevirtual 85, 3) := by decide +kernel
theorem dX4_as_13 : decode cX4_as 13 = .ok (.ifCond .ne 5, 3) := by decide +kernel
theorem dX4_as_16 : decode cX4_as 16 = .ok (.iconst (-1), 1) := by decide +kernel
theorem dX4_as_17 : decode cX4_as 17 = .ok (.ireturn, 1) := by decide +kernel
theorem dX4_as_18 : decode cX4_as 18 = .ok (.iload_n 2, 1) := by decide +kernel
theorem dX4_as_19 : decode cX4_as 19 = .ok (.ifCond .lt 8, 3) := by decide +kernel
theorem dX4_as_22 : decode cX4_as 22 = .ok (.iload_n 2, 1) := by decide +kernel
theorem dX4_as_23 : decode cX4_as 23 = .ok (.iconst 2, 1) := by decide +kernel
theorem dX4_as_24 : decode cX4_as 24 = .ok (.if_icmp .le 6, 3) := by decide +kernel
theorem dX4_as_27 : decode cX4_as 27 = .ok (.bipush (-2), 2) := by decide +kernel
theorem dX4_as_29 : decode cX4_as 29 = .ok (.ireturn, 1) := by decide +kernel
theorem dX4_as_30 : decode cX4_as 30 = .ok (.aload_n 0, 1) := by decide +kernel
theorem dX4_as_31 : decode cX4_as 31 = .ok (.getfield 21, 3) := by decide +kernel
theorem dX4_as_34 : decode cX4_as 34 = .ok (.getfield 88, 3) := by decide +kernel
theorem dX4_as_37 : decode cX4_as 37 = .ok (.iload_n 1, 1) := by decide +kernel
theorem dX4_as_38 : decode cX4_as 38 = .ok (.iaload, 1) := by decide +kernel
theorem dX4_as_39 : decode cX4_as 39 = .ok (.iload_n 2, 1) := by decide +kernel
theorem dX4_as_40 : decode cX4_as 40 = .ok (.if_icmp .lt 7, 3) := by decide +kernel
theorem dX4_as_43 : decode cX4_as 43 = .ok (.iconst 1, 1) := by decide +kernel
theorem dX4_as_44 : decode cX4_as 44 = .ok (.goto 8, 3) := by decide +kernel
theorem dX4_as_47 : decode cX4_as 47 = .ok (.aload_n 0, 1) := by decide +kernel
theorem dX4_as_48 : decode cX4_as 48 = .ok (.iconst 2, 1) := by decide +kernel
theorem dX4_as_49 : decode cX4_as 49 = .ok (.invokevirtual 61, 3) := by decide +kernel
theorem dX4_as_52 : decode cX4_as 52 = .ok (.ireturn, 1) := by decide +kernel
theorem dX4_trace_0 : decode cX4_trace 0 = .ok (.aload_n 0, 1) := by decide +kernel
theorem dX4_trace_1 : decode cX4_trace 1 = .ok (.getfield 268, 3) := by decide +kernel
theorem dX4_trace_4 : decode cX4_trace 4 = .ok (.ireturn, 1) := by decide +kernel
theorem dX4_fault_0 : decode cX4_fault 0 = .ok (.aload_n 0, 1) := by decide +kernel
theorem dX4_fault_1 : decode cX4_fault 1 = .ok (.getfield 42, 3) := by decide +kernel
theorem dX4_fault_4 : decode cX4_fault 4 = .ok (.ireturn, 1) := by decide +kernel
theorem dX4_many_0 : decode cX4_many 0 = .ok (.iload_n 1, 1) := by decide +kernel
theorem dX4_many_1 : decode cX4_many 1 = .ok (.tableswitch 78 0 4 #[35, 43, 51, 59, 70], 35) := by decide +kernel
theorem dX4_many_36 : decode cX4_many 36 = .ok (.aload_n 0, 1) := by decide +kernel
theorem dX4_many_37 : decode cX4_many 37 = .ok (.getfield 21, 3) := by decide +kernel
theorem dX4_many_40 : decode cX4_many 40 = .ok (.getfield 204, 3) := by decide +kernel
theorem dX4_many_43 : decode cX4_many 43 = .ok (.ireturn, 1) := by decide +kernel
theorem dX4_many_44 : decode cX4_many 44 = .ok (.aload_n 0, 1) := by decide +kernel
theorem dX4_many_45 : decode cX4_many 45 = .ok (.getfield 21, 3) := by decide +kernel
theorem dX4_many_48 : decode cX4_many 48 = .ok (.getfield 82, 3) := by decide +kernel
theorem dX4_many_51 : decode cX4_many 51 = .ok (.ireturn, 1) := by decide +kernel
theorem dX4_many_52 : decode cX4_many 52 = .ok (.aload_n 0, 1) := by decide +kernel
theorem dX4_many_53 : decode cX4_many 53 = .ok (.getfield 21, 3) := by decide +kernel
theorem dX4_many_56 : decode cX4_many 56 = .ok (.getfield 145, 3) := by decide +kernel
theorem dX4_many_59 : decode cX4_many 59 = .ok (.ireturn, 1) := by decide +kernel
theorem dX4_many_60 : decode cX4_many 60 = .ok (.aload_n 0, 1) := by decide +kernel
theorem dX4_many_61 : decode cX4_many 61 = .ok (.getfield 21, 3) := by decide +kernel
theorem dX4_many_64 : decode cX4_many 64 = .ok (.invokevirtual 104, 3) := by decide +kernel
theorem dX4_many_67 : decode cX4_many 67 = .ok (.invokestatic 164, 3) := by decide +kernel
theorem dX4_many_70 : decode cX4_many 70 = .ok (.ireturn, 1) := by decide +kernel
theorem dX4_many_71 : decode cX4_many 71 = .ok (.aload_n 0, 1) := by decide +kernel
theorem dX4_many_72 : decode cX4_many 72 = .ok (.getfield 38, 3) := by decide +kernel
theorem dX4_many_75 : decode cX4_many 75 = .ok (.getfield 79, 3) := by decide +kernel
theorem dX4_many_78 : decode cX4_many 78 = .ok (.ireturn, 1) := by decide +kernel
theorem dX4_many_79 : decode cX4_many 79 = .ok (.bipush (-2), 2) := by decide +kernel
theorem dX4_many_81 : decode cX4_many 81 = .ok (.ireturn, 1) := by decide +kernel
theorem dX4_plainBody_0 : decode cX4_plainBody 0 = .ok (.aload_n 0, 1) := by decide +kernel
theorem dX4_plainBody_1 : decode cX4_plainBody 1 = .ok (.iconst 1, 1) := by decide +kernel
theorem dX4_plainBody_2 : decode cX4_plainBody 2 = .ok (.invokevirtual 271, 3) := by decide +kernel
theorem dX4_plainBody_5 : decode cX4_plainBody 5 = .ok (.aload_n 0, 1) := by decide +kernel
theorem dX4_plainBody_6 : decode cX4_plainBody 6 = .ok (.getfield 21, 3) := by decide +kernel
theorem dX4_plainBody_9 : decode cX4_plainBody 9 = .ok (.getfield 92, 3) := by decide +kernel
theorem dX4_plainBody_12 : decode cX4_plainBody 12 = .ok (.iload_n 1, 1) := by decide +kernel
theorem dX4_plainBody_13 : decode cX4_plainBody 13 = .ok (.iaload, 1) := by decide +kernel
theorem dX4_plainBody_14 : decode cX4_plainBody 14 = .ok (.ireturn, 1) := by decide +kernel
theorem dX4_beardedBody_0 : decode cX4_beardedBody 0 = .ok (.aload_n 0, 1) := by decide +kernel
theorem dX4_beardedBody_1 : decode cX4_beardedBody 1 = .ok (.iconst 2, 1) := by decide +kernel
theorem dX4_beardedBody_2 : decode cX4_beardedBody 2 = .ok (.invokevirtual 271, 3) := by decide +kernel
theorem dX4_beardedBody_5 : decode cX4_beardedBody 5 = .ok (.aload_n 0, 1) := by decide +kernel
theorem dX4_beardedBody_6 : decode cX4_beardedBody 6 = .ok (.iload_n 1, 1) := by decide +kernel
theorem dX4_beardedBody_7 : decode cX4_beardedBody 7 = .ok (.invokevirtual 259, 3) := by decide +kernel
theorem dX4_beardedBody_10 : decode cX4_beardedBody 10 = .ok (.bipush 100, 2) := by decide +kernel
theorem dX4_beardedBody_12 : decode cX4_beardedBody 12 = .ok (.iadd, 1) := by decide +kernel
theorem dX4_beardedBody_13 : decode cX4_beardedBody 13 = .ok (.ireturn, 1) := by decide +kernel
theorem dX4_doubleBody_0 : decode cX4_doubleBody 0 = .ok (.aload_n 0, 1) := by decide +kernel
theorem dX4_doubleBody_1 : decode cX4_doubleBody 1 = .ok (.iconst 3, 1) := by decide +kernel
theorem dX4_doubleBody_2 : decode cX4_doubleBody 2 = .ok (.invokevirtual 271, 3) := by decide +kernel
theorem dX4_doubleBody_5 : decode cX4_doubleBody 5 = .ok (.aload_n 0, 1) := by decide +kernel
theorem dX4_doubleBody_6 : decode cX4_doubleBody 6 = .ok (.iload_n 1, 1) := by decide +kernel
theorem dX4_doubleBody_7 : decode cX4_doubleBody 7 = .ok (.invokevirtual 256, 3) := by decide +kernel
theorem dX4_doubleBody_10 : decode cX4_doubleBody 10 = .ok (.istore_n 2, 1) := by decide +kernel
theorem dX4_doubleBody_11 : decode cX4_doubleBody 11 = .ok (.iload_n 2, 1) := by decide +kernel
theorem dX4_doubleBody_12 : decode cX4_doubleBody 12 = .ok (.aload_n 0, 1) := by decide +kernel
theorem dX4_doubleBody_13 : decode cX4_doubleBody 13 = .ok (.iload_n 1, 1) := by decide +kernel
theorem dX4_doubleBody_14 : decode cX4_doubleBody 14 = .ok (.invokevirtual 259, 3) := by decide +kernel
theorem dX4_doubleBody_17 : decode cX4_doubleBody 17 = .ok (.iadd, 1) := by decide +kernel
theorem dX4_doubleBody_18 : decode cX4_doubleBody 18 = .ok (.ireturn, 1) := by decide +kernel
theorem dX4_lentPinch_0 : decode cX4_lentPinch 0 = .ok (.aload_n 0, 1) := by decide +kernel
theorem dX4_lentPinch_1 : decode cX4_lentPinch 1 = .ok (.iconst 4, 1) := by decide +kernel
theorem dX4_lentPinch_2 : decode cX4_lentPinch 2 = .ok (.invokevirtual 271, 3) := by decide +kernel
theorem dX4_lentPinch_5 : decode cX4_lentPinch 5 = .ok (.aload_n 0, 1) := by decide +kernel
theorem dX4_lentPinch_6 : decode cX4_lentPinch 6 = .ok (.getfield 21, 3) := by decide +kernel
theorem dX4_lentPinch_9 : decode cX4_lentPinch 9 = .ok (.iload_n 1, 1) := by decide +kernel
theorem dX4_lentPinch_10 : decode cX4_lentPinch 10 = .ok (.invokevirtual 101, 3) := by decide +kernel
theorem dX4_lentPinch_13 : decode cX4_lentPinch 13 = .ok (.invokestatic 164, 3) := by decide +kernel
theorem dX4_lentPinch_16 : decode cX4_lentPinch 16 = .ok (.ireturn, 1) := by decide +kernel
theorem dX4_doublePinch_0 : decode cX4_doublePinch 0 = .ok (.aload_n 0, 1) := by decide +kernel
theorem dX4_doublePinch_1 : decode cX4_doublePinch 1 = .ok (.iconst 5, 1) := by decide +kernel
theorem dX4_doublePinch_2 : decode cX4_doublePinch 2 = .ok (.invokevirtual 271, 3) := by decide +kernel
theorem dX4_doublePinch_5 : decode cX4_doublePinch 5 = .ok (.bipush 80, 2) := by decide +kernel
theorem dX4_doublePinch_7 : decode cX4_doublePinch 7 = .ok (.ireturn, 1) := by decide +kernel
theorem dX4_leaveInTrace_0 : decode cX4_leaveInTrace 0 = .ok (.aload_n 0, 1) := by decide +kernel
theorem dX4_leaveInTrace_1 : decode cX4_leaveInTrace 1 = .ok (.bipush 31, 2) := by decide +kernel
theorem dX4_leaveInTrace_3 : decode cX4_leaveInTrace 3 = .ok (.aload_n 0, 1) := by decide +kernel
theorem dX4_leaveInTrace_4 : decode cX4_leaveInTrace 4 = .ok (.getfield 268, 3) := by decide +kernel
theorem dX4_leaveInTrace_7 : decode cX4_leaveInTrace 7 = .ok (.imul, 1) := by decide +kernel
theorem dX4_leaveInTrace_8 : decode cX4_leaveInTrace 8 = .ok (.iload_n 1, 1) := by decide +kernel
theorem dX4_leaveInTrace_9 : decode cX4_leaveInTrace 9 = .ok (.iadd, 1) := by decide +kernel
theorem dX4_leaveInTrace_10 : decode cX4_leaveInTrace 10 = .ok (.putfield 268, 3) := by decide +kernel
theorem dX4_leaveInTrace_13 : decode cX4_leaveInTrace 13 = .ok (.return_, 1) := by decide +kernel
theorem dX4_failed_0 : decode cX4_failed 0 = .ok (.aload_n 0, 1) := by decide +kernel
theorem dX4_failed_1 : decode cX4_failed 1 = .ok (.iload_n 1, 1) := by decide +kernel
theorem dX4_failed_2 : decode cX4_failed 2 = .ok (.putfield 42, 3) := by decide +kernel
theorem dX4_failed_5 : decode cX4_failed 5 = .ok (.bipush (-10), 2) := by decide +kernel
theorem dX4_failed_7 : decode cX4_failed 7 = .ok (.iload_n 1, 1) := by decide +kernel
theorem dX4_failed_8 : decode cX4_failed 8 = .ok (.isub, 1) := by decide +kernel
theorem dX4_failed_9 : decode cX4_failed 9 = .ok (.ireturn, 1) := by decide +kernel
theorem dX4_hasDay_0 : decode cX4_hasDay 0 = .ok (.aload_n 0, 1) := by decide +kernel
theorem dX4_hasDay_1 : decode cX4_hasDay 1 = .ok (.getfield 21, 3) := by decide +kernel
theorem dX4_hasDay_4 : decode cX4_hasDay 4 = .ok (.getfield 82, 3) := by decide +kernel
theorem dX4_hasDay_7 : decode cX4_hasDay 7 = .ok (.ifCond .le 7, 3) := by decide +kernel
theorem dX4_hasDay_10 : decode cX4_hasDay 10 = .ok (.iconst 1, 1) := by decide +kernel
theorem dX4_hasDay_11 : decode cX4_hasDay 11 = .ok (.goto 4, 3) := by decide +kernel
theorem dX4_hasDay_14 : decode cX4_hasDay 14 = .ok (.iconst 0, 1) := by decide +kernel
theorem dX4_hasDay_15 : decode cX4_hasDay 15 = .ok (.ireturn, 1) := by decide +kernel
theorem dX4_isSheet_0 : decode cX4_isSheet 0 = .ok (.iload_n 0, 1) := by decide +kernel
theorem dX4_isSheet_1 : decode cX4_isSheet 1 = .ok (.ifCond .lt 12, 3) := by decide +kernel
theorem dX4_isSheet_4 : decode cX4_isSheet 4 = .ok (.iload_n 0, 1) := by decide +kernel
theorem dX4_isSheet_5 : decode cX4_isSheet 5 = .ok (.iconst 4, 1) := by decide +kernel
theorem dX4_isSheet_6 : decode cX4_isSheet 6 = .ok (.if_icmp .ge 7, 3) := by decide +kernel
theorem dX4_isSheet_9 : decode cX4_isSheet 9 = .ok (.iconst 1, 1) := by decide +kernel
theorem dX4_isSheet_10 : decode cX4_isSheet 10 = .ok (.goto 4, 3) := by decide +kernel
theorem dX4_isSheet_13 : decode cX4_isSheet 13 = .ok (.iconst 0, 1) := by decide +kernel
theorem dX4_isSheet_14 : decode cX4_isSheet 14 = .ok (.ireturn, 1) := by decide +kernel
theorem dX4_isLane_0 : decode cX4_isLane 0 = .ok (.iload_n 0, 1) := by decide +kernel
theorem dX4_isLane_1 : decode cX4_isLane 1 = .ok (.ifCond .lt 12, 3) := by decide +kernel
theorem dX4_isLane_4 : decode cX4_isLane 4 = .ok (.iload_n 0, 1) := by decide +kernel
theorem dX4_isLane_5 : decode cX4_isLane 5 = .ok (.iconst 2, 1) := by decide +kernel
theorem dX4_isLane_6 : decode cX4_isLane 6 = .ok (.if_icmp .gt 7, 3) := by decide +kernel
theorem dX4_isLane_9 : decode cX4_isLane 9 = .ok (.iconst 1, 1) := by decide +kernel
theorem dX4_isLane_10 : decode cX4_isLane 10 = .ok (.goto 4, 3) := by decide +kernel
theorem dX4_isLane_13 : decode cX4_isLane 13 = .ok (.iconst 0, 1) := by decide +kernel
theorem dX4_isLane_14 : decode cX4_isLane 14 = .ok (.ireturn, 1) := by decide +kernel
theorem dX4_isDigit_0 : decode cX4_isDigit 0 = .ok (.iload_n 0, 1) := by decide +kernel
theorem dX4_isDigit_1 : decode cX4_isDigit 1 = .ok (.ifCond .lt 13, 3) := by decide +kernel
theorem dX4_isDigit_4 : decode cX4_isDigit 4 = .ok (.iload_n 0, 1) := by decide +kernel
theorem dX4_isDigit_5 : decode cX4_isDigit 5 = .ok (.bipush 9, 2) := by decide +kernel
theorem dX4_isDigit_7 : decode cX4_isDigit 7 = .ok (.if_icmp .gt 7, 3) := by decide +kernel
theorem dX4_isDigit_10 : decode cX4_isDigit 10 = .ok (.iconst 1, 1) := by decide +kernel
theorem dX4_isDigit_11 : decode cX4_isDigit 11 = .ok (.goto 4, 3) := by decide +kernel
theorem dX4_isDigit_14 : decode cX4_isDigit 14 = .ok (.iconst 0, 1) := by decide +kernel
theorem dX4_isDigit_15 : decode cX4_isDigit 15 = .ok (.ireturn, 1) := by decide +kernel
theorem dX4_hasBit_0 : decode cX4_hasBit 0 = .ok (.iload_n 0, 1) := by decide +kernel
theorem dX4_hasBit_1 : decode cX4_hasBit 1 = .ok (.iload_n 1, 1) := by decide +kernel
theorem dX4_hasBit_2 : decode cX4_hasBit 2 = .ok (.ishr, 1) := by decide +kernel
theorem dX4_hasBit_3 : decode cX4_hasBit 3 = .ok (.iconst 1, 1) := by decide +kernel
theorem dX4_hasBit_4 : decode cX4_hasBit 4 = .ok (.iand, 1) := by decide +kernel
theorem dX4_hasBit_5 : decode cX4_hasBit 5 = .ok (.ifCond .eq 7, 3) := by decide +kernel
theorem dX4_hasBit_8 : decode cX4_hasBit 8 = .ok (.iconst 1, 1) := by decide +kernel
theorem dX4_hasBit_9 : decode cX4_hasBit 9 = .ok (.goto 4, 3) := by decide +kernel
theorem dX4_hasBit_12 : decode cX4_hasBit 12 = .ok (.iconst 0, 1) := by decide +kernel
theorem dX4_hasBit_13 : decode cX4_hasBit 13 = .ok (.ireturn, 1) := by decide +kernel
theorem dX5_init_0 : decode cX5_init 0 = .ok (.aload_n 0, 1) := by decide +kernel
theorem dX5_init_1 : decode cX5_init 1 = .ok (.invokespecial 1, 3) := by decide +kernel
theorem dX5_init_4 : decode cX5_init 4 = .ok (.aload_n 0, 1) := by decide +kernel
theorem dX5_init_5 : decode cX5_init 5 = .ok (.iconst 4, 1) := by decide +kernel
theorem dX5_init_6 : decode cX5_init 6 = .ok (.newarray .int, 2) := by decide +kernel
theorem dX5_init_8 : decode cX5_init 8 = .ok (.dup, 1) := by decide +kernel
theorem dX5_init_9 : decode cX5_init 9 = .ok (.iconst 0, 1) := by decide +kernel
theorem dX5_init_10 : decode cX5_init 10 = .ok (.bipush (-9), 2) := by decide +kernel
theorem dX5_init_12 : decode cX5_init 12 = .ok (.iastore, 1) := by decide +kernel
theorem dX5_init_13 : decode cX5_init 13 = .ok (.dup, 1) := by decide +kernel
theorem dX5_init_14 : decode cX5_init 14 = .ok (.iconst 1, 1) := by decide +kernel
theorem dX5_init_15 : decode cX5_init 15 = .ok (.bipush (-9), 2) := by decide +kernel
theorem dX5_init_17 : decode cX5_init 17 = .ok (.iastore, 1) := by decide +kernel
theorem dX5_init_18 : decode cX5_init 18 = .ok (.dup, 1) := by decide +kernel
theorem dX5_init_19 : decode cX5_init 19 = .ok (.iconst 2, 1) := by decide +kernel
theorem dX5_init_20 : decode cX5_init 20 = .ok (.bipush (-9), 2) := by decide +kernel
theorem dX5_init_22 : decode cX5_init 22 = .ok (.iastore, 1) := by decide +kernel
theorem dX5_init_23 : decode cX5_init 23 = .ok (.dup, 1) := by decide +kernel
theorem dX5_init_24 : decode cX5_init 24 = .ok (.iconst 3, 1) := by decide +kernel
theorem dX5_init_25 : decode cX5_init 25 = .ok (.bipush (-9), 2) := by decide +kernel
theorem dX5_init_27 : decode cX5_init 27 = .ok (.iastore, 1) := by decide +kernel
theorem dX5_init_28 : decode cX5_init 28 = .ok (.putfield 9, 3) := by decide +kernel
theorem dX5_init_31 : decode cX5_init 31 = .ok (.aload_n 0, 1) := by decide +kernel
theorem dX5_init_32 : decode cX5_init 32 = .ok (.iconst 4, 1) := by decide +kernel
theorem dX5_init_33 : decode cX5_init 33 = .ok (.newarray .int, 2) := by decide +kernel
theorem dX5_init_35 : decode cX5_init 35 = .ok (.putfield 13, 3) := by decide +kernel
theorem dX5_init_38 : decode cX5_init 38 = .ok (.aload_n 0, 1) := by decide +kernel
theorem dX5_init_39 : decode cX5_init 39 = .ok (.sipush 240, 3) := by decide +kernel
theorem dX5_init_42 : decode cX5_init 42 = .ok (.newarray .int, 2) := by decide +kernel
theorem dX5_init_44 : decode cX5_init 44 = .ok (.putfield 16, 3) := by decide +kernel
theorem dX5_init_47 : decode cX5_init 47 = .ok (.aload_n 0, 1) := by decide +kernel
theorem dX5_init_48 : decode cX5_init 48 = .ok (.bipush (-9), 2) := by decide +kernel
theorem dX5_init_50 : decode cX5_init 50 = .ok (.putfield 19, 3) := by decide +kernel
theorem dX5_init_53 : decode cX5_init 53 = .ok (.aload_n 0, 1) := by decide +kernel
theorem dX5_init_54 : decode cX5_init 54 = .ok (.bipush 6, 2) := by decide +kernel
theorem dX5_init_56 : decode cX5_init 56 = .ok (.newarray .int, 2) := by decide +kernel
theorem dX5_init_58 : decode cX5_init 58 = .ok (.putfield 23, 3) := by decide +kernel
theorem dX5_init_61 : decode cX5_init 61 = .ok (.aload_n 0, 1) := by decide +kernel
theorem dX5_init_62 : decode cX5_init 62 = .ok (.iconst 4, 1) := by decide +kernel
theorem dX5_init_63 : decode cX5_init 63 = .ok (.newarray .int, 2) := by decide +kernel
theorem dX5_init_65 : decode cX5_init 65 = .ok (.putfield 26, 3) := by decide +kernel
theorem dX5_init_68 : decode cX5_init 68 = .ok (.aload_n 0, 1) := by decide +kernel
theorem dX5_init_69 : decode cX5_init 69 = .ok (.iconst 4, 1) := by decide +kernel
theorem dX5_init_70 : decode cX5_init 70 = .ok (.newarray .int, 2) := by decide +kernel
theorem dX5_init_72 : decode cX5_init 72 = .ok (.putfield 29, 3) := by decide +kernel
theorem dX5_init_75 : decode cX5_init 75 = .ok (.aload_n 0, 1) := by decide +kernel
theorem dX5_init_76 : decode cX5_init 76 = .ok (.bipush 6, 2) := by decide +kernel
theorem dX5_init_78 : decode cX5_init 78 = .ok (.newarray .int, 2) := by decide +kernel
theorem dX5_init_80 : decode cX5_init 80 = .ok (.putfield 32, 3) := by decide +kernel
theorem dX5_init_83 : decode cX5_init 83 = .ok (.aload_n 0, 1) := by decide +kernel
theorem dX5_init_84 : decode cX5_init 84 = .ok (.bipush 6, 2) := by decide +kernel
theorem dX5_init_86 : decode cX5_init 86 = .ok (.newarray .int, 2) := by decide +kernel
theorem dX5_init_88 : decode cX5_init 88 = .ok (.putfield 35, 3) := by decide +kernel
theorem dX5_init_91 : decode cX5_init 91 = .ok (.aload_n 0, 1) := by decide +kernel
theorem dX5_init_92 : decode cX5_init 92 = .ok (.bipush 6, 2) := by decide +kernel
theorem dX5_init_94 : decode cX5_init 94 = .ok (.newarray .int, 2) := by decide +kernel
theorem dX5_init_96 : decode cX5_init 96 = .ok (.putfield 38, 3) := by decide +kernel
theorem dX5_init_99 : decode cX5_init 99 = .ok (.aload_n 0, 1) := by decide +kernel
theorem dX5_init_100 : decode cX5_init 100 = .ok (.bipush 6, 2) := by decide +kernel
theorem dX5_init_102 : decode cX5_init 102 = .ok (.newarray .int, 2) := by decide +kernel
theorem dX5_init_104 : decode cX5_init 104 = .ok (.putfield 41, 3) := by decide +kernel
theorem dX5_init_107 : decode cX5_init 107 = .ok (.aload_n 0, 1) := by decide +kernel
theorem dX5_init_108 : decode cX5_init 108 = .ok (.bipush 8, 2) := by decide +kernel
theorem dX5_init_110 : decode cX5_init 110 = .ok (.newarray .int, 2) := by decide +kernel
theorem dX5_init_112 : decode cX5_init 112 = .ok (.putfield 44, 3) := by decide +kernel
theorem dX5_init_115 : decode cX5_init 115 = .ok (.aload_n 0, 1) := by decide +kernel
theorem dX5_init_116 : decode cX5_init 116 = .ok (.bipush 18, 2) := by decide +kernel
theorem dX5_init_118 : decode cX5_init 118 = .ok (.newarray .int, 2) := by decide +kernel
theorem dX5_init_120 : decode cX5_init 120 = .ok (.putfield 47, 3) := by decide +kernel
theorem dX5_init_123 : decode cX5_init 123 = .ok (.aload_n 0, 1) := by decide +kernel
theorem dX5_init_124 : decode cX5_init 124 = .ok (.bipush 31, 2) := by decide +kernel
theorem dX5_init_126 : decode cX5_init 126 = .ok (.newarray .int, 2) := by decide +kernel
theorem dX5_init_128 : decode cX5_init 128 = .ok (.putfield 50, 3) := by decide +kernel
theorem dX5_init_131 : decode cX5_init 131 = .ok (.aload_n 0, 1) := by decide +kernel
theorem dX5_init_132 : decode cX5_init 132 = .ok (.bipush 8, 2) := by decide +kernel
theorem dX5_init_134 : decode cX5_init 134 = .ok (.newarray .int, 2) := by decide +kernel
theorem dX5_init_136 : decode cX5_init 136 = .ok (.putfield 53, 3) := by decide +kernel
theorem dX5_init_139 : decode cX5_init 139 = .ok (.aload_n 0, 1) := by decide +kernel
theorem dX5_init_140 : decode cX5_init 140 = .ok (.bipush 8, 2) := by decide +kernel
theorem dX5_init_142 : decode cX5_init 142 = .ok (.newarray .int, 2) := by decide +kernel
theorem dX5_init_144 : decode cX5_init 144 = .ok (.putfield 56, 3) := by decide +kernel
theorem dX5_init_147 : decode cX5_init 147 = .ok (.aload_n 0, 1) := by decide +kernel
theorem dX5_init_148 : decode cX5_init 148 = .ok (.bipush 8, 2) := by decide +kernel
theorem dX5_init_150 : decode cX5_init 150 = .ok (.newarray .int, 2) := by decide +kernel
theorem dX5_init_152 : decode cX5_init 152 = .ok (.putfield 59, 3) := by decide +kernel
theorem dX5_init_155 : decode cX5_init 155 = .ok (.return_, 1) := by decide +kernel
theorem dX5_fails_0 : decode cX5_fails 0 = .ok (.aload_n 0, 1) := by decide +kernel
theorem dX5_fails_1 : decode cX5_fails 1 = .ok (.iload_n 1, 1) := by decide +kernel
theorem dX5_fails_2 : decode cX5_fails 2 = .ok (.putfield 62, 3) := by decide +kernel
theorem dX5_fails_5 : decode cX5_fails 5 = .ok (.bipush (-10), 2) := by decide +kernel
theorem dX5_fails_7 : decode cX5_fails 7 = .ok (.iload_n 1, 1) := by decide +kernel
theorem dX5_fails_8 : decode cX5_fails 8 = .ok (.isub, 1) := by decide +kernel
theorem dX5_fails_9 : decode cX5_fails 9 = .ok (.ireturn, 1) := by decide +kernel
theorem dX5_lost_0 : decode cX5_lost 0 = .ok (.aload_n 0, 1) := by decide +kernel
theorem dX5_lost_1 : decode cX5_lost 1 = .ok (.iload_n 1, 1) := by decide +kernel
theorem dX5_lost_2 : decode cX5_lost 2 = .ok (.putfield 62, 3) := by decide +kernel
theorem dX5_lost_5 : decode cX5_lost 5 = .ok (.ldc2_w 65, 3) := by decide +kernel
theorem dX5_lost_8 : decode cX5_lost 8 = .ok (.lreturn, 1) := by decide +kernel
theorem dX5_within_0 : decode cX5_within 0 = .ok (.iload_n 0, 1) := by decide +kernel
theorem dX5_within_1 : decode cX5_within 1 = .ok (.iload_n 1, 1) := by decide +kernel
theorem dX5_within_2 : decode cX5_within 2 = .ok (.if_icmp .lt 12, 3) := by decide +kernel
theorem dX5_within_5 : decode cX5_within 5 = .ok (.iload_n 0, 1) := by decide +kernel
theorem dX5_within_6 : decode cX5_within 6 = .ok (.iload_n 2, 1) := by decide +kernel
theorem dX5_within_7 : decode cX5_within 7 = .ok (.if_icmp .gt 7, 3) := by decide +kernel
theorem dX5_within_10 : decode cX5_within 10 = .ok (.iconst 1, 1) := by decide +kernel
theorem dX5_within_11 : decode cX5_within 11 = .ok (.goto 4, 3) := by decide +kernel
theorem dX5_within_14 : decode cX5_within 14 = .ok (.iconst 0, 1) := by decide +kernel
theorem dX5_within_15 : decode cX5_within 15 = .ok (.ireturn, 1) := by decide +kernel
theorem dX5_isSheet_0 : decode cX5_isSheet 0 = .ok (.iload_n 0, 1) := by decide +kernel
theorem dX5_isSheet_1 : decode cX5_isSheet 1 = .ok (.iconst 0, 1) := by decide +kernel
theorem dX5_isSheet_2 : decode cX5_isSheet 2 = .ok (.iconst 3, 1) := by decide +kernel
theorem dX5_isSheet_3 : decode cX5_isSheet 3 = .ok (.invokestatic 67, 3) := by decide +kernel
theorem dX5_isSheet_6 : decode cX5_isSheet 6 = .ok (.ireturn, 1) := by decide +kernel
theorem dX5_isSort_0 : decode cX5_isSort 0 = .ok (.iload_n 0, 1) := by decide +kernel
theorem dX5_isSort_1 : decode cX5_isSort 1 = .ok (.iconst 0, 1) := by decide +kernel
theorem dX5_isSort_2 : decode cX5_isSort 2 = .ok (.iconst 2, 1) := by decide +kernel
theorem dX5_isSort_3 : decode cX5_isSort 3 = .ok (.invokestatic 67, 3) := by decide +kernel
theorem dX5_isSort_6 : decode cX5_isSort 6 = .ok (.ireturn, 1) := by decide +kernel
theorem dX5_against_0 : decode cX5_against 0 = .ok (.aload_n 0, 1) := by decide +kernel
theorem dX5_against_1 : decode cX5_against 1 = .ok (.getfield 9, 3) := by decide +kernel
theorem dX5_against_4 : decode cX5_against 4 = .ok (.iload_n 1, 1) := by decide +kernel
theorem dX5_against_5 : decode cX5_against 5 = .ok (.iaload, 1) := by decide +kernel
theorem dX5_against_6 : decode cX5_against 6 = .ok (.bipush (-9), 2) := by decide +kernel
theorem dX5_against_8 : decode cX5_against 8 = .ok (.if_icmp .eq 15, 3) := by decide +kernel
theorem dX5_against_11 : decode cX5_against 11 = .ok (.aload_n 0, 1) := by decide +kernel
theorem dX5_against_12 : decode cX5_against 12 = .ok (.getfield 9, 3) := by decide +kernel
theorem dX5_against_15 : decode cX5_against 15 = .ok (.iload_n 1, 1) := by decide +kernel
theorem dX5_against_16 : decode cX5_against 16 = .ok (.iaload, 1) := by decide +kernel
theorem dX5_against_17 : decode cX5_against 17 = .ok (.iload_n 2, 1) := by decide +kernel
theorem dX5_against_18 : decode cX5_against 18 = .ok (.if_icmp .eq 5, 3) := by decide +kernel
theorem dX5_against_21 : decode cX5_against 21 = .ok (.iconst 2, 1) := by decide +kernel
theorem dX5_against_22 : decode cX5_against 22 = .ok (.ireturn, 1) := by decide +kernel
theorem dX5_against_23 : decode cX5_against 23 = .ok (.aload_n 0, 1) := by decide +kernel
theorem dX5_against_24 : decode cX5_against 24 = .ok (.getfield 9, 3) := by decide +kernel
theorem dX5_against_27 : decode cX5_against 27 = .ok (.iload_n 1, 1) := by decide +kernel
theorem dX5_against_28 : decode cX5_against 28 = .ok (.iaload, 1) := by decide +kernel
theorem dX5_against_29 : decode cX5_against 29 = .ok (.bipush (-9), 2) := by decide +kernel
theorem dX5_against_31 : decode cX5_against 31 = .ok (.if_icmp .ne 5, 3) := by decide +kernel
theorem dX5_against_34 : decode cX5_against 34 = .ok (.iconst 1, 1) := by decide +kernel
theorem dX5_against_35 : decode cX5_against 35 = .ok (.ireturn, 1) := by decide +kernel
theorem dX5_against_36 : decode cX5_against 36 = .ok (.iload 4, 2) := by decide +kernel
theorem dX5_against_38 : decode cX5_against 38 = .ok (.ifCond .ge 5, 3) := by decide +kernel
theorem dX5_against_41 : decode cX5_against 41 = .ok (.iconst 4, 1) := by decide +kernel
theorem dX5_against_42 : decode cX5_against 42 = .ok (.ireturn, 1) := by decide +kernel
theorem dX5_against_43 : decode cX5_against 43 = .ok (.iload_n 3, 1) := by decide +kernel
theorem dX5_against_44 : decode cX5_against 44 = .ok (.ifCond .lt 26, 3) := by decide +kernel
theorem dX5_against_47 : decode cX5_against 47 = .ok (.iload_n 3, 1) := by decide +kernel
theorem dX5_against_48 : decode cX5_against 48 = .ok (.aload_n 0, 1) := by decide +kernel
theorem dX5_against_49 : decode cX5_against 49 = .ok (.getfield 13, 3) := by decide +kernel
theorem dX5_against_52 : decode cX5_against 52 = .ok (.iload_n 1, 1) := by decide +kernel
theorem dX5_against_53 : decode cX5_against 53 = .ok (.iaload, 1) := by decide +kernel
theorem dX5_against_54 : decode cX5_against 54 = .ok (.if_icmp .gt 16, 3) := by decide +kernel
theorem dX5_against_57 : decode cX5_against 57 = .ok (.iload 4, 2) := by decide +kernel
theorem dX5_against_59 : decode cX5_against 59 = .ok (.aload_n 0, 1) := by decide +kernel
theorem dX5_against_60 : decode cX5_against 60 = .ok (.getfield 13, 3) := by decide +kernel
theorem dX5_against_63 : decode cX5_against 63 = .ok (.iload_n 1, 1) := by decide +kernel
theorem dX5_against_64 : decode cX5_against 64 = .ok (.iaload, 1) := by decide +kernel
theorem dX5_against_65 : decode cX5_against 65 = .ok (.iload_n 3, 1) := by decide +kernel
theorem dX5_against_66 : decode cX5_against 66 = .ok (.isub, 1) := by decide +kernel
theorem dX5_against_67 : decode cX5_against 67 = .ok (.if_icmp .le 7, 3) := by decide +kernel
theorem dX5_against_70 : decode cX5_against 70 = .ok (.iconst 3, 1) := by decide +kernel
theorem dX5_against_71 : decode cX5_against 71 = .ok (.goto 4, 3) := by decide +kernel
theorem dX5_against_74 : decode cX5_against 74 = .ok (.iconst 0, 1) := by decide +kernel
theorem dX5_against_75 : decode cX5_against 75 = .ok (.ireturn, 1) := by decide +kernel
theorem dX5_isHour_0 : decode cX5_isHour 0 = .ok (.iload_n 1, 1) := by decide +kernel
theorem dX5_isHour_1 : decode cX5_isHour 1 = .ok (.ifCond .lt 15, 3) := by decide +kernel
theorem dX5_isHour_4 : decode cX5_isHour 4 = .ok (.iload_n 1, 1) := by decide +kernel
theorem dX5_isHour_5 : decode cX5_isHour 5 = .ok (.aload_n 0, 1) := by decide +kernel
theorem dX5_isHour_6 : decode cX5_isHour 6 = .ok (.getfield 71, 3) := by decide +kernel
theorem dX5_isHour_9 : decode cX5_isHour 9 = .ok (.if_icmp .ge 7, 3) := by decide +kernel
theorem dX5_isHour_12 : decode cX5_isHour 12 = .ok (.iconst 1, 1) := by decide +kernel
theorem dX5_isHour_13 : decode cX5_isHour 13 = .ok (.goto 4, 3) := by decide +kernel
theorem dX5_isHour_16 : decode cX5_isHour 16 = .ok (.iconst 0, 1) := by decide +kernel
theorem dX5_isHour_17 : decode cX5_isHour 17 = .ok (.ireturn, 1) := by decide +kernel
theorem dX5_isSwearer_0 : decode cX5_isSwearer 0 = .ok (.iload_n 1, 1) := by decide +kernel
theorem dX5_isSwearer_1 : decode cX5_isSwearer 1 = .ok (.ifCond .lt 15, 3) := by decide +kernel
theorem dX5_isSwearer_4 : decode cX5_isSwearer 4 = .ok (.iload_n 1, 1) := by decide +kernel
theorem dX5_isSwearer_5 : decode cX5_isSwearer 5 = .ok (.aload_n 0, 1) := by decide +kernel
theorem dX5_isSwearer_6 : decode cX5_isSwearer 6 = .ok (.getfield 74, 3) := by decide +kernel
theorem dX5_isSwearer_9 : decode cX5_isSwearer 9 = .ok (.if_icmp .ge 7, 3) := by decide +kernel
theorem dX5_isSwearer_12 : decode cX5_isSwearer 12 = .ok (.iconst 1, 1) := by decide +kernel
theorem dX5_isSwearer_13 : decode cX5_isSwearer 13 = .ok (.goto 4, 3) := by decide +kernel
theorem dX5_isSwearer_16 : decode cX5_isSwearer 16 = .ok (.iconst 0, 1) := by decide +kernel
theorem dX5_isSwearer_17 : decode cX5_isSwearer 17 = .ok (.ireturn, 1) := by decide +kernel
theorem dX5_isOath_0 : decode cX5_isOath 0 = .ok (.iload_n 1, 1) := by decide +kernel
theorem dX5_isOath_1 : decode cX5_isOath 1 = .ok (.ifCond .lt 15, 3) := by decide +kernel
theorem dX5_isOath_4 : decode cX5_isOath 4 = .ok (.iload_n 1, 1) := by decide +kernel
theorem dX5_isOath_5 : decode cX5_isOath 5 = .ok (.aload_n 0, 1) := by decide +kernel
theorem dX5_isOath_6 : decode cX5_isOath 6 = .ok (.getfield 77, 3) := by decide +kernel
theorem dX5_isOath_9 : decode cX5_isOath 9 = .ok (.if_icmp .ge 7, 3) := by decide +kernel
theorem dX5_isOath_12 : decode cX5_isOath 12 = .ok (.iconst 1, 1) := by decide +kernel
theorem dX5_isOath_13 : decode cX5_isOath 13 = .ok (.goto 4, 3) := by decide +kernel
theorem dX5_isOath_16 : decode cX5_isOath 16 = .ok (.iconst 0, 1) := by decide +kernel
theorem dX5_isOath_17 : decode cX5_isOath 17 = .ok (.ireturn, 1) := by decide +kernel
theorem dX5_isOf_0 : decode cX5_isOf 0 = .ok (.iload_n 0, 1) := by decide +kernel
theorem dX5_isOf_1 : decode cX5_isOf 1 = .ok (.iload_n 1, 1) := by decide +kernel
theorem dX5_isOf_2 : decode cX5_isOf 2 = .ok (.ishr, 1) := by decide +kernel
theorem dX5_isOf_3 : decode cX5_isOf 3 = .ok (.iconst 1, 1) := by decide +kernel
theorem dX5_isOf_4 : decode cX5_isOf 4 = .ok (.iand, 1) := by decide +kernel
theorem dX5_isOf_5 : decode cX5_isOf 5 = .ok (.iconst 1, 1) := by decide +kernel
theorem dX5_isOf_6 : decode cX5_isOf 6 = .ok (.if_icmp .ne 7, 3) := by decide +kernel
theorem dX5_isOf_9 : decode cX5_isOf 9 = .ok (.iconst 1, 1) := by decide +kernel
theorem dX5_isOf_10 : decode cX5_isOf 10 = .ok (.goto 4, 3) := by decide +kernel
theorem dX5_isOf_13 : decode cX5_isOf 13 = .ok (.iconst 0, 1) := by decide +kernel
theorem dX5_isOf_14 : decode cX5_isOf 14 = .ok (.ireturn, 1) := by decide +kernel
theorem dX5_size_0 : decode cX5_size 0 = .ok (.iconst 0, 1) := by decide +kernel
theorem dX5_size_1 : decode cX5_size 1 = .ok (.istore_n 1, 1) := by decide +kernel
theorem dX5_size_2 : decode cX5_size 2 = .ok (.iload_n 0, 1) := by decide +kernel
theorem dX5_size_3 : decode cX5_size 3 = .ok (.istore_n 2, 1) := by decide +kernel
theorem dX5_size_4 : decode cX5_size 4 = .ok (.iload_n 2, 1) := by decide +kernel
theorem dX5_size_5 : decode cX5_size 5 = .ok (.ifCond .le 16, 3) := by decide +kernel
theorem dX5_size_8 : decode cX5_size 8 = .ok (.iload_n 1, 1) := by decide +kernel
theorem dX5_size_9 : decode cX5_size 9 = .ok (.iload_n 2, 1) := by decide +kernel
theorem dX5_size_10 : decode cX5_size 10 = .ok (.iconst 1, 1) := by decide +kernel
theorem dX5_size_11 : decode cX5_size 11 = .ok (.iand, 1) := by decide +kernel
theorem dX5_size_12 : decode cX5_size 12 = .ok (.iadd, 1) := by decide +kernel
theorem dX5_size_13 : decode cX5_size 13 = .ok (.istore_n 1, 1) := by decide +kernel
theorem dX5_size_14 : decode cX5_size 14 = .ok (.iload_n 2, 1) := by decide +kernel
theorem dX5_size_15 : decode cX5_size 15 = .ok (.iconst 1, 1) := by decide +kernel
theorem dX5_size_16 : decode cX5_size 16 = .ok (.ishr, 1) := by decide +kernel
theorem dX5_size_17 : decode cX5_size 17 = .ok (.istore_n 2, 1) := by decide +kernel
theorem dX5_size_18 : decode cX5_size 18 = .ok (.goto (-14), 3) := by decide +kernel
theorem dX5_size_21 : decode cX5_size 21 = .ok (.iload_n 1, 1) := by decide +kernel
theorem dX5_size_22 : decode cX5_size 22 = .ok (.ireturn, 1) := by decide +kernel
theorem dX5_digit_0 : decode cX5_digit 0 = .ok (.aload_n 0, 1) := by decide +kernel
theorem dX5_digit_1 : decode cX5_digit 1 = .ok (.getfield 80, 3) := by decide +kernel
theorem dX5_digit_4 : decode cX5_digit 4 = .ok (.iload_n 1, 1) := by decide +kernel
theorem dX5_digit_5 : decode cX5_digit 5 = .ok (.if_icmp .ge 24, 3) := by decide +kernel
theorem dX5_digit_8 : decode cX5_digit 8 = .ok (.aload_n 0, 1) := by decide +kernel
theorem dX5_digit_9 : decode cX5_digit 9 = .ok (.getfield 16, 3) := by decide +kernel
theorem dX5_digit_12 : decode cX5_digit 12 = .ok (.aload_n 0, 1) := by decide +kernel
theorem dX5_digit_13 : decode cX5_digit 13 = .ok (.getfield 80, 3) := by decide +kernel
theorem dX5_digit_16 : decode cX5_digit 16 = .ok (.iaload, 1) := by decide +kernel
theorem dX5_digit_17 : decode cX5_digit 17 = .ok (.bipush 48, 2) := by decide +kernel
theorem dX5_digit_19 : decode cX5_digit 19 = .ok (.bipush 48, 2) := by decide +kernel
theorem dX5_digit_21 : decode cX5_digit 21 = .ok (.iload_n 2, 1) := by decide +kernel
theorem dX5_digit_22 : decode cX5_digit 22 = .ok (.iadd, 1) := by decide +kernel
theorem dX5_digit_23 : decode cX5_digit 23 = .ok (.invokestatic 67, 3) := by decide +kernel
theorem dX5_digit_26 : decode cX5_digit 26 = .ok (.ifCond .ne 6, 3) := by decide +kernel
theorem dX5_digit_29 : decode cX5_digit 29 = .ok (.bipush (-9), 2) := by decide +kernel
theorem dX5_digit_31 : decode cX5_digit 31 = .ok (.ireturn, 1) := by decide +kernel
theorem dX5_digit_32 : decode cX5_digit 32 = .ok (.aload_n 0, 1) := by decide +kernel
theorem dX5_digit_33 : decode cX5_digit 33 = .ok (.dup, 1) := by decide +kernel
theorem dX5_digit_34 : decode cX5_digit 34 = .ok (.getfield 80, 3) := by decide +kernel
theorem dX5_digit_37 : decode cX5_digit 37 = .ok (.iconst 1, 1) := by decide +kernel
theorem dX5_digit_38 : decode cX5_digit 38 = .ok (.iadd, 1) := by decide +kernel
theorem dX5_digit_39 : decode cX5_digit 39 = .ok (.putfield 80, 3) := by decide +kernel
theorem dX5_digit_42 : decode cX5_digit 42 = .ok (.aload_n 0, 1) := by decide +kernel
theorem dX5_digit_43 : decode cX5_digit 43 = .ok (.getfield 16, 3) := by decide +kernel
theorem dX5_digit_46 : decode cX5_digit 46 = .ok (.aload_n 0, 1) := by decide +kernel
theorem dX5_digit_47 : decode cX5_digit 47 = .ok (.getfield 80, 3) := by decide +kernel
theorem dX5_digit_50 : decode cX5_digit 50 = .ok (.iconst 1, 1) := by decide +kernel
theorem dX5_digit_51 : decode cX5_digit 51 = .ok (.isub, 1) := by decide +kernel
theorem dX5_digit_52 : decode cX5_digit 52 = .ok (.iaload, 1) := by decide +kernel
theorem dX5_digit_53 : decode cX5_digit 53 = .ok (.bipush 48, 2) := by decide +kernel
theorem dX5_digit_55 : decode cX5_digit 55 = .ok (.isub, 1) := by decide +kernel
theorem dX5_digit_56 : decode cX5_digit 56 = .ok (.ireturn, 1) := by decide +kernel
theorem dX5_isSign_0 : decode cX5_isSign 0 = .ok (.aload_n 0, 1) := by decide +kernel
theorem dX5_isSign_1 : decode cX5_isSign 1 = .ok (.getfield 80, 3) := by decide +kernel
theorem dX5_isSign_4 : decode cX5_isSign 4 = .ok (.iload_n 1, 1) := by decide +kernel
theorem dX5_isSign_5 : decode cX5_isSign 5 = .ok (.if_icmp .ge 16, 3) := by decide +kernel
theorem dX5_isSign_8 : decode cX5_isSign 8 = .ok (.aload_n 0, 1) := by decide +kernel
theorem dX5_isSign_9 : decode cX5_isSign 9 = .ok (.getfield 16, 3) := by decide +kernel
theorem dX5_isSign_12 : decode cX5_isSign 12 = .ok (.aload_n 0, 1) := by decide +kernel
theorem dX5_isSign_13 : decode cX5_isSign 13 = .ok (.getfield 80, 3) := by decide +kernel
theorem dX5_isSign_16 : decode cX5_isSign 16 = .ok (.iaload, 1) := by decide +kernel
theorem dX5_isSign_17 : decode cX5_isSign 17 = .ok (.iload_n 2, 1) := by decide +kernel
theorem dX5_isSign_18 : decode cX5_isSign 18 = .ok (.if_icmp .eq 5, 3) := by decide +kernel
theorem dX5_isSign_21 : decode cX5_isSign 21 = .ok (.iconst 0, 1) := by decide +kernel
theorem dX5_isSign_22 : decode cX5_isSign 22 = .ok (.ireturn, 1) := by decide +kernel
theorem dX5_isSign_23 : decode cX5_isSign 23 = .ok (.aload_n 0, 1) := by decide +kernel
theorem dX5_isSign_24 : decode cX5_isSign 24 = .ok (.dup, 1) := by decide +kernel
theorem dX5_isSign_25 : decode cX5_isSign 25 = .ok (.getfield 80, 3) := by decide +kernel
theorem dX5_isSign_28 : decode cX5_isSign 28 = .ok (.iconst 1, 1) := by decide +kernel
theorem dX5_isSign_29 : decode cX5_isSign 29 = .ok (.iadd, 1) := by decide +kernel
theorem dX5_isSign_30 : decode cX5_isSign 30 = .ok (.putfield 80, 3) := by decide +kernel
theorem dX5_isSign_33 : decode cX5_isSign 33 = .ok (.iconst 1, 1) := by decide +kernel
theorem dX5_isSign_34 : decode cX5_isSign 34 = .ok (.ireturn, 1) := by decide +kernel
theorem dX5_day_0 : decode cX5_day 0 = .ok (.aload_n 0, 1) := by decide +kernel
theorem dX5_day_1 : decode cX5_day 1 = .ok (.iconst 0, 1) := by decide +kernel
theorem dX5_day_2 : decode cX5_day 2 = .ok (.putfield 62, 3) := by decide +kernel
theorem dX5_day_5 : decode cX5_day 5 = .ok (.iload_n 1, 1) := by decide +kernel
theorem dX5_day_6 : decode cX5_day 6 = .ok (.invokestatic 83, 3) := by decide +kernel
theorem dX5_day_9 : decode cX5_day 9 = .ok (.ifCond .ne 5, 3) := by decide +kernel
theorem dX5_day_12 : decode cX5_day 12 = .ok (.iconst (-1), 1) := by decide +kernel
theorem dX5_day_13 : decode cX5_day 13 = .ok (.ireturn, 1) := by decide +kernel
theorem dX5_day_14 : decode cX5_day 14 = .ok (.iload_n 2, 1) := by decide +kernel
theorem dX5_day_15 : decode cX5_day 15 = .ok (.invokestatic 87, 3) := by decide +kernel
theorem dX5_day_18 : decode cX5_day 18 = .ok (.ifCond .ne 6, 3) := by decide +kernel
theorem dX5_day_21 : decode cX5_day 21 = .ok (.bipush (-2), 2) := by decide +kernel
theorem dX5_day_23 : decode cX5_day 23 = .ok (.ireturn, 1) := by decide +kernel
theorem dX5_day_24 : decode cX5_day 24 = .ok (.aload_n 0, 1) := by decide +kernel
theorem dX5_day_25 : decode cX5_day 25 = .ok (.iload_n 1, 1) := by decide +kernel
theorem dX5_day_26 : decode cX5_day 26 = .ok (.iload_n 2, 1) := by decide +kernel
theorem dX5_day_27 : decode cX5_day 27 = .ok (.iload_n 3, 1) := by decide +kernel
theorem dX5_day_28 : decode cX5_day 28 = .ok (.iload 4, 2) := by decide +kernel
theorem dX5_day_30 : decode cX5_day 30 = .ok (.invokevirtual 90, 3) := by decide +kernel
theorem dX5_day_33 : decode cX5_day 33 = .ok (.istore 5, 2) := by decide +kernel
theorem dX5_day_35 : decode cX5_day 35 = .ok (.iload 5, 2) := by decide +kernel
theorem dX5_day_37 : decode cX5_day 37 = .ok (.ifCond .eq 10, 3) := by decide +kernel
theorem dX5_day_40 : decode cX5_day 40 = .ok (.aload_n 0, 1) := by decide +kernel
theorem dX5_day_41 : decode cX5_day 41 = .ok (.iload 5, 2) := by decide +kernel
theorem dX5_day_43 : decode cX5_day 43 = .ok (.invokevirtual 94, 3) := by decide +kernel
theorem dX5_day_46 : decode cX5_day 46 = .ok (.ireturn, 1) := by decide +kernel
theorem dX5_day_47 : decode cX5_day 47 = .ok (.bipush 60, 2) := by decide +kernel
theorem dX5_day_49 : decode cX5_day 49 = .ok (.iload_n 1, 1) := by decide +kernel
theorem dX5_day_50 : decode cX5_day 50 = .ok (.imul, 1) := by decide +kernel
theorem dX5_day_51 : decode cX5_day 51 = .ok (.iload_n 3, 1) := by decide +kernel
theorem dX5_day_52 : decode cX5_day 52 = .ok (.iadd, 1) := by decide +kernel
theorem dX5_day_53 : decode cX5_day 53 = .ok (.istore 6, 2) := by decide +kernel
theorem dX5_day_55 : decode cX5_day 55 = .ok (.aload_n 0, 1) := by decide +kernel
theorem dX5_day_56 : decode cX5_day 56 = .ok (.iload 6, 2) := by decide +kernel
theorem dX5_day_58 : decode cX5_day 58 = .ok (.putfield 80, 3) := by decide +kernel
theorem dX5_day_61 : decode cX5_day 61 = .ok (.aload_n 0, 1) := by decide +kernel
theorem dX5_day_62 : decode cX5_day 62 = .ok (.iload 6, 2) := by decide +kernel
theorem dX5_day_64 : decode cX5_day 64 = .ok (.iload 4, 2) := by decide +kernel
theorem dX5_day_66 : decode cX5_day 66 = .ok (.iadd, 1) := by decide +kernel
theorem dX5_day_67 : decode cX5_day 67 = .ok (.invokevirtual 98, 3) := by decide +kernel
theorem dX5_day_70 : decode cX5_day 70 = .ok (.ifCond .ne 14, 3) := by decide +kernel
theorem dX5_day_73 : decode cX5_day 73 = .ok (.bipush (-100), 2) := by decide +kernel
theorem dX5_day_75 : decode cX5_day 75 = .ok (.aload_n 0, 1) := by decide +kernel
theorem dX5_day_76 : decode cX5_day 76 = .ok (.getfield 80, 3) := by decide +kernel
theorem dX5_day_79 : decode cX5_day 79 = .ok (.iload 6, 2) := by decide +kernel
theorem dX5_day_81 : decode cX5_day 81 = .ok (.isub, 1) := by decide +kernel
theorem dX5_day_82 : decode cX5_day 82 = .ok (.isub, 1) := by decide +kernel
theorem dX5_day_83 : decode cX5_day 83 = .ok (.ireturn, 1) := by decide +kernel
theorem dX5_day_84 : decode cX5_day 84 = .ok (.aload_n 0, 1) := by decide +kernel
theorem dX5_day_85 : decode cX5_day 85 = .ok (.invokevirtual 101, 3) := by decide +kernel
theorem dX5_day_88 : decode cX5_day 88 = .ok (.aload_n 0, 1) := by decide +kernel
theorem dX5_day_89 : decode cX5_day 89 = .ok (.getfield 74, 3) := by decide +kernel
theorem dX5_day_92 : decode cX5_day 92 = .ok (.ireturn, 1) := by decide +kernel
theorem dX5_takeDay_0 : decode cX5_takeDay 0 = .ok (.aload_n 0, 1) := by decide +kernel
theorem dX5_takeDay_1 : decode cX5_takeDay 1 = .ok (.aload_n 0, 1) := by decide +kernel
theorem dX5_takeDay_2 : decode cX5_takeDay 2 = .ok (.getfield 104, 3) := by decide +kernel
theorem dX5_takeDay_5 : decode cX5_takeDay 5 = .ok (.putfield 71, 3) := by decide +kernel
theorem dX5_takeDay_8 : decode cX5_takeDay 8 = .ok (.aload_n 0, 1) := by decide +kernel
theorem dX5_takeDay_9 : decode cX5_takeDay 9 = .ok (.aload_n 0, 1) := by decide +kernel
theorem dX5_takeDay_10 : decode cX5_takeDay 10 = .ok (.getfield 107, 3) := by decide +kernel
theorem dX5_takeDay_13 : decode cX5_takeDay 13 = .ok (.putfield 74, 3) := by decide +kernel
theorem dX5_takeDay_16 : decode cX5_takeDay 16 = .ok (.aload_n 0, 1) := by decide +kernel
theorem dX5_takeDay_17 : decode cX5_takeDay 17 = .ok (.aload_n 0, 1) := by decide +kernel
theorem dX5_takeDay_18 : decode cX5_takeDay 18 = .ok (.getfield 110, 3) := by decide +kernel
theorem dX5_takeDay_21 : decode cX5_takeDay 21 = .ok (.putfield 77, 3) := by decide +kernel
theorem dX5_takeDay_24 : decode cX5_takeDay 24 = .ok (.iconst 0, 1) := by decide +kernel
theorem dX5_takeDay_25 : decode cX5_takeDay 25 = .ok (.istore_n 1, 1) := by decide +kernel
theorem dX5_takeDay_26 : decode cX5_takeDay 26 = .ok (.iload_n 1, 1) := by decide +kernel
theorem dX5_takeDay_27 : decode cX5_takeDay 27 = .ok (.aload_n 0, 1) := by decide +kernel
theorem dX5_takeDay_28 : decode cX5_takeDay 28 = .ok (.getfield 71, 3) := by decide +kernel
theorem dX5_takeDay_31 : decode cX5_takeDay 31 = .ok (.if_icmp .ge 21, 3) := by decide +kernel
theorem dX5_takeDay_34 : decode cX5_takeDay 34 = .ok (.aload_n 0, 1) := by decide +kernel
theorem dX5_takeDay_35 : decode cX5_takeDay 35 = .ok (.getfield 23, 3) := by decide +kernel
theorem dX5_takeDay_38 : decode cX5_takeDay 38 = .ok (.iload_n 1, 1) := by decide +kernel
theorem dX5_takeDay_39 : decode cX5_takeDay 39 = .ok (.aload_n 0, 1) := by decide +kernel
theorem dX5_takeDay_40 : decode cX5_takeDay 40 = .ok (.getfield 41, 3) := by decide +kernel
theorem dX5_takeDay_43 : decode cX5_takeDay 43 = .ok (.iload_n 1, 1) := by decide +kernel
theorem dX5_takeDay_44 : decode cX5_takeDay 44 = .ok (.iaload, 1) := by decide +kernel
theorem dX5_takeDay_45 : decode cX5_takeDay 45 = .ok (.iastore, 1) := by decide +kernel
theorem dX5_takeDay_46 : decode cX5_takeDay 46 = .ok (.iinc 1 1, 3) := by decide +kernel
theorem dX5_takeDay_49 : decode cX5_takeDay 49 = .ok (.goto (-23), 3) := by decide +kernel
theorem dX5_takeDay_52 : decode cX5_takeDay 52 = .ok (.iconst 0, 1) := by decide +kernel
theorem dX5_takeDay_53 : decode cX5_takeDay 53 = .ok (.istore_n 1, 1) := by decide +kernel
theorem dX5_takeDay_54 : decode cX5_takeDay 54 = .ok (.iload_n 1, 1) := by decide +kernel
theorem dX5_takeDay_55 : decode cX5_takeDay 55 = .ok (.aload_n 0, 1) := by decide +kernel
theorem dX5_takeDay_56 : decode cX5_takeDay 56 = .ok (.getfield 74, 3) := by decide +kernel
theorem dX5_takeDay_59 : decode cX5_takeDay 59 = .ok (.if_icmp .ge 39, 3) := by decide +kernel
theorem dX5_takeDay_62 : decode cX5_takeDay 62 = .ok (.aload_n 0, 1) := by decide +kernel
theorem dX5_takeDay_63 : decode cX5_takeDay 63 = .ok (.getfield 26, 3) := by decide +kernel
theorem dX5_takeDay_66 : decode cX5_takeDay 66 = .ok (.iload_n 1, 1) := by decide +kernel
theorem dX5_takeDay_67 : decode cX5_takeDay 67 = .ok (.aload_n 0, 1) := by decide +kernel
theorem dX5_takeDay_68 : decode cX5_takeDay 68 = .ok (.getfield 44, 3) := by decide +kernel
theorem dX5_takeDay_71 : decode cX5_takeDay 71 = .ok (.iconst 2, 1) := by decide +kernel
theorem dX5_takeDay_72 : decode cX5_takeDay 72 = .ok (.iload_n 1, 1) := by decide +kernel
theorem dX5_takeDay_73 : decode cX5_takeDay 73 = .ok (.imul, 1) := by decide +kernel
theorem dX5_takeDay_74 : decode cX5_takeDay 74 = .ok (.iaload, 1) := by decide +kernel
theorem dX5_takeDay_75 : decode cX5_takeDay 75 = .ok (.iastore, 1) := by decide +kernel
theorem dX5_takeDay_76 : decode cX5_takeDay 76 = .ok (.aload_n 0, 1) := by decide +kernel
theorem dX5_takeDay_77 : decode cX5_takeDay 77 = .ok (.getfield 29, 3) := by decide +kernel
theorem dX5_takeDay_80 : decode cX5_takeDay 80 = .ok (.iload_n 1, 1) := by decide +kernel
theorem dX5_takeDay_81 : decode cX5_takeDay 81 = .ok (.aload_n 0, 1) := by decide +kernel
theorem dX5_takeDay_82 : decode cX5_takeDay 82 = .ok (.getfield 44, 3) := by decide +kernel
theorem dX5_takeDay_85 : decode cX5_takeDay 85 = .ok (.iconst 2, 1) := by decide +kernel
theorem dX5_takeDay_86 : decode cX5_takeDay 86 = .ok (.iload_n 1, 1) := by decide +kernel
theorem dX5_takeDay_87 : decode cX5_takeDay 87 = .ok (.imul, 1) := by decide +kernel
theorem dX5_takeDay_88 : decode cX5_takeDay 88 = .ok (.iconst 1, 1) := by decide +kernel
theorem dX5_takeDay_89 : decode cX5_takeDay 89 = .ok (.iadd, 1) := by decide +kernel
theorem dX5_takeDay_90 : decode cX5_takeDay 90 = .ok (.iaload, 1) := by decide +kernel
theorem dX5_takeDay_91 : decode cX5_takeDay 91 = .ok (.iastore, 1) := by decide +kernel
theorem dX5_takeDay_92 : decode cX5_takeDay 92 = .ok (.iinc 1 1, 3) := by decide +kernel
theorem dX5_takeDay_95 : decode cX5_takeDay 95 = .ok (.goto (-41), 3) := by decide +kernel
theorem dX5_takeDay_98 : decode cX5_takeDay 98 = .ok (.iconst 0, 1) := by decide +kernel
theorem dX5_takeDay_99 : decode cX5_takeDay 99 = .ok (.istore_n 1, 1) := by decide +kernel
theorem dX5_takeDay_100 : decode cX5_takeDay 100 = .ok (.iload_n 1, 1) := by decide +kernel
theorem dX5_takeDay_101 : decode cX5_takeDay 101 = .ok (.aload_n 0, 1) := by decide +kernel
theorem dX5_takeDay_102 : decode cX5_takeDay 102 = .ok (.getfield 77, 3) := by decide +kernel
theorem dX5_takeDay_105 : decode cX5_takeDay 105 = .ok (.if_icmp .ge 55, 3) := by decide +kernel
theorem dX5_takeDay_108 : decode cX5_takeDay 108 = .ok (.aload_n 0, 1) := by decide +kernel
theorem dX5_takeDay_109 : decode cX5_takeDay 109 = .ok (.getfield 32, 3) := by decide +kernel
theorem dX5_takeDay_112 : decode cX5_takeDay 112 = .ok (.iload_n 1, 1) := by decide +kernel
theorem dX5_takeDay_113 : decode cX5_takeDay 113 = .ok (.aload_n 0, 1) := by decide +kernel
theorem dX5_takeDay_114 : decode cX5_takeDay 114 = .ok (.getfield 47, 3) := by decide +kernel
theorem dX5_takeDay_117 : decode cX5_takeDay 117 = .ok (.iconst 3, 1) := by decide +kernel
theorem dX5_takeDay_118 : decode cX5_takeDay 118 = .ok (.iload_n 1, 1) := by decide +kernel
theorem dX5_takeDay_119 : decode cX5_takeDay 119 = .ok (.imul, 1) := by decide +kernel
theorem dX5_takeDay_120 : decode cX5_takeDay 120 = .ok (.iaload, 1) := by decide +kernel
theorem dX5_takeDay_121 : decode cX5_takeDay 121 = .ok (.iastore, 1) := by decide +kernel
theorem dX5_takeDay_122 : decode cX5_takeDay 122 = .ok (.aload_n 0, 1) := by decide +kernel
theorem dX5_takeDay_123 : decode cX5_takeDay 123 = .ok (.getfield 35, 3) := by decide +kernel
theorem dX5_takeDay_126 : decode cX5_takeDay 126 = .ok (.iload_n 1, 1) := by decide +kernel
theorem dX5_takeDay_127 : decode cX5_takeDay 127 = .ok (.aload_n 0, 1) := by decide +kernel
theorem dX5_takeDay_128 : decode cX5_takeDay 128 = .ok (.getfield 47, 3) := by decide +kernel
theorem dX5_takeDay_131 : decode cX5_takeDay 131 = .ok (.iconst 3, 1) := by decide +kernel
theorem dX5_takeDay_132 : decode cX5_takeDay 132 = .ok (.iload_n 1, 1) := by decide +kernel
theorem dX5_takeDay_133 : decode cX5_takeDay 133 = .ok (.imul, 1) := by decide +kernel
theorem dX5_takeDay_134 : decode cX5_takeDay 134 = .ok (.iconst 1, 1) := by decide +kernel
theorem dX5_takeDay_135 : decode cX5_takeDay 135 = .ok (.iadd, 1) := by decide +kernel
theorem dX5_takeDay_136 : decode cX5_takeDay 136 = .ok (.iaload, 1) := by decide +kernel
theorem dX5_takeDay_137 : decode cX5_takeDay 137 = .ok (.iastore, 1) := by decide +kernel
theorem dX5_takeDay_138 : decode cX5_takeDay 138 = .ok (.aload_n 0, 1) := by decide +kernel
theorem dX5_takeDay_139 : decode cX5_takeDay 139 = .ok (.getfield 38, 3) := by decide +kernel
theorem dX5_takeDay_142 : decode cX5_takeDay 142 = .ok (.iload_n 1, 1) := by decide +kernel
theorem dX5_takeDay_143 : decode cX5_takeDay 143 = .ok (.aload_n 0, 1) := by decide +kernel
theorem dX5_takeDay_144 : decode cX5_takeDay 144 = .ok (.getfield 47, 3) := by decide +kernel
theorem dX5_takeDay_147 : decode cX5_takeDay 147 = .ok (.iconst 3, 1) := by decide +kernel
theorem dX5_takeDay_148 : decode cX5_takeDay 148 = .ok (.iload_n 1, 1) := by decide +kernel
theorem dX5_takeDay_149 : decode cX5_takeDay 149 = .ok (.imul, 1) := by decide +kernel
theorem dX5_takeDay_150 : decode cX5_takeDay 150 = .ok (.iconst 2, 1) := by decide +kernel
theorem dX5_takeDay_151 : decode cX5_takeDay 151 = .ok (.iadd, 1) := by decide +kernel
theorem dX5_takeDay_152 : decode cX5_takeDay 152 = .ok (.iaload, 1) := by decide +kernel
theorem dX5_takeDay_153 : decode cX5_takeDay 153 = .ok (.iastore, 1) := by decide +kernel
theorem dX5_takeDay_154 : decode cX5_takeDay 154 = .ok (.iinc 1 1, 3) := by decide +kernel
theorem dX5_takeDay_157 : decode cX5_takeDay 157 = .ok (.goto (-57), 3) := by decide +kernel
theorem dX5_takeDay_160 : decode cX5_takeDay 160 = .ok (.aload_n 0, 1) := by decide +kernel
theorem dX5_takeDay_161 : decode cX5_takeDay 161 = .ok (.bipush (-9), 2) := by decide +kernel
theorem dX5_takeDay_163 : decode cX5_takeDay 163 = .ok (.putfield 19, 3) := by decide +kernel
theorem dX5_takeDay_166 : decode cX5_takeDay 166 = .ok (.aload_n 0, 1) := by decide +kernel
theorem dX5_takeDay_167 : decode cX5_takeDay 167 = .ok (.iconst 0, 1) := by decide +kernel
theorem dX5_takeDay_168 : decode cX5_takeDay 168 = .ok (.putfield 113, 3) := by decide +kernel
theorem dX5_takeDay_171 : decode cX5_takeDay 171 = .ok (.aload_n 0, 1) := by decide +kernel
theorem dX5_takeDay_172 : decode cX5_takeDay 172 = .ok (.iconst 0, 1) := by decide +kernel
theorem dX5_takeDay_173 : decode cX5_takeDay 173 = .ok (.putfield 116, 3) := by decide +kernel
theorem dX5_takeDay_176 : decode cX5_takeDay 176 = .ok (.return_, 1) := by decide +kernel
theorem dX5_readDay_0 : decode cX5_readDay 0 = .ok (.aload_n 0, 1) := by decide +kernel
theorem dX5_readDay_1 : decode cX5_readDay 1 = .ok (.iconst 0, 1) := by decide +kernel
theorem dX5_readDay_2 : decode cX5_readDay 2 = .ok (.putfield 104, 3) := by decide +kernel
theorem dX5_readDay_5 : decode cX5_readDay 5 = .ok (.aload_n 0, 1) := by decide +kernel
theorem dX5_readDay_6 : decode cX5_readDay 6 = .ok (.iconst 0, 1) := by decide +kernel
theorem dX5_readDay_7 : decode cX5_readDay 7 = .ok (.putfield 107, 3) := by decide +kernel
theorem dX5_readDay_10 : decode cX5_readDay 10 = .ok (.aload_n 0, 1) := by decide +kernel
theorem dX5_readDay_11 : decode cX5_readDay 11 = .ok (.iconst 0, 1) := by decide +kernel
theorem dX5_readDay_12 : decode cX5_readDay 12 = .ok (.putfield 110, 3) := by decide +kernel
theorem dX5_readDay_15 : decode cX5_readDay 15 = .ok (.aload_n 0, 1) := by decide +kernel
theorem dX5_readDay_16 : decode cX5_readDay 16 = .ok (.iload_n 1, 1) := by decide +kernel
theorem dX5_readDay_17 : decode cX5_readDay 17 = .ok (.bipush 111, 2) := by decide +kernel
theorem dX5_readDay_19 : decode cX5_readDay 19 = .ok (.invokevirtual 119, 3) := by decide +kernel
theorem dX5_readDay_22 : decode cX5_readDay 22 = .ok (.ifCond .ne 5, 3) := by decide +kernel
theorem dX5_readDay_25 : decode cX5_readDay 25 = .ok (.iconst 0, 1) := by decide +kernel
theorem dX5_readDay_26 : decode cX5_readDay 26 = .ok (.ireturn, 1) := by decide +kernel
theorem dX5_readDay_27 : decode cX5_readDay 27 = .ok (.aload_n 0, 1) := by decide +kernel
theorem dX5_readDay_28 : decode cX5_readDay 28 = .ok (.iload_n 1, 1) := by decide +kernel
theorem dX5_readDay_29 : decode cX5_readDay 29 = .ok (.bipush 9, 2) := by decide +kernel
theorem dX5_readDay_31 : decode cX5_readDay 31 = .ok (.invokevirtual 123, 3) := by decide +kernel
theorem dX5_readDay_34 : decode cX5_readDay 34 = .ok (.istore_n 2, 1) := by decide +kernel
theorem dX5_readDay_35 : decode cX5_readDay 35 = .ok (.iload_n 2, 1) := by decide +kernel
theorem dX5_readDay_36 : decode cX5_readDay 36 = .ok (.bipush (-9), 2) := by decide +kernel
theorem dX5_readDay_38 : decode cX5_readDay 38 = .ok (.if_icmp .eq 48, 3) := by decide +kernel
theorem dX5_readDay_41 : decode cX5_readDay 41 = .ok (.aload_n 0, 1) := by decide +kernel
theorem dX5_readDay_42 : decode cX5_readDay 42 = .ok (.getfield 41, 3) := by decide +kernel
theorem dX5_readDay_45 : decode cX5_readDay 45 = .ok (.aload_n 0, 1) := by decide +kernel
theorem dX5_readDay_46 : decode cX5_readDay 46 = .ok (.getfield 104, 3) := by decide +kernel
theorem dX5_readDay_49 : decode cX5_readDay 49 = .ok (.iload_n 2, 1) := by decide +kernel
theorem dX5_readDay_50 : decode cX5_readDay 50 = .ok (.iastore, 1) := by decide +kernel
theorem dX5_readDay_51 : decode cX5_readDay 51 = .ok (.aload_n 0, 1) := by decide +kernel
theorem dX5_readDay_52 : decode cX5_readDay 52 = .ok (.dup, 1) := by decide +kernel
theorem dX5_readDay_53 : decode cX5_readDay 53 = .ok (.getfield 104, 3) := by decide +kernel
theorem dX5_readDay_56 : decode cX5_readDay 56 = .ok (.iconst 1, 1) := by decide +kernel
theorem dX5_readDay_57 : decode cX5_readDay 57 = .ok (.iadd, 1) := by decide +kernel
theorem dX5_readDay_58 : decode cX5_readDay 58 = .ok (.putfield 104, 3) := by decide +kernel
theorem dX5_readDay_61 : decode cX5_readDay 61 = .ok (.aload_n 0, 1) := by decide +kernel
theorem dX5_readDay_62 : decode cX5_readDay 62 = .ok (.getfield 104, 3) := by decide +kernel
theorem dX5_readDay_65 : decode cX5_readDay 65 = .ok (.bipush 6, 2) := by decide +kernel
theorem dX5_readDay_67 : decode cX5_readDay 67 = .ok (.if_icmp .ge 13, 3) := by decide +kernel
theorem dX5_readDay_70 : decode cX5_readDay 70 = .ok (.aload_n 0, 1) := by decide +kernel
theorem dX5_readDay_71 : decode cX5_readDay 71 = .ok (.iload_n 1, 1) := by decide +kernel
theorem dX5_readDay_72 : decode cX5_readDay 72 = .ok (.bipush 9, 2) := by decide +kernel
theorem dX5_readDay_74 : decode cX5_readDay 74 = .ok (.invokevirtual 123, 3) := by decide +kernel
theorem dX5_readDay_77 : decode cX5_readDay 77 = .ok (.goto 5, 3) := by decide +kernel
theorem dX5_readDay_80 : decode cX5_readDay 80 = .ok (.bipush (-9), 2) := by decide +kernel
theorem dX5_readDay_82 : decode cX5_readDay 82 = .ok (.istore_n 2, 1) := by decide +kernel
theorem dX5_readDay_83 : decode cX5_readDay 83 = .ok (.goto (-48), 3) := by decide +kernel
theorem dX5_readDay_86 : decode cX5_readDay 86 = .ok (.aload_n 0, 1) := by decide +kernel
theorem dX5_readDay_87 : decode cX5_readDay 87 = .ok (.getfield 104, 3) := by decide +kernel
theorem dX5_readDay_90 : decode cX5_readDay 90 = .ok (.ifCond .ne 5, 3) := by decide +kernel
theorem dX5_readDay_93 : decode cX5_readDay 93 = .ok (.iconst 0, 1) := by decide +kernel
theorem dX5_readDay_94 : decode cX5_readDay 94 = .ok (.ireturn, 1) := by decide +kernel
theorem dX5_readDay_95 : decode cX5_readDay 95 = .ok (.aload_n 0, 1) := by decide +kernel
theorem dX5_readDay_96 : decode cX5_readDay 96 = .ok (.getfield 107, 3) := by decide +kernel
theorem dX5_readDay_99 : decode cX5_readDay 99 = .ok (.ifCond .eq 33, 3) := by decide +kernel
theorem dX5_readDay_102 : decode cX5_readDay 102 = .ok (.aload_n 0, 1) := by decide +kernel
theorem dX5_readDay_103 : decode cX5_readDay 103 = .ok (.getfield 107, 3) := by decide +kernel
theorem dX5_readDay_106 : decode cX5_readDay 106 = .ok (.iconst 4, 1) := by decide +kernel
theorem dX5_readDay_107 : decode cX5_readDay 107 = .ok (.if_icmp .ge 45, 3) := by decide +kernel
theorem dX5_readDay_110 : decode cX5_readDay 110 = .ok (.aload_n 0, 1) := by decide +kernel
theorem dX5_readDay_111 : decode cX5_readDay 111 = .ok (.getfield 80, 3) := by decide +kernel
theorem dX5_readDay_114 : decode cX5_readDay 114 = .ok (.iload_n 1, 1) := by decide +kernel
theorem dX5_readDay_115 : decode cX5_readDay 115 = .ok (.if_icmp .ge 37, 3) := by decide +kernel
theorem dX5_readDay_118 : decode cX5_readDay 118 = .ok (.aload_n 0, 1) := by decide +kernel
theorem dX5_readDay_119 : decode cX5_readDay 119 = .ok (.getfield 16, 3) := by decide +kernel
theorem dX5_readDay_122 : decode cX5_readDay 122 = .ok (.aload_n 0, 1) := by decide +kernel
theorem dX5_readDay_123 : decode cX5_readDay 123 = .ok (.getfield 80, 3) := by decide +kernel
theorem dX5_readDay_126 : decode cX5_readDay 126 = .ok (.iaload, 1) := by decide +kernel
theorem dX5_readDay_127 : decode cX5_readDay 127 = .ok (.bipush 59, 2) := by decide +kernel
theorem dX5_readDay_129 : decode cX5_readDay 129 = .ok (.if_icmp .ne 23, 3) := by decide +kernel
theorem dX5_readDay_132 : decode cX5_readDay 132 = .ok (.aload_n 0, 1) := by decide +kernel
theorem dX5_readDay_133 : decode cX5_readDay 133 = .ok (.iload_n 1, 1) := by decide +kernel
theorem dX5_readDay_134 : decode cX5_readDay 134 = .ok (.bipush 59, 2) := by decide +kernel
theorem dX5_readDay_136 : decode cX5_readDay 136 = .ok (.invokevirtual 119, 3) := by decide +kernel
theorem dX5_readDay_139 : decode cX5_readDay 139 = .ok (.ifCond .eq 11, 3) := by decide +kernel
theorem dX5_readDay_142 : decode cX5_readDay 142 = .ok (.aload_n 0, 1) := by decide +kernel
theorem dX5_readDay_143 : decode cX5_readDay 143 = .ok (.iload_n 1, 1) := by decide +kernel
theorem dX5_readDay_144 : decode cX5_readDay 144 = .ok (.invokevirtual 127, 3) := by decide +kernel
theorem dX5_readDay_147 : decode cX5_readDay 147 = .ok (.ifCond .ne (-52), 3) := by decide +kernel
theorem dX5_readDay_150 : decode cX5_readDay 150 = .ok (.iconst 0, 1) := by decide +kernel
theorem dX5_readDay_151 : decode cX5_readDay 151 = .ok (.ireturn, 1) := by decide +kernel
theorem dX5_readDay_152 : decode cX5_readDay 152 = .ok (.aload_n 0, 1) := by decide +kernel
theorem dX5_readDay_153 : decode cX5_readDay 153 = .ok (.getfield 110, 3) := by decide +kernel
theorem dX5_readDay_156 : decode cX5_readDay 156 = .ok (.bipush 6, 2) := by decide +kernel
theorem dX5_readDay_158 : decode cX5_readDay 158 = .ok (.if_icmp .ge 31, 3) := by decide +kernel
theorem dX5_readDay_161 : decode cX5_readDay 161 = .ok (.aload_n 0, 1) := by decide +kernel
theorem dX5_readDay_162 : decode cX5_readDay 162 = .ok (.getfield 80, 3) := by decide +kernel
theorem dX5_readDay_165 : decode cX5_readDay 165 = .ok (.iload_n 1, 1) := by decide +kernel
theorem dX5_readDay_166 : decode cX5_readDay 166 = .ok (.if_icmp .ge 23, 3) := by decide +kernel
theorem dX5_readDay_169 : decode cX5_readDay 169 = .ok (.aload_n 0, 1) := by decide +kernel
theorem dX5_readDay_170 : decode cX5_readDay 170 = .ok (.iload_n 1, 1) := by decide +kernel
theorem dX5_readDay_171 : decode cX5_readDay 171 = .ok (.bipush 44, 2) := by decide +kernel
theorem dX5_readDay_173 : decode cX5_readDay 173 = .ok (.invokevirtual 119, 3) := by decide +kernel
theorem dX5_readDay_176 : decode cX5_readDay 176 = .ok (.ifCond .eq 11, 3) := by decide +kernel
theorem dX5_readDay_179 : decode cX5_readDay 179 = .ok (.aload_n 0, 1) := by decide +kernel
theorem dX5_readDay_180 : decode cX5_readDay 180 = .ok (.iload_n 1, 1) := by decide +kernel
theorem dX5_readDay_181 : decode cX5_readDay 181 = .ok (.invokevirtual 130, 3) := by decide +kernel
theorem dX5_readDay_184 : decode cX5_readDay 184 = .ok (.ifCond .ne (-32), 3) := by decide +kernel
theorem dX5_readDay_187 : decode cX5_readDay 187 = .ok (.iconst 0, 1) := by decide +kernel
theorem dX5_readDay_188 : decode cX5_readDay 188 = .ok (.ireturn, 1) := by decide +kernel
theorem dX5_readDay_189 : decode cX5_readDay 189 = .ok (.aload_n 0, 1) := by decide +kernel
theorem dX5_readDay_190 : decode cX5_readDay 190 = .ok (.getfield 80, 3) := by decide +kernel
theorem dX5_readDay_193 : decode cX5_readDay 193 = .ok (.iload_n 1, 1) := by decide +kernel
theorem dX5_readDay_194 : decode cX5_readDay 194 = .ok (.if_icmp .ne 7, 3) := by decide +kernel
theorem dX5_readDay_197 : decode cX5_readDay 197 = .ok (.iconst 1, 1) := by decide +kernel
theorem dX5_readDay_198 : decode cX5_readDay 198 = .ok (.goto 4, 3) := by decide +kernel
theorem dX5_readDay_201 : decode cX5_readDay 201 = .ok (.iconst 0, 1) := by decide +kernel
theorem dX5_readDay_202 : decode cX5_readDay 202 = .ok (.ireturn, 1) := by decide +kernel
theorem dX5_readSwearerNext_0 : decode cX5_readSwearerNext 0 = .ok (.aload_n 0, 1) := by decide +kernel
theorem dX5_readSwearerNext_1 : decode cX5_readSwearerNext 1 = .ok (.getfield 80, 3) := by decide +kernel
theorem dX5_readSwearerNext_4 : decode cX5_readSwearerNext 4 = .ok (.iload_n 1, 1) := by decide +kernel
theorem dX5_readSwearerNext_5 : decode cX5_readSwearerNext 5 = .ok (.if_icmp .ge 15, 3) := by decide +kernel
theorem dX5_readSwearerNext_8 : decode cX5_readSwearerNext 8 = .ok (.aload_n 0, 1) := by decide +kernel
theorem dX5_readSwearerNext_9 : decode cX5_readSwearerNext 9 = .ok (.getfield 16, 3) := by decide +kernel
theorem dX5_readSwearerNext_12 : decode cX5_readSwearerNext 12 = .ok (.aload_n 0, 1) := by decide +kernel
theorem dX5_readSwearerNext_13 : decode cX5_readSwearerNext 13 = .ok (.getfield 80, 3) := by decide +kernel
theorem dX5_readSwearerNext_16 : decode cX5_readSwearerNext 16 = .ok (.iaload, 1) := by decide +kernel
theorem dX5_readSwearerNext_17 : decode cX5_readSwearerNext 17 = .ok (.goto 4, 3) := by decide +kernel
theorem dX5_readSwearerNext_20 : decode cX5_readSwearerNext 20 = .ok (.iconst 0, 1) := by decide +kernel
theorem dX5_readSwearerNext_21 : decode cX5_readSwearerNext 21 = .ok (.istore_n 2, 1) := by decide +kernel
theorem dX5_readSwearerNext_22 : decode cX5_readSwearerNext 22 = .ok (.iconst 2, 1) := by decide +kernel
theorem dX5_readSwearerNext_23 : decode cX5_readSwearerNext 23 = .ok (.aload_n 0, 1) := by decide +kernel
theorem dX5_readSwearerNext_24 : decode cX5_readSwearerNext 24 = .ok (.getfield 107, 3) := by decide +kernel
theorem dX5_readSwearerNext_27 : decode cX5_readSwearerNext 27 = .ok (.imul, 1) := by decide +kernel
theorem dX5_readSwearerNext_28 : decode cX5_readSwearerNext 28 = .ok (.istore_n 3, 1) := by decide +kernel
theorem dX5_readSwearerNext_29 : decode cX5_readSwearerNext 29 = .ok (.aload_n 0, 1) := by decide +kernel
theorem dX5_readSwearerNext_30 : decode cX5_readSwearerNext 30 = .ok (.getfield 44, 3) := by decide +kernel
theorem dX5_readSwearerNext_33 : decode cX5_readSwearerNext 33 = .ok (.iload_n 3, 1) := by decide +kernel
theorem dX5_readSwearerNext_34 : decode cX5_readSwearerNext 34 = .ok (.iload_n 2, 1) := by decide +kernel
theorem dX5_readSwearerNext_35 : decode cX5_readSwearerNext 35 = .ok (.bipush 112, 2) := by decide +kernel
theorem dX5_readSwearerNext_37 : decode cX5_readSwearerNext 37 = .ok (.if_icmp .ne 7, 3) := by decide +kernel
theorem dX5_readSwearerNext_40 : decode cX5_readSwearerNext 40 = .ok (.iconst 0, 1) := by decide +kernel
theorem dX5_readSwearerNext_41 : decode cX5_readSwearerNext 41 = .ok (.goto 25, 3) := by decide +kernel
theorem dX5_readSwearerNext_44 : decode cX5_readSwearerNext 44 = .ok (.iload_n 2, 1) := by decide +kernel
theorem dX5_readSwearerNext_45 : decode cX5_readSwearerNext 45 = .ok (.bipush 98, 2) := by decide +kernel
theorem dX5_readSwearerNext_47 : decode cX5_readSwearerNext 47 = .ok (.if_icmp .ne 7, 3) := by decide +kernel
theorem dX5_readSwearerNext_50 : decode cX5_readSwearerNext 50 = .ok (.iconst 1, 1) := by decide +kernel
theorem dX5_readSwearerNext_51 : decode cX5_readSwearerNext 51 = .ok (.goto 15, 3) := by decide +kernel
theorem dX5_readSwearerNext_54 : decode cX5_readSwearerNext 54 = .ok (.iload_n 2, 1) := by decide +kernel
theorem dX5_readSwearerNext_55 : decode cX5_readSwearerNext 55 = .ok (.bipush 100, 2) := by decide +kernel
theorem dX5_readSwearerNext_57 : decode cX5_readSwearerNext 57 = .ok (.if_icmp .ne 7, 3) := by decide +kernel
theorem dX5_readSwearerNext_60 : decode cX5_readSwearerNext 60 = .ok (.iconst 2, 1) := by decide +kernel
theorem dX5_readSwearerNext_61 : decode cX5_readSwearerNext 61 = .ok (.goto 5, 3) := by decide +kernel
theorem dX5_readSwearerNext_64 : decode cX5_readSwearerNext 64 = .ok (.bipush (-9), 2) := by decide +kernel
theorem dX5_readSwearerNext_66 : decode cX5_readSwearerNext 66 = .ok (.iastore, 1) := by decide +kernel
theorem dX5_readSwearerNext_67 : decode cX5_readSwearerNext 67 = .ok (.aload_n 0, 1) := by decide +kernel
theorem dX5_readSwearerNext_68 : decode cX5_readSwearerNext 68 = .ok (.getfield 44, 3) := by decide +kernel
theorem dX5_readSwearerNext_71 : decode cX5_readSwearerNext 71 = .ok (.iload_n 3, 1) := by decide +kernel
theorem dX5_readSwearerNext_72 : decode cX5_readSwearerNext 72 = .ok (.iaload, 1) := by decide +kernel
theorem dX5_readSwearerNext_73 : decode cX5_readSwearerNext 73 = .ok (.bipush (-9), 2) := by decide +kernel
theorem dX5_readSwearerNext_75 : decode cX5_readSwearerNext 75 = .ok (.if_icmp .ne 5, 3) := by decide +kernel
theorem dX5_readSwearerNext_78 : decode cX5_readSwearerNext 78 = .ok (.iconst 0, 1) := by decide +kernel
theorem dX5_readSwearerNext_79 : decode cX5_readSwearerNext 79 = .ok (.ireturn, 1) := by decide +kernel
theorem dX5_readSwearerNext_80 : decode cX5_readSwearerNext 80 = .ok (.aload_n 0, 1) := by decide +kernel
theorem dX5_readSwearerNext_81 : decode cX5_readSwearerNext 81 = .ok (.dup, 1) := by decide +kernel
theorem dX5_readSwearerNext_82 : decode cX5_readSwearerNext 82 = .ok (.getfield 80, 3) := by decide +kernel
theorem dX5_readSwearerNext_85 : decode cX5_readSwearerNext 85 = .ok (.iconst 1, 1) := by decide +kernel
theorem dX5_readSwearerNext_86 : decode cX5_readSwearerNext 86 = .ok (.iadd, 1) := by decide +kernel
theorem dX5_readSwearerNext_87 : decode cX5_readSwearerNext 87 = .ok (.putfield 80, 3) := by decide +kernel
theorem dX5_readSwearerNext_90 : decode cX5_readSwearerNext 90 = .ok (.aload_n 0, 1) := by decide +kernel
theorem dX5_readSwearerNext_91 : decode cX5_readSwearerNext 91 = .ok (.getfield 44, 3) := by decide +kernel
theorem dX5_readSwearerNext_94 : decode cX5_readSwearerNext 94 = .ok (.iload_n 3, 1) := by decide +kernel
theorem dX5_readSwearerNext_95 : decode cX5_readSwearerNext 95 = .ok (.iconst 1, 1) := by decide +kernel
theorem dX5_readSwearerNext_96 : decode cX5_readSwearerNext 96 = .ok (.iadd, 1) := by decide +kernel
theorem dX5_readSwearerNext_97 : decode cX5_readSwearerNext 97 = .ok (.aload_n 0, 1) := by decide +kernel
theorem dX5_readSwearerNext_98 : decode cX5_readSwearerNext 98 = .ok (.iload_n 1, 1) := by decide +kernel
theorem dX5_readSwearerNext_99 : decode cX5_readSwearerNext 99 = .ok (.bipush 9, 2) := by decide +kernel
theorem dX5_readSwearerNext_101 : decode cX5_readSwearerNext 101 = .ok (.invokevirtual 123, 3) := by decide +kernel
theorem dX5_readSwearerNext_104 : decode cX5_readSwearerNext 104 = .ok (.iastore, 1) := by decide +kernel
theorem dX5_readSwearerNext_105 : decode cX5_readSwearerNext 105 = .ok (.aload_n 0, 1) := by decide +kernel
theorem dX5_readSwearerNext_106 : decode cX5_readSwearerNext 106 = .ok (.dup, 1) := by decide +kernel
theorem dX5_readSwearerNext_107 : decode cX5_readSwearerNext 107 = .ok (.getfield 107, 3) := by decide +kernel
theorem dX5_readSwearerNext_110 : decode cX5_readSwearerNext 110 = .ok (.iconst 1, 1) := by decide +kernel
theorem dX5_readSwearerNext_111 : decode cX5_readSwearerNext 111 = .ok (.iadd, 1) := by decide +kernel
theorem dX5_readSwearerNext_112 : decode cX5_readSwearerNext 112 = .ok (.putfield 107, 3) := by decide +kernel
theorem dX5_readSwearerNext_115 : decode cX5_readSwearerNext 115 = .ok (.aload_n 0, 1) := by decide +kernel
theorem dX5_readSwearerNext_116 : decode cX5_readSwearerNext 116 = .ok (.getfield 44, 3) := by decide +kernel
theorem dX5_readSwearerNext_119 : decode cX5_readSwearerNext 119 = .ok (.iload_n 3, 1) := by decide +kernel
theorem dX5_readSwearerNext_120 : decode cX5_readSwearerNext 120 = .ok (.iconst 1, 1) := by decide +kernel
theorem dX5_readSwearerNext_121 : decode cX5_readSwearerNext 121 = .ok (.iadd, 1) := by decide +kernel
theorem dX5_readSwearerNext_122 : decode cX5_readSwearerNext 122 = .ok (.iaload, 1) := by decide +kernel
theorem dX5_readSwearerNext_123 : decode cX5_readSwearerNext 123 = .ok (.bipush (-9), 2) := by decide +kernel
theorem dX5_readSwearerNext_125 : decode cX5_readSwearerNext 125 = .ok (.if_icmp .eq 7, 3) := by decide +kernel
theorem dX5_readSwearerNext_128 : decode cX5_readSwearerNext 128 = .ok (.iconst 1, 1) := by decide +kernel
theorem dX5_readSwearerNext_129 : decode cX5_readSwearerNext 129 = .ok (.goto 4, 3) := by decide +kernel
theorem dX5_readSwearerNext_132 : decode cX5_readSwearerNext 132 = .ok (.iconst 0, 1) := by decide +kernel
theorem dX5_readSwearerNext_133 : decode cX5_readSwearerNext 133 = .ok (.ireturn, 1) := by decide +kernel
theorem dX5_readOathNext_0 : decode cX5_readOathNext 0 = .ok (.iconst 3, 1) := by decide +kernel
theorem dX5_readOathNext_1 : decode cX5_readOathNext 1 = .ok (.aload_n 0, 1) := by decide +kernel
theorem dX5_readOathNext_2 : decode cX5_readOathNext 2 = .ok (.getfield 110, 3) := by decide +kernel
theorem dX5_readOathNext_5 : decode cX5_readOathNext 5 = .ok (.imul, 1) := by decide +kernel
theorem dX5_readOathNext_6 : decode cX5_readOathNext 6 = .ok (.istore_n 2, 1) := by decide +kernel
theorem dX5_readOathNext_7 : decode cX5_readOathNext 7 = .ok (.aload_n 0, 1) := by decide +kernel
theorem dX5_readOathNext_8 : decode cX5_readOathNext 8 = .ok (.getfield 47, 3) := by decide +kernel
theorem dX5_readOathNext_11 : decode cX5_readOathNext 11 = .ok (.iload_n 2, 1) := by decide +kernel
theorem dX5_readOathNext_12 : decode cX5_readOathNext 12 = .ok (.aload_n 0, 1) := by decide +kernel
theorem dX5_readOathNext_13 : decode cX5_readOathNext 13 = .ok (.iload_n 1, 1) := by decide +kernel
theorem dX5_readOathNext_14 : decode cX5_readOathNext 14 = .ok (.aload_n 0, 1) := by decide +kernel
theorem dX5_readOathNext_15 : decode cX5_readOathNext 15 = .ok (.getfield 107, 3) := by decide +kernel
theorem dX5_readOathNext_18 : decode cX5_readOathNext 18 = .ok (.iconst 1, 1) := by decide +kernel
theorem dX5_readOathNext_19 : decode cX5_readOathNext 19 = .ok (.isub, 1) := by decide +kernel
theorem dX5_readOathNext_20 : decode cX5_readOathNext 20 = .ok (.invokevirtual 123, 3) := by decide +kernel
theorem dX5_readOathNext_23 : decode cX5_readOathNext 23 = .ok (.iastore, 1) := by decide +kernel
theorem dX5_readOathNext_24 : decode cX5_readOathNext 24 = .ok (.aload_n 0, 1) := by decide +kernel
theorem dX5_readOathNext_25 : decode cX5_readOathNext 25 = .ok (.getfield 47, 3) := by decide +kernel
theorem dX5_readOathNext_28 : decode cX5_readOathNext 28 = .ok (.iload_n 2, 1) := by decide +kernel
theorem dX5_readOathNext_29 : decode cX5_readOathNext 29 = .ok (.iaload, 1) := by decide +kernel
theorem dX5_readOathNext_30 : decode cX5_readOathNext 30 = .ok (.bipush (-9), 2) := by decide +kernel
theorem dX5_readOathNext_32 : decode cX5_readOathNext 32 = .ok (.if_icmp .ne 5, 3) := by decide +kernel
theorem dX5_readOathNext_35 : decode cX5_readOathNext 35 = .ok (.iconst 0, 1) := by decide +kernel
theorem dX5_readOathNext_36 : decode cX5_readOathNext 36 = .ok (.ireturn, 1) := by decide +kernel
theorem dX5_readOathNext_37 : decode cX5_readOathNext 37 = .ok (.aload_n 0, 1) := by decide +kernel
theorem dX5_readOathNext_38 : decode cX5_readOathNext 38 = .ok (.getfield 80, 3) := by decide +kernel
theorem dX5_readOathNext_41 : decode cX5_readOathNext 41 = .ok (.iload_n 1, 1) := by decide +kernel
theorem dX5_readOathNext_42 : decode cX5_readOathNext 42 = .ok (.if_icmp .ge 26, 3) := by decide +kernel
theorem dX5_readOathNext_45 : decode cX5_readOathNext 45 = .ok (.aload_n 0, 1) := by decide +kernel
theorem dX5_readOathNext_46 : decode cX5_readOathNext 46 = .ok (.getfield 16, 3) := by decide +kernel
theorem dX5_readOathNext_49 : decode cX5_readOathNext 49 = .ok (.aload_n 0, 1) := by decide +kernel
theorem dX5_readOathNext_50 : decode cX5_readOathNext 50 = .ok (.getfield 80, 3) := by decide +kernel
theorem dX5_readOathNext_53 : decode cX5_readOathNext 53 = .ok (.iaload, 1) := by decide +kernel
theorem dX5_readOathNext_54 : decode cX5_readOathNext 54 = .ok (.bipush 48, 2) := by decide +kernel
theorem dX5_readOathNext_56 : decode cX5_readOathNext 56 = .ok (.aload_n 0, 1) := by decide +kernel
theorem dX5_readOathNext_57 : decode cX5_readOathNext 57 = .ok (.getfield 47, 3) := by decide +kernel
theorem dX5_readOathNext_60 : decode cX5_readOathNext 60 = .ok (.iload_n 2, 1) := by decide +kernel
theorem dX5_readOathNext_61 : decode cX5_readOathNext 61 = .ok (.iaload, 1) := by decide +kernel
theorem dX5_readOathNext_62 : decode cX5_readOathNext 62 = .ok (.iadd, 1) := by decide +kernel
theorem dX5_readOathNext_63 : decode cX5_readOathNext 63 = .ok (.if_icmp .ne 5, 3) := by decide +kernel
theorem dX5_readOathNext_66 : decode cX5_readOathNext 66 = .ok (.iconst 0, 1) := by decide +kernel
theorem dX5_readOathNext_67 : decode cX5_readOathNext 67 = .ok (.ireturn, 1) := by decide +kernel
theorem dX5_readOathNext_68 : decode cX5_readOathNext 68 = .ok (.aload_n 0, 1) := by decide +kernel
theorem dX5_readOathNext_69 : decode cX5_readOathNext 69 = .ok (.getfield 47, 3) := by decide +kernel
theorem dX5_readOathNext_72 : decode cX5_readOathNext 72 = .ok (.iload_n 2, 1) := by decide +kernel
theorem dX5_readOathNext_73 : decode cX5_readOathNext 73 = .ok (.iconst 1, 1) := by decide +kernel
theorem dX5_readOathNext_74 : decode cX5_readOathNext 74 = .ok (.iadd, 1) := by decide +kernel
theorem dX5_readOathNext_75 : decode cX5_readOathNext 75 = .ok (.aload_n 0, 1) := by decide +kernel
theorem dX5_readOathNext_76 : decode cX5_readOathNext 76 = .ok (.iload_n 1, 1) := by decide +kernel
theorem dX5_readOathNext_77 : decode cX5_readOathNext 77 = .ok (.aload_n 0, 1) := by decide +kernel
theorem dX5_readOathNext_78 : decode cX5_readOathNext 78 = .ok (.getfield 107, 3) := by decide +kernel
theorem dX5_readOathNext_81 : decode cX5_readOathNext 81 = .ok (.iconst 1, 1) := by decide +kernel
theorem dX5_readOathNext_82 : decode cX5_readOathNext 82 = .ok (.isub, 1) := by decide +kernel
theorem dX5_readOathNext_83 : decode cX5_readOathNext 83 = .ok (.invokevirtual 123, 3) := by decide +kernel
theorem dX5_readOathNext_86 : decode cX5_readOathNext 86 = .ok (.iastore, 1) := by decide +kernel
theorem dX5_readOathNext_87 : decode cX5_readOathNext 87 = .ok (.aload_n 0, 1) := by decide +kernel
theorem dX5_readOathNext_88 : decode cX5_readOathNext 88 = .ok (.getfield 47, 3) := by decide +kernel
theorem dX5_readOathNext_91 : decode cX5_readOathNext 91 = .ok (.iload_n 2, 1) := by decide +kernel
theorem dX5_readOathNext_92 : decode cX5_readOathNext 92 = .ok (.iconst 1, 1) := by decide +kernel
theorem dX5_readOathNext_93 : decode cX5_readOathNext 93 = .ok (.iadd, 1) := by decide +kernel
theorem dX5_readOathNext_94 : decode cX5_readOathNext 94 = .ok (.iaload, 1) := by decide +kernel
theorem dX5_readOathNext_95 : decode cX5_readOathNext 95 = .ok (.bipush (-9), 2) := by decide +kernel
theorem dX5_readOathNext_97 : decode cX5_readOathNext 97 = .ok (.if_icmp .ne 5, 3) := by decide +kernel
theorem dX5_readOathNext_100 : decode cX5_readOathNext 100 = .ok (.iconst 0, 1) := by decide +kernel
theorem dX5_readOathNext_101 : decode cX5_readOathNext 101 = .ok (.ireturn, 1) := by decide +kernel
theorem dX5_readOathNext_102 : decode cX5_readOathNext 102 = .ok (.aload_n 0, 1) := by decide +kernel
theorem dX5_readOathNext_103 : decode cX5_readOathNext 103 = .ok (.getfield 47, 3) := by decide +kernel
theorem dX5_readOathNext_106 : decode cX5_readOathNext 106 = .ok (.iload_n 2, 1) := by decide +kernel
theorem dX5_readOathNext_107 : decode cX5_readOathNext 107 = .ok (.iconst 2, 1) := by decide +kernel
theorem dX5_readOathNext_108 : decode cX5_readOathNext 108 = .ok (.iadd, 1) := by decide +kernel
theorem dX5_readOathNext_109 : decode cX5_readOathNext 109 = .ok (.aload_n 0, 1) := by decide +kernel
theorem dX5_readOathNext_110 : decode cX5_readOathNext 110 = .ok (.iload_n 1, 1) := by decide +kernel
theorem dX5_readOathNext_111 : decode cX5_readOathNext 111 = .ok (.aload_n 0, 1) := by decide +kernel
theorem dX5_readOathNext_112 : decode cX5_readOathNext 112 = .ok (.getfield 104, 3) := by decide +kernel
theorem dX5_readOathNext_115 : decode cX5_readOathNext 115 = .ok (.iconst 1, 1) := by decide +kernel
theorem dX5_readOathNext_116 : decode cX5_readOathNext 116 = .ok (.isub, 1) := by decide +kernel
theorem dX5_readOathNext_117 : decode cX5_readOathNext 117 = .ok (.invokevirtual 123, 3) := by decide +kernel
theorem dX5_readOathNext_120 : decode cX5_readOathNext 120 = .ok (.iastore, 1) := by decide +kernel
theorem dX5_readOathNext_121 : decode cX5_readOathNext 121 = .ok (.aload_n 0, 1) := by decide +kernel
theorem dX5_readOathNext_122 : decode cX5_readOathNext 122 = .ok (.dup, 1) := by decide +kernel
theorem dX5_readOathNext_123 : decode cX5_readOathNext 123 = .ok (.getfield 110, 3) := by decide +kernel
theorem dX5_readOathNext_126 : decode cX5_readOathNext 126 = .ok (.iconst 1, 1) := by decide +kernel
theorem dX5_readOathNext_127 : decode cX5_readOathNext 127 = .ok (.iadd, 1) := by decide +kernel
theorem dX5_readOathNext_128 : decode cX5_readOathNext 128 = .ok (.putfield 110, 3) := by decide +kernel
theorem dX5_readOathNext_131 : decode cX5_readOathNext 131 = .ok (.aload_n 0, 1) := by decide +kernel
theorem dX5_readOathNext_132 : decode cX5_readOathNext 132 = .ok (.getfield 47, 3) := by decide +kernel
theorem dX5_readOathNext_135 : decode cX5_readOathNext 135 = .ok (.iload_n 2, 1) := by decide +kernel
theorem dX5_readOathNext_136 : decode cX5_readOathNext 136 = .ok (.iconst 2, 1) := by decide +kernel
theorem dX5_readOathNext_137 : decode cX5_readOathNext 137 = .ok (.iadd, 1) := by decide +kernel
theorem dX5_readOathNext_138 : decode cX5_readOathNext 138 = .ok (.iaload, 1) := by decide +kernel
theorem dX5_readOathNext_139 : decode cX5_readOathNext 139 = .ok (.bipush (-9), 2) := by decide +kernel
theorem dX5_readOathNext_141 : decode cX5_readOathNext 141 = .ok (.if_icmp .eq 7, 3) := by decide +kernel
theorem dX5_readOathNext_144 : decode cX5_readOathNext 144 = .ok (.iconst 1, 1) := by decide +kernel
theorem dX5_readOathNext_145 : decode cX5_readOathNext 145 = .ok (.goto 4, 3) := by decide +kernel
theorem dX5_readOathNext_148 : decode cX5_readOathNext 148 = .ok (.iconst 0, 1) := by decide +kernel
theorem dX5_readOathNext_149 : decode cX5_readOathNext 149 = .ok (.ireturn, 1) := by decide +kernel
theorem dX5_warmthOf_0 : decode cX5_warmthOf 0 = .ok (.aload_n 0, 1) := by decide +kernel
theorem dX5_warmthOf_1 : decode cX5_warmthOf 1 = .ok (.getfield 26, 3) := by decide +kernel
theorem dX5_warmthOf_4 : decode cX5_warmthOf 4 = .ok (.iload_n 1, 1) := by decide +kernel
theorem dX5_warmthOf_5 : decode cX5_warmthOf 5 = .ok (.iaload, 1) := by decide +kernel
theorem dX5_warmthOf_6 : decode cX5_warmthOf 6 = .ok (.ifCond .ne 12, 3) := by decide +kernel
theorem dX5_warmthOf_9 : decode cX5_warmthOf 9 = .ok (.aload_n 0, 1) := by decide +kernel
theorem dX5_warmthOf_10 : decode cX5_warmthOf 10 = .ok (.getfield 29, 3) := by decide +kernel
theorem dX5_warmthOf_13 : decode cX5_warmthOf 13 = .ok (.iload_n 1, 1) := by decide +kernel
theorem dX5_warmthOf_14 : decode cX5_warmthOf 14 = .ok (.iaload, 1) := by decide +kernel
theorem dX5_warmthOf_15 : decode cX5_warmthOf 15 = .ok (.goto 32, 3) := by decide +kernel
theorem dX5_warmthOf_18 : decode cX5_warmthOf 18 = .ok (.aload_n 0, 1) := by decide +kernel
theorem dX5_warmthOf_19 : decode cX5_warmthOf 19 = .ok (.getfield 26, 3) := by decide +kernel
theorem dX5_warmthOf_22 : decode cX5_warmthOf 22 = .ok (.iload_n 1, 1) := by decide +kernel
theorem dX5_warmthOf_23 : decode cX5_warmthOf 23 = .ok (.iaload, 1) := by decide +kernel
theorem dX5_warmthOf_24 : decode cX5_warmthOf 24 = .ok (.iconst 1, 1) := by decide +kernel
theorem dX5_warmthOf_25 : decode cX5_warmthOf 25 = .ok (.if_icmp .ne 14, 3) := by decide +kernel
theorem dX5_warmthOf_28 : decode cX5_warmthOf 28 = .ok (.aload_n 0, 1) := by decide +kernel
theorem dX5_warmthOf_29 : decode cX5_warmthOf 29 = .ok (.getfield 29, 3) := by decide +kernel
theorem dX5_warmthOf_32 : decode cX5_warmthOf 32 = .ok (.iload_n 1, 1) := by decide +kernel
theorem dX5_warmthOf_33 : decode cX5_warmthOf 33 = .ok (.iaload, 1) := by decide +kernel
theorem dX5_warmthOf_34 : decode cX5_warmthOf 34 = .ok (.iconst 1, 1) := by decide +kernel
theorem dX5_warmthOf_35 : decode cX5_warmthOf 35 = .ok (.iadd, 1) := by decide +kernel
theorem dX5_warmthOf_36 : decode cX5_warmthOf 36 = .ok (.goto 11, 3) := by decide +kernel
theorem dX5_warmthOf_39 : decode cX5_warmthOf 39 = .ok (.iconst 2, 1) := by decide +kernel
theorem dX5_warmthOf_40 : decode cX5_warmthOf 40 = .ok (.aload_n 0, 1) := by decide +kernel
theorem dX5_warmthOf_41 : decode cX5_warmthOf 41 = .ok (.getfield 29, 3) := by decide +kernel
theorem dX5_warmthOf_44 : decode cX5_warmthOf 44 = .ok (.iload_n 1, 1) := by decide +kernel
theorem dX5_warmthOf_45 : decode cX5_warmthOf 45 = .ok (.iaload, 1) := by decide +kernel
theorem dX5_warmthOf_46 : decode cX5_warmthOf 46 = .ok (.imul, 1) := by decide +kernel
theorem dX5_warmthOf_47 : decode cX5_warmthOf 47 = .ok (.ireturn, 1) := by decide +kernel
theorem dX5_chillOf_0 : decode cX5_chillOf 0 = .ok (.aload_n 0, 1) := by decide +kernel
theorem dX5_chillOf_1 : decode cX5_chillOf 1 = .ok (.getfield 23, 3) := by decide +kernel
theorem dX5_chillOf_4 : decode cX5_chillOf 4 = .ok (.iload_n 2, 1) := by decide +kernel
theorem dX5_chillOf_5 : decode cX5_chillOf 5 = .ok (.iaload, 1) := by decide +kernel
theorem dX5_chillOf_6 : decode cX5_chillOf 6 = .ok (.iload_n 2, 1) := by decide +kernel
theorem dX5_chillOf_7 : decode cX5_chillOf 7 = .ok (.aload_n 0, 1) := by decide +kernel
theorem dX5_chillOf_8 : decode cX5_chillOf 8 = .ok (.getfield 19, 3) := by decide +kernel
theorem dX5_chillOf_11 : decode cX5_chillOf 11 = .ok (.if_icmp .ne 10, 3) := by decide +kernel
theorem dX5_chillOf_14 : decode cX5_chillOf 14 = .ok (.aload_n 0, 1) := by decide +kernel
theorem dX5_chillOf_15 : decode cX5_chillOf 15 = .ok (.getfield 113, 3) := by decide +kernel
theorem dX5_chillOf_18 : decode cX5_chillOf 18 = .ok (.goto 4, 3) := by decide +kernel
theorem dX5_chillOf_21 : decode cX5_chillOf 21 = .ok (.iconst 0, 1) := by decide +kernel
theorem dX5_chillOf_22 : decode cX5_chillOf 22 = .ok (.isub, 1) := by decide +kernel
theorem dX5_chillOf_23 : decode cX5_chillOf 23 = .ok (.aload_n 0, 1) := by decide +kernel
theorem dX5_chillOf_24 : decode cX5_chillOf 24 = .ok (.iload_n 1, 1) := by decide +kernel
theorem dX5_chillOf_25 : decode cX5_chillOf 25 = .ok (.invokevirtual 133, 3) := by decide +kernel
theorem dX5_chillOf_28 : decode cX5_chillOf 28 = .ok (.isub, 1) := by decide +kernel
theorem dX5_chillOf_29 : decode cX5_chillOf 29 = .ok (.ireturn, 1) := by decide +kernel
theorem dX5_isCold_0 : decode cX5_isCold 0 = .ok (.aload_n 0, 1) := by decide +kernel
theorem dX5_isCold_1 : decode cX5_isCold 1 = .ok (.iload_n 1, 1) := by decide +kernel
theorem dX5_isCold_2 : decode cX5_isCold 2 = .ok (.iload_n 2, 1) := by decide +kernel
theorem dX5_isCold_3 : decode cX5_isCold 3 = .ok (.invokevirtual 136, 3) := by decide +kernel
theorem dX5_isCold_6 : decode cX5_isCold 6 = .ok (.ifCond .le 7, 3) := by decide +kernel
theorem dX5_isCold_9 : decode cX5_isCold 9 = .ok (.iconst 1, 1) := by decide +kernel
theorem dX5_isCold_10 : decode cX5_isCold 10 = .ok (.goto 4, 3) := by decide +kernel
theorem dX5_isCold_13 : decode cX5_isCold 13 = .ok (.iconst 0, 1) := by decide +kernel
theorem dX5_isCold_14 : decode cX5_isCold 14 = .ok (.ireturn, 1) := by decide +kernel
theorem dX5_coldHours_0 : decode cX5_coldHours 0 = .ok (.iconst 0, 1) := by decide +kernel
theorem dX5_coldHours_1 : decode cX5_coldHours 1 = .ok (.istore_n 2, 1) := by decide +kernel
theorem dX5_coldHours_2 : decode cX5_coldHours 2 = .ok (.iconst 0, 1) := by decide +kernel
theorem dX5_coldHours_3 : decode cX5_coldHours 3 = .ok (.istore_n 3, 1) := by decide +kernel
theorem dX5_coldHours_4 : decode cX5_coldHours 4 = .ok (.iload_n 3, 1) := by decide +kernel
theorem dX5_coldHours_5 : decode cX5_coldHours 5 = .ok (.aload_n 0, 1) := by decide +kernel
theorem dX5_coldHours_6 : decode cX5_coldHours 6 = .ok (.getfield 71, 3) := by decide +kernel
theorem dX5_coldHours_9 : decode cX5_coldHours 9 = .ok (.if_icmp .ge 28, 3) := by decide +kernel
theorem dX5_coldHours_12 : decode cX5_coldHours 12 = .ok (.iload_n 2, 1) := by decide +kernel
theorem dX5_coldHours_13 : decode cX5_coldHours 13 = .ok (.aload_n 0, 1) := by decide +kernel
theorem dX5_coldHours_14 : decode cX5_coldHours 14 = .ok (.iload_n 1, 1) := by decide +kernel
theorem dX5_coldHours_15 : decode cX5_coldHours 15 = .ok (.iload_n 3, 1) := by decide +kernel
theorem dX5_coldHours_16 : decode cX5_coldHours 16 = .ok (.invokevirtual 139, 3) := by decide +kernel
theorem dX5_coldHours_19 : decode cX5_coldHours 19 = .ok (.ifCond .eq 9, 3) := by decide +kernel
theorem dX5_coldHours_22 : decode cX5_coldHours 22 = .ok (.iconst 1, 1) := by decide +kernel
theorem dX5_coldHours_23 : decode cX5_coldHours 23 = .ok (.iload_n 3, 1) := by decide +kernel
theorem dX5_coldHours_24 : decode cX5_coldHours 24 = .ok (.ishl, 1) := by decide +kernel
theorem dX5_coldHours_25 : decode cX5_coldHours 25 = .ok (.goto 4, 3) := by decide +kernel
theorem dX5_coldHours_28 : decode cX5_coldHours 28 = .ok (.iconst 0, 1) := by decide +kernel
theorem dX5_coldHours_29 : decode cX5_coldHours 29 = .ok (.ior, 1) := by decide +kernel
theorem dX5_coldHours_30 : decode cX5_coldHours 30 = .ok (.istore_n 2, 1) := by decide +kernel
theorem dX5_coldHours_31 : decode cX5_coldHours 31 = .ok (.iinc 3 1, 3) := by decide +kernel
theorem dX5_coldHours_34 : decode cX5_coldHours 34 = .ok (.goto (-30), 3) := by decide +kernel
theorem dX5_coldHours_37 : decode cX5_coldHours 37 = .ok (.iload_n 2, 1) := by decide +kernel
theorem dX5_coldHours_38 : decode cX5_coldHours 38 = .ok (.ireturn, 1) := by decide +kernel
theorem dX5_binds_0 : decode cX5_binds 0 = .ok (.aload_n 0, 1) := by decide +kernel
theorem dX5_binds_1 : decode cX5_binds 1 = .ok (.aload_n 0, 1) := by decide +kernel
theorem dX5_binds_2 : decode cX5_binds 2 = .ok (.getfield 32, 3) := by decide +kernel
theorem dX5_binds_5 : decode cX5_binds 5 = .ok (.iload_n 1, 1) := by decide +kernel
theorem dX5_binds_6 : decode cX5_binds 6 = .ok (.iaload, 1) := by decide +kernel
theorem dX5_binds_7 : decode cX5_binds 7 = .ok (.aload_n 0, 1) := by decide +kernel
theorem dX5_binds_8 : decode cX5_binds 8 = .ok (.getfield 38, 3) := by decide +kernel
theorem dX5_binds_11 : decode cX5_binds 11 = .ok (.iload_n 1, 1) := by decide +kernel
theorem dX5_binds_12 : decode cX5_binds 12 = .ok (.iaload, 1) := by decide +kernel
theorem dX5_binds_13 : decode cX5_binds 13 = .ok (.invokevirtual 139, 3) := by decide +kernel
theorem dX5_binds_16 : decode cX5_binds 16 = .ok (.ireturn, 1) := by decide +kernel
theorem dX5_whichBind_0 : decode cX5_whichBind 0 = .ok (.iconst 0, 1) := by decide +kernel
theorem dX5_whichBind_1 : decode cX5_whichBind 1 = .ok (.istore_n 1, 1) := by decide +kernel
theorem dX5_whichBind_2 : decode cX5_whichBind 2 = .ok (.iconst 0, 1) := by decide +kernel
theorem dX5_whichBind_3 : decode cX5_whichBind 3 = .ok (.istore_n 2, 1) := by decide +kernel
theorem dX5_whichBind_4 : decode cX5_whichBind 4 = .ok (.iload_n 2, 1) := by decide +kernel
theorem dX5_whichBind_5 : decode cX5_whichBind 5 = .ok (.aload_n 0, 1) := by decide +kernel
theorem dX5_whichBind_6 : decode cX5_whichBind 6 = .ok (.getfield 77, 3) := by decide +kernel
theorem dX5_whichBind_9 : decode cX5_whichBind 9 = .ok (.if_icmp .ge 27, 3) := by decide +kernel
theorem dX5_whichBind_12 : decode cX5_whichBind 12 = .ok (.iload_n 1, 1) := by decide +kernel
theorem dX5_whichBind_13 : decode cX5_whichBind 13 = .ok (.aload_n 0, 1) := by decide +kernel
theorem dX5_whichBind_14 : decode cX5_whichBind 14 = .ok (.iload_n 2, 1) := by decide +kernel
theorem dX5_whichBind_15 : decode cX5_whichBind 15 = .ok (.invokevirtual 142, 3) := by decide +kernel
theorem dX5_whichBind_18 : decode cX5_whichBind 18 = .ok (.ifCond .eq 9, 3) := by decide +kernel
theorem dX5_whichBind_21 : decode cX5_whichBind 21 = .ok (.iconst 1, 1) := by decide +kernel
theorem dX5_whichBind_22 : decode cX5_whichBind 22 = .ok (.iload_n 2, 1) := by decide +kernel
theorem dX5_whichBind_23 : decode cX5_whichBind 23 = .ok (.ishl, 1) := by decide +kernel
theorem dX5_whichBind_24 : decode cX5_whichBind 24 = .ok (.goto 4, 3) := by decide +kernel
theorem dX5_whichBind_27 : decode cX5_whichBind 27 = .ok (.iconst 0, 1) := by decide +kernel
theorem dX5_whichBind_28 : decode cX5_whichBind 28 = .ok (.ior, 1) := by decide +kernel
theorem dX5_whichBind_29 : decode cX5_whichBind 29 = .ok (.istore_n 1, 1) := by decide +kernel
theorem dX5_whichBind_30 : decode cX5_whichBind 30 = .ok (.iinc 2 1, 3) := by decide +kernel
theorem dX5_whichBind_33 : decode cX5_whichBind 33 = .ok (.goto (-29), 3) := by decide +kernel
theorem dX5_whichBind_36 : decode cX5_whichBind 36 = .ok (.iload_n 1, 1) := by decide +kernel
theorem dX5_whichBind_37 : decode cX5_whichBind 37 = .ok (.ireturn, 1) := by decide +kernel
theorem dX5_swornBy_0 : decode cX5_swornBy 0 = .ok (.iconst 0, 1) := by decide +kernel
theorem dX5_swornBy_1 : decode cX5_swornBy 1 = .ok (.istore_n 2, 1) := by decide +kernel
theorem dX5_swornBy_2 : decode cX5_swornBy 2 = .ok (.iconst 0, 1) := by decide +kernel
theorem dX5_swornBy_3 : decode cX5_swornBy 3 = .ok (.istore_n 3, 1) := by decide +kernel
theorem dX5_swornBy_4 : decode cX5_swornBy 4 = .ok (.iload_n 3, 1) := by decide +kernel
theorem dX5_swornBy_5 : decode cX5_swornBy 5 = .ok (.aload_n 0, 1) := by decide +kernel
theorem dX5_swornBy_6 : decode cX5_swornBy 6 = .ok (.getfield 77, 3) := by decide +kernel
theorem dX5_swornBy_9 : decode cX5_swornBy 9 = .ok (.if_icmp .ge 29, 3) := by decide +kernel
theorem dX5_swornBy_12 : decode cX5_swornBy 12 = .ok (.iload_n 2, 1) := by decide +kernel
theorem dX5_swornBy_13 : decode cX5_swornBy 13 = .ok (.aload_n 0, 1) := by decide +kernel
theorem dX5_swornBy_14 : decode cX5_swornBy 14 = .ok (.getfield 32, 3) := by decide +kernel
theorem dX5_swornBy_17 : decode cX5_swornBy 17 = .ok (.iload_n 3, 1) := by decide +kernel
theorem dX5_swornBy_18 : decode cX5_swornBy 18 = .ok (.iaload, 1) := by decide +kernel
theorem dX5_swornBy_19 : decode cX5_swornBy 19 = .ok (.iload_n 1, 1) := by decide +kernel
theorem dX5_swornBy_20 : decode cX5_swornBy 20 = .ok (.if_icmp .ne 9, 3) := by decide +kernel
theorem dX5_swornBy_23 : decode cX5_swornBy 23 = .ok (.iconst 1, 1) := by decide +kernel
theorem dX5_swornBy_24 : decode cX5_swornBy 24 = .ok (.iload_n 3, 1) := by decide +kernel
theorem dX5_swornBy_25 : decode cX5_swornBy 25 = .ok (.ishl, 1) := by decide +kernel
theorem dX5_swornBy_26 : decode cX5_swornBy 26 = .ok (.goto 4, 3) := by decide +kernel
theorem dX5_swornBy_29 : decode cX5_swornBy 29 = .ok (.iconst 0, 1) := by decide +kernel
theorem dX5_swornBy_30 : decode cX5_swornBy 30 = .ok (.ior, 1) := by decide +kernel
theorem dX5_swornBy_31 : decode cX5_swornBy 31 = .ok (.istore_n 2, 1) := by decide +kernel
theorem dX5_swornBy_32 : decode cX5_swornBy 32 = .ok (.iinc 3 1, 3) := by decide +kernel
theorem dX5_swornBy_35 : decode cX5_swornBy 35 = .ok (.goto (-31), 3) := by decide +kernel
theorem dX5_swornBy_38 : decode cX5_swornBy 38 = .ok (.iload_n 2, 1) := by decide +kernel
theorem dX5_swornBy_39 : decode cX5_swornBy 39 = .ok (.ireturn, 1) := by decide +kernel
theorem dX5_whoCold_0 : decode cX5_whoCold 0 = .ok (.iconst 0, 1) := by decide +kernel
theorem dX5_whoCold_1 : decode cX5_whoCold 1 = .ok (.istore_n 2, 1) := by decide +kernel
theorem dX5_whoCold_2 : decode cX5_whoCold 2 = .ok (.iconst 0, 1) := by decide +kernel
theorem dX5_whoCold_3 : decode cX5_whoCold 3 = .ok (.istore_n 3, 1) := by decide +kernel
theorem dX5_whoCold_4 : decode cX5_whoCold 4 = .ok (.iload_n 3, 1) := by decide +kernel
theorem dX5_whoCold_5 : decode cX5_whoCold 5 = .ok (.aload_n 0, 1) := by decide +kernel
theorem dX5_whoCold_6 : decode cX5_whoCold 6 = .ok (.getfield 74, 3) := by decide +kernel
theorem dX5_whoCold_9 : decode cX5_whoCold 9 = .ok (.if_icmp .ge 28, 3) := by decide +kernel
theorem dX5_whoCold_12 : decode cX5_whoCold 12 = .ok (.iload_n 2, 1) := by decide +kernel
theorem dX5_whoCold_13 : decode cX5_whoCold 13 = .ok (.aload_n 0, 1) := by decide +kernel
theorem dX5_whoCold_14 : decode cX5_whoCold 14 = .ok (.iload_n 3, 1) := by decide +kernel
theorem dX5_whoCold_15 : decode cX5_whoCold 15 = .ok (.iload_n 1, 1) := by decide +kernel
theorem dX5_whoCold_16 : decode cX5_whoCold 16 = .ok (.invokevirtual 139, 3) := by decide +kernel
theorem dX5_whoCold_19 : decode cX5_whoCold 19 = .ok (.ifCond .eq 9, 3) := by decide +kernel
theorem dX5_whoCold_22 : decode cX5_whoCold 22 = .ok (.iconst 1, 1) := by decide +kernel
theorem dX5_whoCold_23 : decode cX5_whoCold 23 = .ok (.iload_n 3, 1) := by decide +kernel
theorem dX5_whoCold_24 : decode cX5_whoCold 24 = .ok (.ishl, 1) := by decide +kernel
theorem dX5_whoCold_25 : decode cX5_whoCold 25 = .ok (.goto 4, 3) := by decide +kernel
theorem dX5_whoCold_28 : decode cX5_whoCold 28 = .ok (.iconst 0, 1) := by decide +kernel
theorem dX5_whoCold_29 : decode cX5_whoCold 29 = .ok (.ior, 1) := by decide +kernel
theorem dX5_whoCold_30 : decode cX5_whoCold 30 = .ok (.istore_n 2, 1) := by decide +kernel
theorem dX5_whoCold_31 : decode cX5_whoCold 31 = .ok (.iinc 3 1, 3) := by decide +kernel
theorem dX5_whoCold_34 : decode cX5_whoCold 34 = .ok (.goto (-30), 3) := by decide +kernel
theorem dX5_whoCold_37 : decode cX5_whoCold 37 = .ok (.iload_n 2, 1) := by decide +kernel
theorem dX5_whoCold_38 : decode cX5_whoCold 38 = .ok (.ireturn, 1) := by decide +kernel
theorem dX5_ofSwearer_0 : decode cX5_ofSwearer 0 = .ok (.aload_n 0, 1) := by decide +kernel
theorem dX5_ofSwearer_1 : decode cX5_ofSwearer 1 = .ok (.iload_n 1, 1) := by decide +kernel
theorem dX5_ofSwearer_2 : decode cX5_ofSwearer 2 = .ok (.invokevirtual 145, 3) := by decide +kernel
theorem dX5_ofSwearer_5 : decode cX5_ofSwearer 5 = .ok (.ifCond .ne 5, 3) := by decide +kernel
theorem dX5_ofSwearer_8 : decode cX5_ofSwearer 8 = .ok (.iconst (-1), 1) := by decide +kernel
theorem dX5_ofSwearer_9 : decode cX5_ofSwearer 9 = .ok (.ireturn, 1) := by decide +kernel
theorem dX5_ofSwearer_10 : decode cX5_ofSwearer 10 = .ok (.iload_n 2, 1) := by decide +kernel
theorem dX5_ofSwearer_11 : decode cX5_ofSwearer 11 = .ok (.tableswitch 80 0 5 #[37, 44, 51, 57, 63, 69], 37) := by decide +kernel
theorem dX5_ofSwearer_48 : decode cX5_ofSwearer 48 = .ok (.aload_n 0, 1) := by decide +kernel
theorem dX5_ofSwearer_49 : decode cX5_ofSwearer 49 = .ok (.getfield 26, 3) := by decide +kernel
theorem dX5_ofSwearer_52 : decode cX5_ofSwearer 52 = .ok (.iload_n 1, 1) := by decide +kernel
theorem dX5_ofSwearer_53 : decode cX5_ofSwearer 53 = .ok (.iaload, 1) := by decide +kernel
theorem dX5_ofSwearer_54 : decode cX5_ofSwearer 54 = .ok (.ireturn, 1) := by decide +kernel
theorem dX5_ofSwearer_55 : decode cX5_ofSwearer 55 = .ok (.aload_n 0, 1) := by decide +kernel
theorem dX5_ofSwearer_56 : decode cX5_ofSwearer 56 = .ok (.getfield 29, 3) := by decide +kernel
theorem dX5_ofSwearer_59 : decode cX5_ofSwearer 59 = .ok (.iload_n 1, 1) := by decide +kernel
theorem dX5_ofSwearer_60 : decode cX5_ofSwearer 60 = .ok (.iaload, 1) := by decide +kernel
theorem dX5_ofSwearer_61 : decode cX5_ofSwearer 61 = .ok (.ireturn, 1) := by decide +kernel
theorem dX5_ofSwearer_62 : decode cX5_ofSwearer 62 = .ok (.aload_n 0, 1) := by decide +kernel
theorem dX5_ofSwearer_63 : decode cX5_ofSwearer 63 = .ok (.iload_n 1, 1) := by decide +kernel
theorem dX5_ofSwearer_64 : decode cX5_ofSwearer 64 = .ok (.invokevirtual 133, 3) := by decide +kernel
theorem dX5_ofSwearer_67 : decode cX5_ofSwearer 67 = .ok (.ireturn, 1) := by decide +kernel
theorem dX5_ofSwearer_68 : decode cX5_ofSwearer 68 = .ok (.aload_n 0, 1) := by decide +kernel
theorem dX5_ofSwearer_69 : decode cX5_ofSwearer 69 = .ok (.iload_n 1, 1) := by decide +kernel
theorem dX5_ofSwearer_70 : decode cX5_ofSwearer 70 = .ok (.invokevirtual 148, 3) := by decide +kernel
theorem dX5_ofSwearer_73 : decode cX5_ofSwearer 73 = .ok (.ireturn, 1) := by decide +kernel
theorem dX5_ofSwearer_74 : decode cX5_ofSwearer 74 = .ok (.aload_n 0, 1) := by decide +kernel
theorem dX5_ofSwearer_75 : decode cX5_ofSwearer 75 = .ok (.iload_n 1, 1) := by decide +kernel
theorem dX5_ofSwearer_76 : decode cX5_ofSwearer 76 = .ok (.invokevirtual 151, 3) := by decide +kernel
theorem dX5_ofSwearer_79 : decode cX5_ofSwearer 79 = .ok (.ireturn, 1) := by decide +kernel
theorem dX5_ofSwearer_80 : decode cX5_ofSwearer 80 = .ok (.aload_n 0, 1) := by decide +kernel
theorem dX5_ofSwearer_81 : decode cX5_ofSwearer 81 = .ok (.iload_n 1, 1) := by decide +kernel
theorem dX5_ofSwearer_82 : decode cX5_ofSwearer 82 = .ok (.invokevirtual 151, 3) := by decide +kernel
theorem dX5_ofSwearer_85 : decode cX5_ofSwearer 85 = .ok (.aload_n 0, 1) := by decide +kernel
theorem dX5_ofSwearer_86 : decode cX5_ofSwearer 86 = .ok (.invokevirtual 154, 3) := by decide +kernel
theorem dX5_ofSwearer_89 : decode cX5_ofSwearer 89 = .ok (.iand, 1) := by decide +kernel
theorem dX5_ofSwearer_90 : decode cX5_ofSwearer 90 = .ok (.ireturn, 1) := by decide +kernel
theorem dX5_ofSwearer_91 : decode cX5_ofSwearer 91 = .ok (.bipush (-2), 2) := by decide +kernel
theorem dX5_ofSwearer_93 : decode cX5_ofSwearer 93 = .ok (.ireturn, 1) := by decide +kernel
theorem dX5_ofOath_0 : decode cX5_ofOath 0 = .ok (.aload_n 0, 1) := by decide +kernel
theorem dX5_ofOath_1 : decode cX5_ofOath 1 = .ok (.iload_n 1, 1) := by decide +kernel
theorem dX5_ofOath_2 : decode cX5_ofOath 2 = .ok (.invokevirtual 158, 3) := by decide +kernel
theorem dX5_ofOath_5 : decode cX5_ofOath 5 = .ok (.ifCond .ne 5, 3) := by decide +kernel
theorem dX5_ofOath_8 : decode cX5_ofOath 8 = .ok (.iconst (-1), 1) := by decide +kernel
theorem dX5_ofOath_9 : decode cX5_ofOath 9 = .ok (.ireturn, 1) := by decide +kernel
theorem dX5_ofOath_10 : decode cX5_ofOath 10 = .ok (.iload_n 2, 1) := by decide +kernel
theorem dX5_ofOath_11 : decode cX5_ofOath 11 = .ok (.tableswitch 88 0 4 #[33, 40, 47, 54, 74], 33) := by decide +kernel
theorem dX5_ofOath_44 : decode cX5_ofOath 44 = .ok (.aload_n 0, 1) := by decide +kernel
theorem dX5_ofOath_45 : decode cX5_ofOath 45 = .ok (.getfield 32, 3) := by decide +kernel
theorem dX5_ofOath_48 : decode cX5_ofOath 48 = .ok (.iload_n 1, 1) := by decide +kernel
theorem dX5_ofOath_49 : decode cX5_ofOath 49 = .ok (.iaload, 1) := by decide +kernel
theorem dX5_ofOath_50 : decode cX5_ofOath 50 = .ok (.ireturn, 1) := by decide +kernel
theorem dX5_ofOath_51 : decode cX5_ofOath 51 = .ok (.aload_n 0, 1) := by decide +kernel
theorem dX5_ofOath_52 : decode cX5_ofOath 52 = .ok (.getfield 35, 3) := by decide +kernel
theorem dX5_ofOath_55 : decode cX5_ofOath 55 = .ok (.iload_n 1, 1) := by decide +kernel
theorem dX5_ofOath_56 : decode cX5_ofOath 56 = .ok (.iaload, 1) := by decide +kernel
theorem dX5_ofOath_57 : decode cX5_ofOath 57 = .ok (.ireturn, 1) := by decide +kernel
theorem dX5_ofOath_58 : decode cX5_ofOath 58 = .ok (.aload_n 0, 1) := by decide +kernel
theorem dX5_ofOath_59 : decode cX5_ofOath 59 = .ok (.getfield 38, 3) := by decide +kernel
theorem dX5_ofOath_62 : decode cX5_ofOath 62 = .ok (.iload_n 1, 1) := by decide +kernel
theorem dX5_ofOath_63 : decode cX5_ofOath 63 = .ok (.iaload, 1) := by decide +kernel
theorem dX5_ofOath_64 : decode cX5_ofOath 64 = .ok (.ireturn, 1) := by decide +kernel
theorem dX5_ofOath_65 : decode cX5_ofOath 65 = .ok (.aload_n 0, 1) := by decide +kernel
theorem dX5_ofOath_66 : decode cX5_ofOath 66 = .ok (.aload_n 0, 1) := by decide +kernel
theorem dX5_ofOath_67 : decode cX5_ofOath 67 = .ok (.getfield 32, 3) := by decide +kernel
theorem dX5_ofOath_70 : decode cX5_ofOath 70 = .ok (.iload_n 1, 1) := by decide +kernel
theorem dX5_ofOath_71 : decode cX5_ofOath 71 = .ok (.iaload, 1) := by decide +kernel
theorem dX5_ofOath_72 : decode cX5_ofOath 72 = .ok (.aload_n 0, 1) := by decide +kernel
theorem dX5_ofOath_73 : decode cX5_ofOath 73 = .ok (.getfield 38, 3) := by decide +kernel
theorem dX5_ofOath_76 : decode cX5_ofOath 76 = .ok (.iload_n 1, 1) := by decide +kernel
theorem dX5_ofOath_77 : decode cX5_ofOath 77 = .ok (.iaload, 1) := by decide +kernel
theorem dX5_ofOath_78 : decode cX5_ofOath 78 = .ok (.invokevirtual 136, 3) := by decide +kernel
theorem dX5_ofOath_81 : decode cX5_ofOath 81 = .ok (.bipush 100, 2) := by decide +kernel
theorem dX5_ofOath_83 : decode cX5_ofOath 83 = .ok (.iadd, 1) := by decide +kernel
theorem dX5_ofOath_84 : decode cX5_ofOath 84 = .ok (.ireturn, 1) := by decide +kernel
theorem dX5_ofOath_85 : decode cX5_ofOath 85 = .ok (.aload_n 0, 1) := by decide +kernel
theorem dX5_ofOath_86 : decode cX5_ofOath 86 = .ok (.iload_n 1, 1) := by decide +kernel
theorem dX5_ofOath_87 : decode cX5_ofOath 87 = .ok (.invokevirtual 142, 3) := by decide +kernel
theorem dX5_ofOath_90 : decode cX5_ofOath 90 = .ok (.ifCond .eq 7, 3) := by decide +kernel
theorem dX5_ofOath_93 : decode cX5_ofOath 93 = .ok (.iconst 1, 1) := by decide +kernel
theorem dX5_ofOath_94 : decode cX5_ofOath 94 = .ok (.goto 4, 3) := by decide +kernel
theorem dX5_ofOath_97 : decode cX5_ofOath 97 = .ok (.iconst 0, 1) := by decide +kernel
theorem dX5_ofOath_98 : decode cX5_ofOath 98 = .ok (.ireturn, 1) := by decide +kernel
theorem dX5_ofOath_99 : decode cX5_ofOath 99 = .ok (.bipush (-2), 2) := by decide +kernel
theorem dX5_ofOath_101 : decode cX5_ofOath 101 = .ok (.ireturn, 1) := by decide +kernel
theorem dX5_ofHour_0 : decode cX5_ofHour 0 = .ok (.aload_n 0, 1) := by decide +kernel
theorem dX5_ofHour_1 : decode cX5_ofHour 1 = .ok (.iload_n 1, 1) := by decide +kernel
theorem dX5_ofHour_2 : decode cX5_ofHour 2 = .ok (.invokevirtual 161, 3) := by decide +kernel
theorem dX5_ofHour_5 : decode cX5_ofHour 5 = .ok (.ifCond .ne 5, 3) := by decide +kernel
theorem dX5_ofHour_8 : decode cX5_ofHour 8 = .ok (.iconst (-1), 1) := by decide +kernel
theorem dX5_ofHour_9 : decode cX5_ofHour 9 = .ok (.ireturn, 1) := by decide +kernel
theorem dX5_ofHour_10 : decode cX5_ofHour 10 = .ok (.iload_n 2, 1) := by decide +kernel
theorem dX5_ofHour_11 : decode cX5_ofHour 11 = .ok (.ifCond .ne 12, 3) := by decide +kernel
theorem dX5_ofHour_14 : decode cX5_ofHour 14 = .ok (.aload_n 0, 1) := by decide +kernel
theorem dX5_ofHour_15 : decode cX5_ofHour 15 = .ok (.getfield 23, 3) := by decide +kernel
theorem dX5_ofHour_18 : decode cX5_ofHour 18 = .ok (.iload_n 1, 1) := by decide +kernel
theorem dX5_ofHour_19 : decode cX5_ofHour 19 = .ok (.iaload, 1) := by decide +kernel
theorem dX5_ofHour_20 : decode cX5_ofHour 20 = .ok (.goto 43, 3) := by decide +kernel
theorem dX5_ofHour_23 : decode cX5_ofHour 23 = .ok (.iload_n 2, 1) := by decide +kernel
theorem dX5_ofHour_24 : decode cX5_ofHour 24 = .ok (.iconst 1, 1) := by decide +kernel
theorem dX5_ofHour_25 : decode cX5_ofHour 25 = .ok (.if_icmp .ne 23, 3) := by decide +kernel
theorem dX5_ofHour_28 : decode cX5_ofHour 28 = .ok (.iload_n 1, 1) := by decide +kernel
theorem dX5_ofHour_29 : decode cX5_ofHour 29 = .ok (.aload_n 0, 1) := by decide +kernel
theorem dX5_ofHour_30 : decode cX5_ofHour 30 = .ok (.getfield 19, 3) := by decide +kernel
theorem dX5_ofHour_33 : decode cX5_ofHour 33 = .ok (.if_icmp .ne 10, 3) := by decide +kernel
theorem dX5_ofHour_36 : decode cX5_ofHour 36 = .ok (.aload_n 0, 1) := by decide +kernel
theorem dX5_ofHour_37 : decode cX5_ofHour 37 = .ok (.getfield 113, 3) := by decide +kernel
theorem dX5_ofHour_40 : decode cX5_ofHour 40 = .ok (.goto 23, 3) := by decide +kernel
theorem dX5_ofHour_43 : decode cX5_ofHour 43 = .ok (.bipush (-9), 2) := by decide +kernel
theorem dX5_ofHour_45 : decode cX5_ofHour 45 = .ok (.goto 18, 3) := by decide +kernel
theorem dX5_ofHour_48 : decode cX5_ofHour 48 = .ok (.iload_n 2, 1) := by decide +kernel
theorem dX5_ofHour_49 : decode cX5_ofHour 49 = .ok (.iconst 2, 1) := by decide +kernel
theorem dX5_ofHour_50 : decode cX5_ofHour 50 = .ok (.if_icmp .ne 11, 3) := by decide +kernel
theorem dX5_ofHour_53 : decode cX5_ofHour 53 = .ok (.aload_n 0, 1) := by decide +kernel
theorem dX5_ofHour_54 : decode cX5_ofHour 54 = .ok (.iload_n 1, 1) := by decide +kernel
theorem dX5_ofHour_55 : decode cX5_ofHour 55 = .ok (.invokevirtual 164, 3) := by decide +kernel
theorem dX5_ofHour_58 : decode cX5_ofHour 58 = .ok (.goto 5, 3) := by decide +kernel
theorem dX5_ofHour_61 : decode cX5_ofHour 61 = .ok (.bipush (-2), 2) := by decide +kernel
theorem dX5_ofHour_63 : decode cX5_ofHour 63 = .ok (.ireturn, 1) := by decide +kernel
theorem dX5_chill_0 : decode cX5_chill 0 = .ok (.aload_n 0, 1) := by decide +kernel
theorem dX5_chill_1 : decode cX5_chill 1 = .ok (.iload_n 1, 1) := by decide +kernel
theorem dX5_chill_2 : decode cX5_chill 2 = .ok (.invokevirtual 145, 3) := by decide +kernel
theorem dX5_chill_5 : decode cX5_chill 5 = .ok (.ifCond .eq 23, 3) := by decide +kernel
theorem dX5_chill_8 : decode cX5_chill 8 = .ok (.aload_n 0, 1) := by decide +kernel
theorem dX5_chill_9 : decode cX5_chill 9 = .ok (.iload_n 2, 1) := by decide +kernel
theorem dX5_chill_10 : decode cX5_chill 10 = .ok (.invokevirtual 161, 3) := by decide +kernel
theorem dX5_chill_13 : decode cX5_chill 13 = .ok (.ifCond .eq 15, 3) := by decide +kernel
theorem dX5_chill_16 : decode cX5_chill 16 = .ok (.aload_n 0, 1) := by decide +kernel
theorem dX5_chill_17 : decode cX5_chill 17 = .ok (.iload_n 1, 1) := by decide +kernel
theorem dX5_chill_18 : decode cX5_chill 18 = .ok (.iload_n 2, 1) := by decide +kernel
theorem dX5_chill_19 : decode cX5_chill 19 = .ok (.invokevirtual 136, 3) := by decide +kernel
theorem dX5_chill_22 : decode cX5_chill 22 = .ok (.bipush 100, 2) := by decide +kernel
theorem dX5_chill_24 : decode cX5_chill 24 = .ok (.iadd, 1) := by decide +kernel
theorem dX5_chill_25 : decode cX5_chill 25 = .ok (.goto 4, 3) := by decide +kernel
theorem dX5_chill_28 : decode cX5_chill 28 = .ok (.iconst (-1), 1) := by decide +kernel
theorem dX5_chill_29 : decode cX5_chill 29 = .ok (.ireturn, 1) := by decide +kernel
theorem dX5_coat_0 : decode cX5_coat 0 = .ok (.aload_n 0, 1) := by decide +kernel
theorem dX5_coat_1 : decode cX5_coat 1 = .ok (.iload_n 1, 1) := by decide +kernel
theorem dX5_coat_2 : decode cX5_coat 2 = .ok (.invokevirtual 145, 3) := by decide +kernel
theorem dX5_coat_5 : decode cX5_coat 5 = .ok (.ifCond .ne 5, 3) := by decide +kernel
theorem dX5_coat_8 : decode cX5_coat 8 = .ok (.iconst (-1), 1) := by decide +kernel
theorem dX5_coat_9 : decode cX5_coat 9 = .ok (.ireturn, 1) := by decide +kernel
theorem dX5_coat_10 : decode cX5_coat 10 = .ok (.iload_n 2, 1) := by decide +kernel
theorem dX5_coat_11 : decode cX5_coat 11 = .ok (.iconst 0, 1) := by decide +kernel
theorem dX5_coat_12 : decode cX5_coat 12 = .ok (.bipush 9, 2) := by decide +kernel
theorem dX5_coat_14 : decode cX5_coat 14 = .ok (.invokestatic 67, 3) := by decide +kernel
theorem dX5_coat_17 : decode cX5_coat 17 = .ok (.ifCond .ne 6, 3) := by decide +kernel
theorem dX5_coat_20 : decode cX5_coat 20 = .ok (.bipush (-2), 2) := by decide +kernel
theorem dX5_coat_22 : decode cX5_coat 22 = .ok (.ireturn, 1) := by decide +kernel
theorem dX5_coat_23 : decode cX5_coat 23 = .ok (.aload_n 0, 1) := by decide +kernel
theorem dX5_coat_24 : decode cX5_coat 24 = .ok (.getfield 29, 3) := by decide +kernel
theorem dX5_coat_27 : decode cX5_coat 27 = .ok (.iload_n 1, 1) := by decide +kernel
theorem dX5_coat_28 : decode cX5_coat 28 = .ok (.iaload, 1) := by decide +kernel
theorem dX5_coat_29 : decode cX5_coat 29 = .ok (.istore_n 3, 1) := by decide +kernel
theorem dX5_coat_30 : decode cX5_coat 30 = .ok (.aload_n 0, 1) := by decide +kernel
theorem dX5_coat_31 : decode cX5_coat 31 = .ok (.getfield 29, 3) := by decide +kernel
theorem dX5_coat_34 : decode cX5_coat 34 = .ok (.iload_n 1, 1) := by decide +kernel
theorem dX5_coat_35 : decode cX5_coat 35 = .ok (.iload_n 2, 1) := by decide +kernel
theorem dX5_coat_36 : decode cX5_coat 36 = .ok (.iastore, 1) := by decide +kernel
theorem dX5_coat_37 : decode cX5_coat 37 = .ok (.iload_n 3, 1) := by decide +kernel
theorem dX5_coat_38 : decode cX5_coat 38 = .ok (.ireturn, 1) := by decide +kernel
theorem dX5_frost_0 : decode cX5_frost 0 = .ok (.aload_n 0, 1) := by decide +kernel
theorem dX5_frost_1 : decode cX5_frost 1 = .ok (.iload_n 1, 1) := by decide +kernel
theorem dX5_frost_2 : decode cX5_frost 2 = .ok (.invokevirtual 161, 3) := by decide +kernel
theorem dX5_frost_5 : decode cX5_frost 5 = .ok (.ifCond .ne 5, 3) := by decide +kernel
theorem dX5_frost_8 : decode cX5_frost 8 = .ok (.iconst (-1), 1) := by decide +kernel
theorem dX5_frost_9 : decode cX5_frost 9 = .ok (.ireturn, 1) := by decide +kernel
theorem dX5_frost_10 : decode cX5_frost 10 = .ok (.iload_n 2, 1) := by decide +kernel
theorem dX5_frost_11 : decode cX5_frost 11 = .ok (.iconst 0, 1) := by decide +kernel
theorem dX5_frost_12 : decode cX5_frost 12 = .ok (.bipush 9, 2) := by decide +kernel
theorem dX5_frost_14 : decode cX5_frost 14 = .ok (.invokestatic 67, 3) := by decide +kernel
theorem dX5_frost_17 : decode cX5_frost 17 = .ok (.ifCond .ne 6, 3) := by decide +kernel
theorem dX5_frost_20 : decode cX5_frost 20 = .ok (.bipush (-2), 2) := by decide +kernel
theorem dX5_frost_22 : decode cX5_frost 22 = .ok (.ireturn, 1) := by decide +kernel
theorem dX5_frost_23 : decode cX5_frost 23 = .ok (.aload_n 0, 1) := by decide +kernel
theorem dX5_frost_24 : decode cX5_frost 24 = .ok (.getfield 23, 3) := by decide +kernel
theorem dX5_frost_27 : decode cX5_frost 27 = .ok (.iload_n 1, 1) := by decide +kernel
theorem dX5_frost_28 : decode cX5_frost 28 = .ok (.iaload, 1) := by decide +kernel
theorem dX5_frost_29 : decode cX5_frost 29 = .ok (.istore_n 3, 1) := by decide +kernel
theorem dX5_frost_30 : decode cX5_frost 30 = .ok (.aload_n 0, 1) := by decide +kernel
theorem dX5_frost_31 : decode cX5_frost 31 = .ok (.getfield 23, 3) := by decide +kernel
theorem dX5_frost_34 : decode cX5_frost 34 = .ok (.iload_n 1, 1) := by decide +kernel
theorem dX5_frost_35 : decode cX5_frost 35 = .ok (.iload_n 2, 1) := by decide +kernel
theorem dX5_frost_36 : decode cX5_frost 36 = .ok (.iastore, 1) := by decide +kernel
theorem dX5_frost_37 : decode cX5_frost 37 = .ok (.iload_n 3, 1) := by decide +kernel
theorem dX5_frost_38 : decode cX5_frost 38 = .ok (.ireturn, 1) := by decide +kernel
theorem dX5_swear_0 : decode cX5_swear 0 = .ok (.aload_n 0, 1) := by decide +kernel
theorem dX5_swear_1 : decode cX5_swear 1 = .ok (.iload_n 1, 1) := by decide +kernel
theorem dX5_swear_2 : decode cX5_swear 2 = .ok (.invokevirtual 145, 3) := by decide +kernel
theorem dX5_swear_5 : decode cX5_swear 5 = .ok (.ifCond .eq 24, 3) := by decide +kernel
theorem dX5_swear_8 : decode cX5_swear 8 = .ok (.aload_n 0, 1) := by decide +kernel
theorem dX5_swear_9 : decode cX5_swear 9 = .ok (.iload_n 2, 1) := by decide +kernel
theorem dX5_swear_10 : decode cX5_swear 10 = .ok (.invokevirtual 145, 3) := by decide +kernel
theorem dX5_swear_13 : decode cX5_swear 13 = .ok (.ifCond .eq 16, 3) := by decide +kernel
theorem dX5_swear_16 : decode cX5_swear 16 = .ok (.iload_n 1, 1) := by decide +kernel
theorem dX5_swear_17 : decode cX5_swear 17 = .ok (.iload_n 2, 1) := by decide +kernel
theorem dX5_swear_18 : decode cX5_swear 18 = .ok (.if_icmp .eq 11, 3) := by decide +kernel
theorem dX5_swear_21 : decode cX5_swear 21 = .ok (.aload_n 0, 1) := by decide +kernel
theorem dX5_swear_22 : decode cX5_swear 22 = .ok (.iload_n 3, 1) := by decide +kernel
theorem dX5_swear_23 : decode cX5_swear 23 = .ok (.invokevirtual 161, 3) := by decide +kernel
theorem dX5_swear_26 : decode cX5_swear 26 = .ok (.ifCond .ne 5, 3) := by decide +kernel
theorem dX5_swear_29 : decode cX5_swear 29 = .ok (.iconst (-1), 1) := by decide +kernel
theorem dX5_swear_30 : decode cX5_swear 30 = .ok (.ireturn, 1) := by decide +kernel
theorem dX5_swear_31 : decode cX5_swear 31 = .ok (.aload_n 0, 1) := by decide +kernel
theorem dX5_swear_32 : decode cX5_swear 32 = .ok (.getfield 77, 3) := by decide +kernel
theorem dX5_swear_35 : decode cX5_swear 35 = .ok (.bipush 6, 2) := by decide +kernel
theorem dX5_swear_37 : decode cX5_swear 37 = .ok (.if_icmp .ne 6, 3) := by decide +kernel
theorem dX5_swear_40 : decode cX5_swear 40 = .ok (.bipush (-4), 2) := by decide +kernel
theorem dX5_swear_42 : decode cX5_swear 42 = .ok (.ireturn, 1) := by decide +kernel
theorem dX5_swear_43 : decode cX5_swear 43 = .ok (.aload_n 0, 1) := by decide +kernel
theorem dX5_swear_44 : decode cX5_swear 44 = .ok (.getfield 32, 3) := by decide +kernel
theorem dX5_swear_47 : decode cX5_swear 47 = .ok (.aload_n 0, 1) := by decide +kernel
theorem dX5_swear_48 : decode cX5_swear 48 = .ok (.getfield 77, 3) := by decide +kernel
theorem dX5_swear_51 : decode cX5_swear 51 = .ok (.iload_n 1, 1) := by decide +kernel
theorem dX5_swear_52 : decode cX5_swear 52 = .ok (.iastore, 1) := by decide +kernel
theorem dX5_swear_53 : decode cX5_swear 53 = .ok (.aload_n 0, 1) := by decide +kernel
theorem dX5_swear_54 : decode cX5_swear 54 = .ok (.getfield 35, 3) := by decide +kernel
theorem dX5_swear_57 : decode cX5_swear 57 = .ok (.aload_n 0, 1) := by decide +kernel
theorem dX5_swear_58 : decode cX5_swear 58 = .ok (.getfield 77, 3) := by decide +kernel
theorem dX5_swear_61 : decode cX5_swear 61 = .ok (.iload_n 2, 1) := by decide +kernel
theorem dX5_swear_62 : decode cX5_swear 62 = .ok (.iastore, 1) := by decide +kernel
theorem dX5_swear_63 : decode cX5_swear 63 = .ok (.aload_n 0, 1) := by decide +kernel
theorem dX5_swear_64 : decode cX5_swear 64 = .ok (.getfield 38, 3) := by decide +kernel
theorem dX5_swear_67 : decode cX5_swear 67 = .ok (.aload_n 0, 1) := by decide +kernel
theorem dX5_swear_68 : decode cX5_swear 68 = .ok (.getfield 77, 3) := by decide +kernel
theorem dX5_swear_71 : decode cX5_swear 71 = .ok (.iload_n 3, 1) := by decide +kernel
theorem dX5_swear_72 : decode cX5_swear 72 = .ok (.iastore, 1) := by decide +kernel
theorem dX5_swear_73 : decode cX5_swear 73 = .ok (.aload_n 0, 1) := by decide +kernel
theorem dX5_swear_74 : decode cX5_swear 74 = .ok (.dup, 1) := by decide +kernel
theorem dX5_swear_75 : decode cX5_swear 75 = .ok (.getfield 77, 3) := by decide +kernel
theorem dX5_swear_78 : decode cX5_swear 78 = .ok (.iconst 1, 1) := by decide +kernel
theorem dX5_swear_79 : decode cX5_swear 79 = .ok (.iadd, 1) := by decide +kernel
theorem dX5_swear_80 : decode cX5_swear 80 = .ok (.putfield 77, 3) := by decide +kernel
theorem dX5_swear_83 : decode cX5_swear 83 = .ok (.aload_n 0, 1) := by decide +kernel
theorem dX5_swear_84 : decode cX5_swear 84 = .ok (.getfield 77, 3) := by decide +kernel
theorem dX5_swear_87 : decode cX5_swear 87 = .ok (.iconst 1, 1) := by decide +kernel
theorem dX5_swear_88 : decode cX5_swear 88 = .ok (.isub, 1) := by decide +kernel
theorem dX5_swear_89 : decode cX5_swear 89 = .ok (.ireturn, 1) := by decide +kernel
theorem dX5_letOff_0 : decode cX5_letOff 0 = .ok (.aload_n 0, 1) := by decide +kernel
theorem dX5_letOff_1 : decode cX5_letOff 1 = .ok (.dup, 1) := by decide +kernel
theorem dX5_letOff_2 : decode cX5_letOff 2 = .ok (.getfield 77, 3) := by decide +kernel
theorem dX5_letOff_5 : decode cX5_letOff 5 = .ok (.iconst 1, 1) := by decide +kernel
theorem dX5_letOff_6 : decode cX5_letOff 6 = .ok (.isub, 1) := by decide +kernel
theorem dX5_letOff_7 : decode cX5_letOff 7 = .ok (.putfield 77, 3) := by decide +kernel
theorem dX5_letOff_10 : decode cX5_letOff 10 = .ok (.iload_n 1, 1) := by decide +kernel
theorem dX5_letOff_11 : decode cX5_letOff 11 = .ok (.istore_n 2, 1) := by decide +kernel
theorem dX5_letOff_12 : decode cX5_letOff 12 = .ok (.iload_n 2, 1) := by decide +kernel
theorem dX5_letOff_13 : decode cX5_letOff 13 = .ok (.aload_n 0, 1) := by decide +kernel
theorem dX5_letOff_14 : decode cX5_letOff 14 = .ok (.getfield 77, 3) := by decide +kernel
theorem dX5_letOff_17 : decode cX5_letOff 17 = .ok (.if_icmp .ge 51, 3) := by decide +kernel
theorem dX5_letOff_20 : decode cX5_letOff 20 = .ok (.aload_n 0, 1) := by decide +kernel
theorem dX5_letOff_21 : decode cX5_letOff 21 = .ok (.getfield 32, 3) := by decide +kernel
theorem dX5_letOff_24 : decode cX5_letOff 24 = .ok (.iload_n 2, 1) := by decide +kernel
theorem dX5_letOff_25 : decode cX5_letOff 25 = .ok (.aload_n 0, 1) := by decide +kernel
theorem dX5_letOff_26 : decode cX5_letOff 26 = .ok (.getfield 32, 3) := by decide +kernel
theorem dX5_letOff_29 : decode cX5_letOff 29 = .ok (.iload_n 2, 1) := by decide +kernel
theorem dX5_letOff_30 : decode cX5_letOff 30 = .ok (.iconst 1, 1) := by decide +kernel
theorem dX5_letOff_31 : decode cX5_letOff 31 = .ok (.iadd, 1) := by decide +kernel
theorem dX5_letOff_32 : decode cX5_letOff 32 = .ok (.iaload, 1) := by decide +kernel
theorem dX5_letOff_33 : decode cX5_letOff 33 = .ok (.iastore, 1) := by decide +kernel
theorem dX5_letOff_34 : decode cX5_letOff 34 = .ok (.aload_n 0, 1) := by decide +kernel
theorem dX5_letOff_35 : decode cX5_letOff 35 = .ok (.getfield 35, 3) := by decide +kernel
theorem dX5_letOff_38 : decode cX5_letOff 38 = .ok (.iload_n 2, 1) := by decide +kernel
theorem dX5_letOff_39 : decode cX5_letOff 39 = .ok (.aload_n 0, 1) := by decide +kernel
theorem dX5_letOff_40 : decode cX5_letOff 40 = .ok (.getfield 35, 3) := by decide +kernel
theorem dX5_letOff_43 : decode cX5_letOff 43 = .ok (.iload_n 2, 1) := by decide +kernel
theorem dX5_letOff_44 : decode cX5_letOff 44 = .ok (.iconst 1, 1) := by decide +kernel
theorem dX5_letOff_45 : decode cX5_letOff 45 = .ok (.iadd, 1) := by decide +kernel
theorem dX5_letOff_46 : decode cX5_letOff 46 = .ok (.iaload, 1) := by decide +kernel
theorem dX5_letOff_47 : decode cX5_letOff 47 = .ok (.iastore, 1) := by decide +kernel
theorem dX5_letOff_48 : decode cX5_letOff 48 = .ok (.aload_n 0, 1) := by decide +kernel
theorem dX5_letOff_49 : decode cX5_letOff 49 = .ok (.getfield 38, 3) := by decide +kernel
theorem dX5_letOff_52 : decode cX5_letOff 52 = .ok (.iload_n 2, 1) := by decide +kernel
theorem dX5_letOff_53 : decode cX5_letOff 53 = .ok (.aload_n 0, 1) := by decide +kernel
theorem dX5_letOff_54 : decode cX5_letOff 54 = .ok (.getfield 38, 3) := by decide +kernel
theorem dX5_letOff_57 : decode cX5_letOff 57 = .ok (.iload_n 2, 1) := by decide +kernel
theorem dX5_letOff_58 : decode cX5_letOff 58 = .ok (.iconst 1, 1) := by decide +kernel
theorem dX5_letOff_59 : decode cX5_letOff 59 = .ok (.iadd, 1) := by decide +kernel
theorem dX5_letOff_60 : decode cX5_letOff 60 = .ok (.iaload, 1) := by decide +kernel
theorem dX5_letOff_61 : decode cX5_letOff 61 = .ok (.iastore, 1) := by decide +kernel
theorem dX5_letOff_62 : decode cX5_letOff 62 = .ok (.iinc 2 1, 3) := by decide +kernel
theorem dX5_letOff_65 : decode cX5_letOff 65 = .ok (.goto (-53), 3) := by decide +kernel
theorem dX5_letOff_68 : decode cX5_letOff 68 = .ok (.return_, 1) := by decide +kernel
theorem dX5_release_0 : decode cX5_release 0 = .ok (.aload_n 0, 1) := by decide +kernel
theorem dX5_release_1 : decode cX5_release 1 = .ok (.iload_n 1, 1) := by decide +kernel
theorem dX5_release_2 : decode cX5_release 2 = .ok (.invokevirtual 158, 3) := by decide +kernel
theorem dX5_release_5 : decode cX5_release 5 = .ok (.ifCond .ne 5, 3) := by decide +kernel
theorem dX5_release_8 : decode cX5_release 8 = .ok (.iconst (-1), 1) := by decide +kernel
theorem dX5_release_9 : decode cX5_release 9 = .ok (.ireturn, 1) := by decide +kernel
theorem dX5_release_10 : decode cX5_release 10 = .ok (.aload_n 0, 1) := by decide +kernel
theorem dX5_release_11 : decode cX5_release 11 = .ok (.iload_n 1, 1) := by decide +kernel
theorem dX5_release_12 : decode cX5_release 12 = .ok (.invokevirtual 167, 3) := by decide +kernel
theorem dX5_release_15 : decode cX5_release 15 = .ok (.aload_n 0, 1) := by decide +kernel
theorem dX5_release_16 : decode cX5_release 16 = .ok (.getfield 77, 3) := by decide +kernel
theorem dX5_release_19 : decode cX5_release 19 = .ok (.ireturn, 1) := by decide +kernel
theorem dX5_stove_0 : decode cX5_stove 0 = .ok (.aload_n 0, 1) := by decide +kernel
theorem dX5_stove_1 : decode cX5_stove 1 = .ok (.getfield 71, 3) := by decide +kernel
theorem dX5_stove_4 : decode cX5_stove 4 = .ok (.ifCond .ne 6, 3) := by decide +kernel
theorem dX5_stove_7 : decode cX5_stove 7 = .ok (.bipush (-3), 2) := by decide +kernel
theorem dX5_stove_9 : decode cX5_stove 9 = .ok (.ireturn, 1) := by decide +kernel
theorem dX5_stove_10 : decode cX5_stove 10 = .ok (.iload_n 1, 1) := by decide +kernel
theorem dX5_stove_11 : decode cX5_stove 11 = .ok (.bipush (-9), 2) := by decide +kernel
theorem dX5_stove_13 : decode cX5_stove 13 = .ok (.if_icmp .ne 17, 3) := by decide +kernel
theorem dX5_stove_16 : decode cX5_stove 16 = .ok (.aload_n 0, 1) := by decide +kernel
theorem dX5_stove_17 : decode cX5_stove 17 = .ok (.bipush (-9), 2) := by decide +kernel
theorem dX5_stove_19 : decode cX5_stove 19 = .ok (.putfield 19, 3) := by decide +kernel
theorem dX5_stove_22 : decode cX5_stove 22 = .ok (.aload_n 0, 1) := by decide +kernel
theorem dX5_stove_23 : decode cX5_stove 23 = .ok (.invokevirtual 154, 3) := by decide +kernel
theorem dX5_stove_26 : decode cX5_stove 26 = .ok (.invokestatic 171, 3) := by decide +kernel
theorem dX5_stove_29 : decode cX5_stove 29 = .ok (.ireturn, 1) := by decide +kernel
theorem dX5_stove_30 : decode cX5_stove 30 = .ok (.aload_n 0, 1) := by decide +kernel
theorem dX5_stove_31 : decode cX5_stove 31 = .ok (.iload_n 1, 1) := by decide +kernel
theorem dX5_stove_32 : decode cX5_stove 32 = .ok (.invokevirtual 161, 3) := by decide +kernel
theorem dX5_stove_35 : decode cX5_stove 35 = .ok (.ifCond .ne 5, 3) := by decide +kernel
theorem dX5_stove_38 : decode cX5_stove 38 = .ok (.iconst (-1), 1) := by decide +kernel
theorem dX5_stove_39 : decode cX5_stove 39 = .ok (.ireturn, 1) := by decide +kernel
theorem dX5_stove_40 : decode cX5_stove 40 = .ok (.iload_n 2, 1) := by decide +kernel
theorem dX5_stove_41 : decode cX5_stove 41 = .ok (.iconst 0, 1) := by decide +kernel
theorem dX5_stove_42 : decode cX5_stove 42 = .ok (.bipush 9, 2) := by decide +kernel
theorem dX5_stove_44 : decode cX5_stove 44 = .ok (.invokestatic 67, 3) := by decide +kernel
theorem dX5_stove_47 : decode cX5_stove 47 = .ok (.ifCond .ne 6, 3) := by decide +kernel
theorem dX5_stove_50 : decode cX5_stove 50 = .ok (.bipush (-2), 2) := by decide +kernel
theorem dX5_stove_52 : decode cX5_stove 52 = .ok (.ireturn, 1) := by decide +kernel
theorem dX5_stove_53 : decode cX5_stove 53 = .ok (.aload_n 0, 1) := by decide +kernel
theorem dX5_stove_54 : decode cX5_stove 54 = .ok (.iload_n 1, 1) := by decide +kernel
theorem dX5_stove_55 : decode cX5_stove 55 = .ok (.putfield 19, 3) := by decide +kernel
theorem dX5_stove_58 : decode cX5_stove 58 = .ok (.aload_n 0, 1) := by decide +kernel
theorem dX5_stove_59 : decode cX5_stove 59 = .ok (.iload_n 2, 1) := by decide +kernel
theorem dX5_stove_60 : decode cX5_stove 60 = .ok (.putfield 113, 3) := by decide +kernel
theorem dX5_stove_63 : decode cX5_stove 63 = .ok (.aload_n 0, 1) := by decide +kernel
theorem dX5_stove_64 : decode cX5_stove 64 = .ok (.invokevirtual 154, 3) := by decide +kernel
theorem dX5_stove_67 : decode cX5_stove 67 = .ok (.invokestatic 171, 3) := by decide +kernel
theorem dX5_stove_70 : decode cX5_stove 70 = .ok (.ireturn, 1) := by decide +kernel
theorem dX5_keep_0 : decode cX5_keep 0 = .ok (.aload_n 0, 1) := by decide +kernel
theorem dX5_keep_1 : decode cX5_keep 1 = .ok (.getfield 50, 3) := by decide +kernel
theorem dX5_keep_4 : decode cX5_keep 4 = .ok (.iconst 0, 1) := by decide +kernel
theorem dX5_keep_5 : decode cX5_keep 5 = .ok (.aload_n 0, 1) := by decide +kernel
theorem dX5_keep_6 : decode cX5_keep 6 = .ok (.getfield 77, 3) := by decide +kernel
theorem dX5_keep_9 : decode cX5_keep 9 = .ok (.iastore, 1) := by decide +kernel
theorem dX5_keep_10 : decode cX5_keep 10 = .ok (.aload_n 0, 1) := by decide +kernel
theorem dX5_keep_11 : decode cX5_keep 11 = .ok (.getfield 50, 3) := by decide +kernel
theorem dX5_keep_14 : decode cX5_keep 14 = .ok (.iconst 1, 1) := by decide +kernel
theorem dX5_keep_15 : decode cX5_keep 15 = .ok (.aload_n 0, 1) := by decide +kernel
theorem dX5_keep_16 : decode cX5_keep 16 = .ok (.getfield 19, 3) := by decide +kernel
theorem dX5_keep_19 : decode cX5_keep 19 = .ok (.iastore, 1) := by decide +kernel
theorem dX5_keep_20 : decode cX5_keep 20 = .ok (.aload_n 0, 1) := by decide +kernel
theorem dX5_keep_21 : decode cX5_keep 21 = .ok (.getfield 50, 3) := by decide +kernel
theorem dX5_keep_24 : decode cX5_keep 24 = .ok (.iconst 2, 1) := by decide +kernel
theorem dX5_keep_25 : decode cX5_keep 25 = .ok (.aload_n 0, 1) := by decide +kernel
theorem dX5_keep_26 : decode cX5_keep 26 = .ok (.getfield 113, 3) := by decide +kernel
theorem dX5_keep_29 : decode cX5_keep 29 = .ok (.iastore, 1) := by decide +kernel
theorem dX5_keep_30 : decode cX5_keep 30 = .ok (.iconst 0, 1) := by decide +kernel
theorem dX5_keep_31 : decode cX5_keep 31 = .ok (.istore_n 1, 1) := by decide +kernel
theorem dX5_keep_32 : decode cX5_keep 32 = .ok (.iload_n 1, 1) := by decide +kernel
theorem dX5_keep_33 : decode cX5_keep 33 = .ok (.bipush 6, 2) := by decide +kernel
theorem dX5_keep_35 : decode cX5_keep 35 = .ok (.if_icmp .ge 68, 3) := by decide +kernel
theorem dX5_keep_38 : decode cX5_keep 38 = .ok (.aload_n 0, 1) := by decide +kernel
theorem dX5_keep_39 : decode cX5_keep 39 = .ok (.getfield 50, 3) := by decide +kernel
theorem dX5_keep_42 : decode cX5_keep 42 = .ok (.iconst 3, 1) := by decide +kernel
theorem dX5_keep_43 : decode cX5_keep 43 = .ok (.iload_n 1, 1) := by decide +kernel
theorem dX5_keep_44 : decode cX5_keep 44 = .ok (.iadd, 1) := by decide +kernel
theorem dX5_keep_45 : decode cX5_keep 45 = .ok (.aload_n 0, 1) := by decide +kernel
theorem dX5_keep_46 : decode cX5_keep 46 = .ok (.getfield 23, 3) := by decide +kernel
theorem dX5_keep_49 : decode cX5_keep 49 = .ok (.iload_n 1, 1) := by decide +kernel
theorem dX5_keep_50 : decode cX5_keep 50 = .ok (.iaload, 1) := by decide +kernel
theorem dX5_keep_51 : decode cX5_keep 51 = .ok (.iastore, 1) := by decide +kernel
theorem dX5_keep_52 : decode cX5_keep 52 = .ok (.aload_n 0, 1) := by decide +kernel
theorem dX5_keep_53 : decode cX5_keep 53 = .ok (.getfield 50, 3) := by decide +kernel
theorem dX5_keep_56 : decode cX5_keep 56 = .ok (.bipush 9, 2) := by decide +kernel
theorem dX5_keep_58 : decode cX5_keep 58 = .ok (.iload_n 1, 1) := by decide +kernel
theorem dX5_keep_59 : decode cX5_keep 59 = .ok (.iadd, 1) := by decide +kernel
theorem dX5_keep_60 : decode cX5_keep 60 = .ok (.aload_n 0, 1) := by decide +kernel
theorem dX5_keep_61 : decode cX5_keep 61 = .ok (.getfield 32, 3) := by decide +kernel
theorem dX5_keep_64 : decode cX5_keep 64 = .ok (.iload_n 1, 1) := by decide +kernel
theorem dX5_keep_65 : decode cX5_keep 65 = .ok (.iaload, 1) := by decide +kernel
theorem dX5_keep_66 : decode cX5_keep 66 = .ok (.iastore, 1) := by decide +kernel
theorem dX5_keep_67 : decode cX5_keep 67 = .ok (.aload_n 0, 1) := by decide +kernel
theorem dX5_keep_68 : decode cX5_keep 68 = .ok (.getfield 50, 3) := by decide +kernel
theorem dX5_keep_71 : decode cX5_keep 71 = .ok (.bipush 15, 2) := by decide +kernel
theorem dX5_keep_73 : decode cX5_keep 73 = .ok (.iload_n 1, 1) := by decide +kernel
theorem dX5_keep_74 : decode cX5_keep 74 = .ok (.iadd, 1) := by decide +kernel
theorem dX5_keep_75 : decode cX5_keep 75 = .ok (.aload_n 0, 1) := by decide +kernel
theorem dX5_keep_76 : decode cX5_keep 76 = .ok (.getfield 35, 3) := by decide +kernel
theorem dX5_keep_79 : decode cX5_keep 79 = .ok (.iload_n 1, 1) := by decide +kernel
theorem dX5_keep_80 : decode cX5_keep 80 = .ok (.iaload, 1) := by decide +kernel
theorem dX5_keep_81 : decode cX5_keep 81 = .ok (.iastore, 1) := by decide +kernel
theorem dX5_keep_82 : decode cX5_keep 82 = .ok (.aload_n 0, 1) := by decide +kernel
theorem dX5_keep_83 : decode cX5_keep 83 = .ok (.getfield 50, 3) := by decide +kernel
theorem dX5_keep_86 : decode cX5_keep 86 = .ok (.bipush 21, 2) := by decide +kernel
theorem dX5_keep_88 : decode cX5_keep 88 = .ok (.iload_n 1, 1) := by decide +kernel
theorem dX5_keep_89 : decode cX5_keep 89 = .ok (.iadd, 1) := by decide +kernel
theorem dX5_keep_90 : decode cX5_keep 90 = .ok (.aload_n 0, 1) := by decide +kernel
theorem dX5_keep_91 : decode cX5_keep 91 = .ok (.getfield 38, 3) := by decide +kernel
theorem dX5_keep_94 : decode cX5_keep 94 = .ok (.iload_n 1, 1) := by decide +kernel
theorem dX5_keep_95 : decode cX5_keep 95 = .ok (.iaload, 1) := by decide +kernel
theorem dX5_keep_96 : decode cX5_keep 96 = .ok (.iastore, 1) := by decide +kernel
theorem dX5_keep_97 : decode cX5_keep 97 = .ok (.iinc 1 1, 3) := by decide +kernel
theorem dX5_keep_100 : decode cX5_keep 100 = .ok (.goto (-68), 3) := by decide +kernel
theorem dX5_keep_103 : decode cX5_keep 103 = .ok (.iconst 0, 1) := by decide +kernel
theorem dX5_keep_104 : decode cX5_keep 104 = .ok (.istore_n 1, 1) := by decide +kernel
theorem dX5_keep_105 : decode cX5_keep 105 = .ok (.iload_n 1, 1) := by decide +kernel
theorem dX5_keep_106 : decode cX5_keep 106 = .ok (.iconst 4, 1) := by decide +kernel
theorem dX5_keep_107 : decode cX5_keep 107 = .ok (.if_icmp .ge 24, 3) := by decide +kernel
theorem dX5_keep_110 : decode cX5_keep 110 = .ok (.aload_n 0, 1) := by decide +kernel
theorem dX5_keep_111 : decode cX5_keep 111 = .ok (.getfield 50, 3) := by decide +kernel
theorem dX5_keep_114 : decode cX5_keep 114 = .ok (.bipush 27, 2) := by decide +kernel
theorem dX5_keep_116 : decode cX5_keep 116 = .ok (.iload_n 1, 1) := by decide +kernel
theorem dX5_keep_117 : decode cX5_keep 117 = .ok (.iadd, 1) := by decide +kernel
theorem dX5_keep_118 : decode cX5_keep 118 = .ok (.aload_n 0, 1) := by decide +kernel
theorem dX5_keep_119 : decode cX5_keep 119 = .ok (.getfield 29, 3) := by decide +kernel
theorem dX5_keep_122 : decode cX5_keep 122 = .ok (.iload_n 1, 1) := by decide +kernel
theorem dX5_keep_123 : decode cX5_keep 123 = .ok (.iaload, 1) := by decide +kernel
theorem dX5_keep_124 : decode cX5_keep 124 = .ok (.iastore, 1) := by decide +kernel
theorem dX5_keep_125 : decode cX5_keep 125 = .ok (.iinc 1 1, 3) := by decide +kernel
theorem dX5_keep_128 : decode cX5_keep 128 = .ok (.goto (-23), 3) := by decide +kernel
theorem dX5_keep_131 : decode cX5_keep 131 = .ok (.return_, 1) := by decide +kernel
theorem dX5_putBack_0 : decode cX5_putBack 0 = .ok (.aload_n 0, 1) := by decide +kernel
theorem dX5_putBack_1 : decode cX5_putBack 1 = .ok (.aload_n 0, 1) := by decide +kernel
theorem dX5_putBack_2 : decode cX5_putBack 2 = .ok (.getfield 50, 3) := by decide +kernel
theorem dX5_putBack_5 : decode cX5_putBack 5 = .ok (.iconst 0, 1) := by decide +kernel
theorem dX5_putBack_6 : decode cX5_putBack 6 = .ok (.iaload, 1) := by decide +kernel
theorem dX5_putBack_7 : decode cX5_putBack 7 = .ok (.putfield 77, 3) := by decide +kernel
theorem dX5_putBack_10 : decode cX5_putBack 10 = .ok (.aload_n 0, 1) := by decide +kernel
theorem dX5_putBack_11 : decode cX5_putBack 11 = .ok (.aload_n 0, 1) := by decide +kernel
theorem dX5_putBack_12 : decode cX5_putBack 12 = .ok (.getfield 50, 3) := by decide +kernel
theorem dX5_putBack_15 : decode cX5_putBack 15 = .ok (.iconst 1, 1) := by decide +kernel
theorem dX5_putBack_16 : decode cX5_putBack 16 = .ok (.iaload, 1) := by decide +kernel
theorem dX5_putBack_17 : decode cX5_putBack 17 = .ok (.putfield 19, 3) := by decide +kernel
theorem dX5_putBack_20 : decode cX5_putBack 20 = .ok (.aload_n 0, 1) := by decide +kernel
theorem dX5_putBack_21 : decode cX5_putBack 21 = .ok (.aload_n 0, 1) := by decide +kernel
theorem dX5_putBack_22 : decode cX5_putBack 22 = .ok (.getfield 50, 3) := by decide +kernel
theorem dX5_putBack_25 : decode cX5_putBack 25 = .ok (.iconst 2, 1) := by decide +kernel
theorem dX5_putBack_26 : decode cX5_putBack 26 = .ok (.iaload, 1) := by decide +kernel
theorem dX5_putBack_27 : decode cX5_putBack 27 = .ok (.putfield 113, 3) := by decide +kernel
theorem dX5_putBack_30 : decode cX5_putBack 30 = .ok (.iconst 0, 1) := by decide +kernel
theorem dX5_putBack_31 : decode cX5_putBack 31 = .ok (.istore_n 1, 1) := by decide +kernel
theorem dX5_putBack_32 : decode cX5_putBack 32 = .ok (.iload_n 1, 1) := by decide +kernel
theorem dX5_putBack_33 : decode cX5_putBack 33 = .ok (.bipush 6, 2) := by decide +kernel
theorem dX5_putBack_35 : decode cX5_putBack 35 = .ok (.if_icmp .ge 68, 3) := by decide +kernel
theorem dX5_putBack_38 : decode cX5_putBack 38 = .ok (.aload_n 0, 1) := by decide +kernel
theorem dX5_putBack_39 : decode cX5_putBack 39 = .ok (.getfield 23, 3) := by decide +kernel
theorem dX5_putBack_42 : decode cX5_putBack 42 = .ok (.iload_n 1, 1) := by decide +kernel
theorem dX5_putBack_43 : decode cX5_putBack 43 = .ok (.aload_n 0, 1) := by decide +kernel
theorem dX5_putBack_44 : decode cX5_putBack 44 = .ok (.getfield 50, 3) := by decide +kernel
theorem dX5_putBack_47 : decode cX5_putBack 47 = .ok (.iconst 3, 1) := by decide +kernel
theorem dX5_putBack_48 : decode cX5_putBack 48 = .ok (.iload_n 1, 1) := by decide +kernel
theorem dX5_putBack_49 : decode cX5_putBack 49 = .ok (.iadd, 1) := by decide +kernel
theorem dX5_putBack_50 : decode cX5_putBack 50 = .ok (.iaload, 1) := by decide +kernel
theorem dX5_putBack_51 : decode cX5_putBack 51 = .ok (.iastore, 1) := by decide +kernel
theorem dX5_putBack_52 : decode cX5_putBack 52 = .ok (.aload_n 0, 1) := by decide +kernel
theorem dX5_putBack_53 : decode cX5_putBack 53 = .ok (.getfield 32, 3) := by decide +kernel
theorem dX5_putBack_56 : decode cX5_putBack 56 = .ok (.iload_n 1, 1) := by decide +kernel
theorem dX5_putBack_57 : decode cX5_putBack 57 = .ok (.aload_n 0, 1) := by decide +kernel
theorem dX5_putBack_58 : decode cX5_putBack 58 = .ok (.getfield 50, 3) := by decide +kernel
theorem dX5_putBack_61 : decode cX5_putBack 61 = .ok (.bipush 9, 2) := by decide +kernel
theorem dX5_putBack_63 : decode cX5_putBack 63 = .ok (.iload_n 1, 1) := by decide +kernel
theorem dX5_putBack_64 : decode cX5_putBack 64 = .ok (.iadd, 1) := by decide +kernel
theorem dX5_putBack_65 : decode cX5_putBack 65 = .ok (.iaload, 1) := by decide +kernel
theorem dX5_putBack_66 : decode cX5_putBack 66 = .ok (.iastore, 1) := by decide +kernel
theorem dX5_putBack_67 : decode cX5_putBack 67 = .ok (.aload_n 0, 1) := by decide +kernel
theorem dX5_putBack_68 : decode cX5_putBack 68 = .ok (.getfield 35, 3) := by decide +kernel
theorem dX5_putBack_71 : decode cX5_putBack 71 = .ok (.iload_n 1, 1) := by decide +kernel
theorem dX5_putBack_72 : decode cX5_putBack 72 = .ok (.aload_n 0, 1) := by decide +kernel
theorem dX5_putBack_73 : decode cX5_putBack 73 = .ok (.getfield 50, 3) := by decide +kernel
theorem dX5_putBack_76 : decode cX5_putBack 76 = .ok (.bipush 15, 2) := by decide +kernel
theorem dX5_putBack_78 : decode cX5_putBack 78 = .ok (.iload_n 1, 1) := by decide +kernel
theorem dX5_putBack_79 : decode cX5_putBack 79 = .ok (.iadd, 1) := by decide +kernel
theorem dX5_putBack_80 : decode cX5_putBack 80 = .ok (.iaload, 1) := by decide +kernel
theorem dX5_putBack_81 : decode cX5_putBack 81 = .ok (.iastore, 1) := by decide +kernel
theorem dX5_putBack_82 : decode cX5_putBack 82 = .ok (.aload_n 0, 1) := by decide +kernel
theorem dX5_putBack_83 : decode cX5_putBack 83 = .ok (.getfield 38, 3) := by decide +kernel
theorem dX5_putBack_86 : decode cX5_putBack 86 = .ok (.iload_n 1, 1) := by decide +kernel
theorem dX5_putBack_87 : decode cX5_putBack 87 = .ok (.aload_n 0, 1) := by decide +kernel
theorem dX5_putBack_88 : decode cX5_putBack 88 = .ok (.getfield 50, 3) := by decide +kernel
theorem dX5_putBack_91 : decode cX5_putBack 91 = .ok (.bipush 21, 2) := by decide +kernel
theorem dX5_putBack_93 : decode cX5_putBack 93 = .ok (.iload_n 1, 1) := by decide +kernel
theorem dX5_putBack_94 : decode cX5_putBack 94 = .ok (.iadd, 1) := by decide +kernel
theorem dX5_putBack_95 : decode cX5_putBack 95 = .ok (.iaload, 1) := by decide +kernel
theorem dX5_putBack_96 : decode cX5_putBack 96 = .ok (.iastore, 1) := by decide +kernel
theorem dX5_putBack_97 : decode cX5_putBack 97 = .ok (.iinc 1 1, 3) := by decide +kernel
theorem dX5_putBack_100 : decode cX5_putBack 100 = .ok (.goto (-68), 3) := by decide +kernel
theorem dX5_putBack_103 : decode cX5_putBack 103 = .ok (.iconst 0, 1) := by decide +kernel
theorem dX5_putBack_104 : decode cX5_putBack 104 = .ok (.istore_n 1, 1) := by decide +kernel
theorem dX5_putBack_105 : decode cX5_putBack 105 = .ok (.iload_n 1, 1) := by decide +kernel
theorem dX5_putBack_106 : decode cX5_putBack 106 = .ok (.iconst 4, 1) := by decide +kernel
theorem dX5_putBack_107 : decode cX5_putBack 107 = .ok (.if_icmp .ge 24, 3) := by decide +kernel
theorem dX5_putBack_110 : decode cX5_putBack 110 = .ok (.aload_n 0, 1) := by decide +kernel
theorem dX5_putBack_111 : decode cX5_putBack 111 = .ok (.getfield 29, 3) := by decide +kernel
theorem dX5_putBack_114 : decode cX5_putBack 114 = .ok (.iload_n 1, 1) := by decide +kernel
theorem dX5_putBack_115 : decode cX5_putBack 115 = .ok (.aload_n 0, 1) := by decide +kernel
theorem dX5_putBack_116 : decode cX5_putBack 116 = .ok (.getfield 50, 3) := by decide +kernel
theorem dX5_putBack_119 : decode cX5_putBack 119 = .ok (.bipush 27, 2) := by decide +kernel
theorem dX5_putBack_121 : decode cX5_putBack 121 = .ok (.iload_n 1, 1) := by decide +kernel
theorem dX5_putBack_122 : decode cX5_putBack 122 = .ok (.iadd, 1) := by decide +kernel
theorem dX5_putBack_123 : decode cX5_putBack 123 = .ok (.iaload, 1) := by decide +kernel
theorem dX5_putBack_124 : decode cX5_putBack 124 = .ok (.iastore, 1) := by decide +kernel
theorem dX5_putBack_125 : decode cX5_putBack 125 = .ok (.iinc 1 1, 3) := by decide +kernel
theorem dX5_putBack_128 : decode cX5_putBack 128 = .ok (.goto (-23), 3) := by decide +kernel
theorem dX5_putBack_131 : decode cX5_putBack 131 = .ok (.return_, 1) := by decide +kernel
theorem dX5_does_0 : decode cX5_does 0 = .ok (.iload_n 2, 1) := by decide +kernel
theorem dX5_does_1 : decode cX5_does 1 = .ok (.iconst 4, 1) := by decide +kernel
theorem dX5_does_2 : decode cX5_does 2 = .ok (.if_icmp .ge 23, 3) := by decide +kernel
theorem dX5_does_5 : decode cX5_does 5 = .ok (.aload_n 0, 1) := by decide +kernel
theorem dX5_does_6 : decode cX5_does 6 = .ok (.iload_n 2, 1) := by decide +kernel
theorem dX5_does_7 : decode cX5_does 7 = .ok (.invokevirtual 145, 3) := by decide +kernel
theorem dX5_does_10 : decode cX5_does 10 = .ok (.ifCond .ne 5, 3) := by decide +kernel
theorem dX5_does_13 : decode cX5_does 13 = .ok (.iconst 0, 1) := by decide +kernel
theorem dX5_does_14 : decode cX5_does 14 = .ok (.ireturn, 1) := by decide +kernel
theorem dX5_does_15 : decode cX5_does 15 = .ok (.aload_n 0, 1) := by decide +kernel
theorem dX5_does_16 : decode cX5_does 16 = .ok (.getfield 29, 3) := by decide +kernel
theorem dX5_does_19 : decode cX5_does 19 = .ok (.iload_n 2, 1) := by decide +kernel
theorem dX5_does_20 : decode cX5_does 20 = .ok (.iload_n 1, 1) := by decide +kernel
theorem dX5_does_21 : decode cX5_does 21 = .ok (.iastore, 1) := by decide +kernel
theorem dX5_does_22 : decode cX5_does 22 = .ok (.goto 98, 3) := by decide +kernel
theorem dX5_does_25 : decode cX5_does 25 = .ok (.iload_n 2, 1) := by decide +kernel
theorem dX5_does_26 : decode cX5_does 26 = .ok (.bipush 10, 2) := by decide +kernel
theorem dX5_does_28 : decode cX5_does 28 = .ok (.if_icmp .ge 27, 3) := by decide +kernel
theorem dX5_does_31 : decode cX5_does 31 = .ok (.aload_n 0, 1) := by decide +kernel
theorem dX5_does_32 : decode cX5_does 32 = .ok (.iload_n 2, 1) := by decide +kernel
theorem dX5_does_33 : decode cX5_does 33 = .ok (.iconst 4, 1) := by decide +kernel
theorem dX5_does_34 : decode cX5_does 34 = .ok (.isub, 1) := by decide +kernel
theorem dX5_does_35 : decode cX5_does 35 = .ok (.invokevirtual 161, 3) := by decide +kernel
theorem dX5_does_38 : decode cX5_does 38 = .ok (.ifCond .ne 5, 3) := by decide +kernel
theorem dX5_does_41 : decode cX5_does 41 = .ok (.iconst 0, 1) := by decide +kernel
theorem dX5_does_42 : decode cX5_does 42 = .ok (.ireturn, 1) := by decide +kernel
theorem dX5_does_43 : decode cX5_does 43 = .ok (.aload_n 0, 1) := by decide +kernel
theorem dX5_does_44 : decode cX5_does 44 = .ok (.getfield 23, 3) := by decide +kernel
theorem dX5_does_47 : decode cX5_does 47 = .ok (.iload_n 2, 1) := by decide +kernel
theorem dX5_does_48 : decode cX5_does 48 = .ok (.iconst 4, 1) := by decide +kernel
theorem dX5_does_49 : decode cX5_does 49 = .ok (.isub, 1) := by decide +kernel
theorem dX5_does_50 : decode cX5_does 50 = .ok (.iload_n 1, 1) := by decide +kernel
theorem dX5_does_51 : decode cX5_does 51 = .ok (.iastore, 1) := by decide +kernel
theorem dX5_does_52 : decode cX5_does 52 = .ok (.goto 68, 3) := by decide +kernel
theorem dX5_does_55 : decode cX5_does 55 = .ok (.iload_n 2, 1) := by decide +kernel
theorem dX5_does_56 : decode cX5_does 56 = .ok (.bipush 10, 2) := by decide +kernel
theorem dX5_does_58 : decode cX5_does 58 = .ok (.if_icmp .ne 21, 3) := by decide +kernel
theorem dX5_does_61 : decode cX5_does 61 = .ok (.aload_n 0, 1) := by decide +kernel
theorem dX5_does_62 : decode cX5_does 62 = .ok (.iload_n 1, 1) := by decide +kernel
theorem dX5_does_63 : decode cX5_does 63 = .ok (.invokevirtual 158, 3) := by decide +kernel
theorem dX5_does_66 : decode cX5_does 66 = .ok (.ifCond .ne 5, 3) := by decide +kernel
theorem dX5_does_69 : decode cX5_does 69 = .ok (.iconst 0, 1) := by decide +kernel
theorem dX5_does_70 : decode cX5_does 70 = .ok (.ireturn, 1) := by decide +kernel
theorem dX5_does_71 : decode cX5_does 71 = .ok (.aload_n 0, 1) := by decide +kernel
theorem dX5_does_72 : decode cX5_does 72 = .ok (.iload_n 1, 1) := by decide +kernel
theorem dX5_does_73 : decode cX5_does 73 = .ok (.invokevirtual 167, 3) := by decide +kernel
theorem dX5_does_76 : decode cX5_does 76 = .ok (.goto 44, 3) := by decide +kernel
theorem dX5_does_79 : decode cX5_does 79 = .ok (.iload_n 2, 1) := by decide +kernel
theorem dX5_does_80 : decode cX5_does 80 = .ok (.bipush 17, 2) := by decide +kernel
theorem dX5_does_82 : decode cX5_does 82 = .ok (.if_icmp .ne 12, 3) := by decide +kernel
theorem dX5_does_85 : decode cX5_does 85 = .ok (.aload_n 0, 1) := by decide +kernel
theorem dX5_does_86 : decode cX5_does 86 = .ok (.bipush (-9), 2) := by decide +kernel
theorem dX5_does_88 : decode cX5_does 88 = .ok (.putfield 19, 3) := by decide +kernel
theorem dX5_does_91 : decode cX5_does 91 = .ok (.goto 29, 3) := by decide +kernel
theorem dX5_does_94 : decode cX5_does 94 = .ok (.aload_n 0, 1) := by decide +kernel
theorem dX5_does_95 : decode cX5_does 95 = .ok (.iload_n 2, 1) := by decide +kernel
theorem dX5_does_96 : decode cX5_does 96 = .ok (.bipush 11, 2) := by decide +kernel
theorem dX5_does_98 : decode cX5_does 98 = .ok (.isub, 1) := by decide +kernel
theorem dX5_does_99 : decode cX5_does 99 = .ok (.invokevirtual 161, 3) := by decide +kernel
theorem dX5_does_102 : decode cX5_does 102 = .ok (.ifCond .ne 5, 3) := by decide +kernel
theorem dX5_does_105 : decode cX5_does 105 = .ok (.iconst 0, 1) := by decide +kernel
theorem dX5_does_106 : decode cX5_does 106 = .ok (.ireturn, 1) := by decide +kernel
theorem dX5_does_107 : decode cX5_does 107 = .ok (.aload_n 0, 1) := by decide +kernel
theorem dX5_does_108 : decode cX5_does 108 = .ok (.iload_n 2, 1) := by decide +kernel
theorem dX5_does_109 : decode cX5_does 109 = .ok (.bipush 11, 2) := by decide +kernel
theorem dX5_does_111 : decode cX5_does 111 = .ok (.isub, 1) := by decide +kernel
theorem dX5_does_112 : decode cX5_does 112 = .ok (.putfield 19, 3) := by decide +kernel
theorem dX5_does_115 : decode cX5_does 115 = .ok (.aload_n 0, 1) := by decide +kernel
theorem dX5_does_116 : decode cX5_does 116 = .ok (.iload_n 1, 1) := by decide +kernel
theorem dX5_does_117 : decode cX5_does 117 = .ok (.putfield 113, 3) := by decide +kernel
theorem dX5_does_120 : decode cX5_does 120 = .ok (.iconst 1, 1) := by decide +kernel
theorem dX5_does_121 : decode cX5_does 121 = .ok (.ireturn, 1) := by decide +kernel
theorem dX5_isPair_0 : decode cX5_isPair 0 = .ok (.iload_n 1, 1) := by decide +kernel
theorem dX5_isPair_1 : decode cX5_isPair 1 = .ok (.iconst 0, 1) := by decide +kernel
theorem dX5_isPair_2 : decode cX5_isPair 2 = .ok (.bipush 17, 2) := by decide +kernel
theorem dX5_isPair_4 : decode cX5_isPair 4 = .ok (.invokestatic 67, 3) := by decide +kernel
theorem dX5_isPair_7 : decode cX5_isPair 7 = .ok (.ifCond .eq 37, 3) := by decide +kernel
theorem dX5_isPair_10 : decode cX5_isPair 10 = .ok (.iload_n 0, 1) := by decide +kernel
theorem dX5_isPair_11 : decode cX5_isPair 11 = .ok (.iconst 0, 1) := by decide +kernel
theorem dX5_isPair_12 : decode cX5_isPair 12 = .ok (.iload_n 1, 1) := by decide +kernel
theorem dX5_isPair_13 : decode cX5_isPair 13 = .ok (.bipush 10, 2) := by decide +kernel
theorem dX5_isPair_15 : decode cX5_isPair 15 = .ok (.if_icmp .ne 7, 3) := by decide +kernel
theorem dX5_isPair_18 : decode cX5_isPair 18 = .ok (.iconst 5, 1) := by decide +kernel
theorem dX5_isPair_19 : decode cX5_isPair 19 = .ok (.goto 15, 3) := by decide +kernel
theorem dX5_isPair_22 : decode cX5_isPair 22 = .ok (.iload_n 1, 1) := by decide +kernel
theorem dX5_isPair_23 : decode cX5_isPair 23 = .ok (.bipush 17, 2) := by decide +kernel
theorem dX5_isPair_25 : decode cX5_isPair 25 = .ok (.if_icmp .ne 7, 3) := by decide +kernel
theorem dX5_isPair_28 : decode cX5_isPair 28 = .ok (.iconst 0, 1) := by decide +kernel
theorem dX5_isPair_29 : decode cX5_isPair 29 = .ok (.goto 5, 3) := by decide +kernel
theorem dX5_isPair_32 : decode cX5_isPair 32 = .ok (.bipush 9, 2) := by decide +kernel
theorem dX5_isPair_34 : decode cX5_isPair 34 = .ok (.invokestatic 67, 3) := by decide +kernel
theorem dX5_isPair_37 : decode cX5_isPair 37 = .ok (.ifCond .eq 7, 3) := by decide +kernel
theorem dX5_isPair_40 : decode cX5_isPair 40 = .ok (.iconst 1, 1) := by decide +kernel
theorem dX5_isPair_41 : decode cX5_isPair 41 = .ok (.goto 4, 3) := by decide +kernel
theorem dX5_isPair_44 : decode cX5_isPair 44 = .ok (.iconst 0, 1) := by decide +kernel
theorem dX5_isPair_45 : decode cX5_isPair 45 = .ok (.ireturn, 1) := by decide +kernel
theorem dX5_goCase_0 : decode cX5_goCase 0 = .ok (.iconst 0, 1) := by decide +kernel
theorem dX5_goCase_1 : decode cX5_goCase 1 = .ok (.istore_n 3, 1) := by decide +kernel
theorem dX5_goCase_2 : decode cX5_goCase 2 = .ok (.iload_n 3, 1) := by decide +kernel
theorem dX5_goCase_3 : decode cX5_goCase 3 = .ok (.iload_n 2, 1) := by decide +kernel
theorem dX5_goCase_4 : decode cX5_goCase 4 = .ok (.if_icmp .ge 40, 3) := by decide +kernel
theorem dX5_goCase_7 : decode cX5_goCase 7 = .ok (.aload_n 0, 1) := by decide +kernel
theorem dX5_goCase_8 : decode cX5_goCase 8 = .ok (.aload_n 0, 1) := by decide +kernel
theorem dX5_goCase_9 : decode cX5_goCase 9 = .ok (.getfield 16, 3) := by decide +kernel
theorem dX5_goCase_12 : decode cX5_goCase 12 = .ok (.iload_n 1, 1) := by decide +kernel
theorem dX5_goCase_13 : decode cX5_goCase 13 = .ok (.iconst 2, 1) := by decide +kernel
theorem dX5_goCase_14 : decode cX5_goCase 14 = .ok (.iload_n 3, 1) := by decide +kernel
theorem dX5_goCase_15 : decode cX5_goCase 15 = .ok (.imul, 1) := by decide +kernel
theorem dX5_goCase_16 : decode cX5_goCase 16 = .ok (.iadd, 1) := by decide +kernel
theorem dX5_goCase_17 : decode cX5_goCase 17 = .ok (.iaload, 1) := by decide +kernel
theorem dX5_goCase_18 : decode cX5_goCase 18 = .ok (.aload_n 0, 1) := by decide +kernel
theorem dX5_goCase_19 : decode cX5_goCase 19 = .ok (.getfield 16, 3) := by decide +kernel
theorem dX5_goCase_22 : decode cX5_goCase 22 = .ok (.iload_n 1, 1) := by decide +kernel
theorem dX5_goCase_23 : decode cX5_goCase 23 = .ok (.iconst 2, 1) := by decide +kernel
theorem dX5_goCase_24 : decode cX5_goCase 24 = .ok (.iload_n 3, 1) := by decide +kernel
theorem dX5_goCase_25 : decode cX5_goCase 25 = .ok (.imul, 1) := by decide +kernel
theorem dX5_goCase_26 : decode cX5_goCase 26 = .ok (.iadd, 1) := by decide +kernel
theorem dX5_goCase_27 : decode cX5_goCase 27 = .ok (.iconst 1, 1) := by decide +kernel
theorem dX5_goCase_28 : decode cX5_goCase 28 = .ok (.iadd, 1) := by decide +kernel
theorem dX5_goCase_29 : decode cX5_goCase 29 = .ok (.iaload, 1) := by decide +kernel
theorem dX5_goCase_30 : decode cX5_goCase 30 = .ok (.invokevirtual 174, 3) := by decide +kernel
theorem dX5_goCase_33 : decode cX5_goCase 33 = .ok (.ifCond .ne 5, 3) := by decide +kernel
theorem dX5_goCase_36 : decode cX5_goCase 36 = .ok (.iload_n 3, 1) := by decide +kernel
theorem dX5_goCase_37 : decode cX5_goCase 37 = .ok (.ireturn, 1) := by decide +kernel
theorem dX5_goCase_38 : decode cX5_goCase 38 = .ok (.iinc 3 1, 3) := by decide +kernel
theorem dX5_goCase_41 : decode cX5_goCase 41 = .ok (.goto (-39), 3) := by decide +kernel
theorem dX5_goCase_44 : decode cX5_goCase 44 = .ok (.bipush (-9), 2) := by decide +kernel
theorem dX5_goCase_46 : decode cX5_goCase 46 = .ok (.ireturn, 1) := by decide +kernel
theorem dX5_trial_0 : decode cX5_trial 0 = .ok (.aload_n 0, 1) := by decide +kernel
theorem dX5_trial_1 : decode cX5_trial 1 = .ok (.iconst 0, 1) := by decide +kernel
theorem dX5_trial_2 : decode cX5_trial 2 = .ok (.putfield 62, 3) := by decide +kernel
theorem dX5_trial_5 : decode cX5_trial 5 = .ok (.iload_n 1, 1) := by decide +kernel
theorem dX5_trial_6 : decode cX5_trial 6 = .ok (.invokestatic 83, 3) := by decide +kernel
theorem dX5_trial_9 : decode cX5_trial 9 = .ok (.ifCond .ne 5, 3) := by decide +kernel
theorem dX5_trial_12 : decode cX5_trial 12 = .ok (.iconst (-1), 1) := by decide +kernel
theorem dX5_trial_13 : decode cX5_trial 13 = .ok (.ireturn, 1) := by decide +kernel
theorem dX5_trial_14 : decode cX5_trial 14 = .ok (.iload_n 2, 1) := by decide +kernel
theorem dX5_trial_15 : decode cX5_trial 15 = .ok (.invokestatic 87, 3) := by decide +kernel
theorem dX5_trial_18 : decode cX5_trial 18 = .ok (.ifCond .eq 36, 3) := by decide +kernel
theorem dX5_trial_21 : decode cX5_trial 21 = .ok (.iload 4, 2) := by decide +kernel
theorem dX5_trial_23 : decode cX5_trial 23 = .ok (.iconst 0, 1) := by decide +kernel
theorem dX5_trial_24 : decode cX5_trial 24 = .ok (.bipush 20, 2) := by decide +kernel
theorem dX5_trial_26 : decode cX5_trial 26 = .ok (.invokestatic 67, 3) := by decide +kernel
theorem dX5_trial_29 : decode cX5_trial 29 = .ok (.ifCond .eq 25, 3) := by decide +kernel
theorem dX5_trial_32 : decode cX5_trial 32 = .ok (.iload 5, 2) := by decide +kernel
theorem dX5_trial_34 : decode cX5_trial 34 = .ok (.iconst 0, 1) := by decide +kernel
theorem dX5_trial_35 : decode cX5_trial 35 = .ok (.iconst 4, 1) := by decide +kernel
theorem dX5_trial_36 : decode cX5_trial 36 = .ok (.invokestatic 67, 3) := by decide +kernel
theorem dX5_trial_39 : decode cX5_trial 39 = .ok (.ifCond .ne 18, 3) := by decide +kernel
theorem dX5_trial_42 : decode cX5_trial 42 = .ok (.iload 5, 2) := by decide +kernel
theorem dX5_trial_44 : decode cX5_trial 44 = .ok (.bipush 10, 2) := by decide +kernel
theorem dX5_trial_46 : decode cX5_trial 46 = .ok (.bipush 13, 2) := by decide +kernel
theorem dX5_trial_48 : decode cX5_trial 48 = .ok (.invokestatic 67, 3) := by decide +kernel
theorem dX5_trial_51 : decode cX5_trial 51 = .ok (.ifCond .ne 6, 3) := by decide +kernel
theorem dX5_trial_54 : decode cX5_trial 54 = .ok (.bipush (-2), 2) := by decide +kernel
theorem dX5_trial_56 : decode cX5_trial 56 = .ok (.ireturn, 1) := by decide +kernel
theorem dX5_trial_57 : decode cX5_trial 57 = .ok (.aload_n 0, 1) := by decide +kernel
theorem dX5_trial_58 : decode cX5_trial 58 = .ok (.iload_n 1, 1) := by decide +kernel
theorem dX5_trial_59 : decode cX5_trial 59 = .ok (.iload_n 2, 1) := by decide +kernel
theorem dX5_trial_60 : decode cX5_trial 60 = .ok (.iload_n 3, 1) := by decide +kernel
theorem dX5_trial_61 : decode cX5_trial 61 = .ok (.iconst 2, 1) := by decide +kernel
theorem dX5_trial_62 : decode cX5_trial 62 = .ok (.iload 4, 2) := by decide +kernel
theorem dX5_trial_64 : decode cX5_trial 64 = .ok (.imul, 1) := by decide +kernel
theorem dX5_trial_65 : decode cX5_trial 65 = .ok (.invokevirtual 90, 3) := by decide +kernel
theorem dX5_trial_68 : decode cX5_trial 68 = .ok (.istore 6, 2) := by decide +kernel
theorem dX5_trial_70 : decode cX5_trial 70 = .ok (.iload 6, 2) := by decide +kernel
theorem dX5_trial_72 : decode cX5_trial 72 = .ok (.ifCond .eq 10, 3) := by decide +kernel
theorem dX5_trial_75 : decode cX5_trial 75 = .ok (.aload_n 0, 1) := by decide +kernel
theorem dX5_trial_76 : decode cX5_trial 76 = .ok (.iload 6, 2) := by decide +kernel
theorem dX5_trial_78 : decode cX5_trial 78 = .ok (.invokevirtual 94, 3) := by decide +kernel
theorem dX5_trial_81 : decode cX5_trial 81 = .ok (.ireturn, 1) := by decide +kernel
theorem dX5_trial_82 : decode cX5_trial 82 = .ok (.aload_n 0, 1) := by decide +kernel
theorem dX5_trial_83 : decode cX5_trial 83 = .ok (.getfield 71, 3) := by decide +kernel
theorem dX5_trial_86 : decode cX5_trial 86 = .ok (.ifCond .ne 6, 3) := by decide +kernel
theorem dX5_trial_89 : decode cX5_trial 89 = .ok (.bipush (-3), 2) := by decide +kernel
theorem dX5_trial_91 : decode cX5_trial 91 = .ok (.ireturn, 1) := by decide +kernel
theorem dX5_trial_92 : decode cX5_trial 92 = .ok (.bipush 60, 2) := by decide +kernel
theorem dX5_trial_94 : decode cX5_trial 94 = .ok (.iload_n 1, 1) := by decide +kernel
theorem dX5_trial_95 : decode cX5_trial 95 = .ok (.imul, 1) := by decide +kernel
theorem dX5_trial_96 : decode cX5_trial 96 = .ok (.iload_n 3, 1) := by decide +kernel
theorem dX5_trial_97 : decode cX5_trial 97 = .ok (.iadd, 1) := by decide +kernel
theorem dX5_trial_98 : decode cX5_trial 98 = .ok (.istore 7, 2) := by decide +kernel
theorem dX5_trial_100 : decode cX5_trial 100 = .ok (.iconst 0, 1) := by decide +kernel
theorem dX5_trial_101 : decode cX5_trial 101 = .ok (.istore 8, 2) := by decide +kernel
theorem dX5_trial_103 : decode cX5_trial 103 = .ok (.iload 8, 2) := by decide +kernel
theorem dX5_trial_105 : decode cX5_trial 105 = .ok (.iload 4, 2) := by decide +kernel
theorem dX5_trial_107 : decode cX5_trial 107 = .ok (.if_icmp .ge 44, 3) := by decide +kernel
theorem dX5_trial_110 : decode cX5_trial 110 = .ok (.aload_n 0, 1) := by decide +kernel
theorem dX5_trial_111 : decode cX5_trial 111 = .ok (.getfield 16, 3) := by decide +kernel
theorem dX5_trial_114 : decode cX5_trial 114 = .ok (.iload 7, 2) := by decide +kernel
theorem dX5_trial_116 : decode cX5_trial 116 = .ok (.iconst 2, 1) := by decide +kernel
theorem dX5_trial_117 : decode cX5_trial 117 = .ok (.iload 8, 2) := by decide +kernel
theorem dX5_trial_119 : decode cX5_trial 119 = .ok (.imul, 1) := by decide +kernel
theorem dX5_trial_120 : decode cX5_trial 120 = .ok (.iadd, 1) := by decide +kernel
theorem dX5_trial_121 : decode cX5_trial 121 = .ok (.iaload, 1) := by decide +kernel
theorem dX5_trial_122 : decode cX5_trial 122 = .ok (.aload_n 0, 1) := by decide +kernel
theorem dX5_trial_123 : decode cX5_trial 123 = .ok (.getfield 16, 3) := by decide +kernel
theorem dX5_trial_126 : decode cX5_trial 126 = .ok (.iload 7, 2) := by decide +kernel
theorem dX5_trial_128 : decode cX5_trial 128 = .ok (.iconst 2, 1) := by decide +kernel
theorem dX5_trial_129 : decode cX5_trial 129 = .ok (.iload 8, 2) := by decide +kernel
theorem dX5_trial_131 : decode cX5_trial 131 = .ok (.imul, 1) := by decide +kernel
theorem dX5_trial_132 : decode cX5_trial 132 = .ok (.iadd, 1) := by decide +kernel
theorem dX5_trial_133 : decode cX5_trial 133 = .ok (.iconst 1, 1) := by decide +kernel
theorem dX5_trial_134 : decode cX5_trial 134 = .ok (.iadd, 1) := by decide +kernel
theorem dX5_trial_135 : decode cX5_trial 135 = .ok (.iaload, 1) := by decide +kernel
theorem dX5_trial_136 : decode cX5_trial 136 = .ok (.invokestatic 177, 3) := by decide +kernel
theorem dX5_trial_139 : decode cX5_trial 139 = .ok (.ifCond .ne 6, 3) := by decide +kernel
theorem dX5_trial_142 : decode cX5_trial 142 = .ok (.bipush (-2), 2) := by decide +kernel
theorem dX5_trial_144 : decode cX5_trial 144 = .ok (.ireturn, 1) := by decide +kernel
theorem dX5_trial_145 : decode cX5_trial 145 = .ok (.iinc 8 1, 3) := by decide +kernel
theorem dX5_trial_148 : decode cX5_trial 148 = .ok (.goto (-45), 3) := by decide +kernel
theorem dX5_trial_151 : decode cX5_trial 151 = .ok (.aload_n 0, 1) := by decide +kernel
theorem dX5_trial_152 : decode cX5_trial 152 = .ok (.invokevirtual 180, 3) := by decide +kernel
theorem dX5_trial_155 : decode cX5_trial 155 = .ok (.aload_n 0, 1) := by decide +kernel
theorem dX5_trial_156 : decode cX5_trial 156 = .ok (.iload 7, 2) := by decide +kernel
theorem dX5_trial_158 : decode cX5_trial 158 = .ok (.iload 4, 2) := by decide +kernel
theorem dX5_trial_160 : decode cX5_trial 160 = .ok (.invokevirtual 183, 3) := by decide +kernel
theorem dX5_trial_163 : decode cX5_trial 163 = .ok (.istore 8, 2) := by decide +kernel
theorem dX5_trial_165 : decode cX5_trial 165 = .ok (.aload_n 0, 1) := by decide +kernel
theorem dX5_trial_166 : decode cX5_trial 166 = .ok (.iload 5, 2) := by decide +kernel
theorem dX5_trial_168 : decode cX5_trial 168 = .ok (.invokevirtual 186, 3) := by decide +kernel
theorem dX5_trial_171 : decode cX5_trial 171 = .ok (.istore 9, 2) := by decide +kernel
theorem dX5_trial_173 : decode cX5_trial 173 = .ok (.aload_n 0, 1) := by decide +kernel
theorem dX5_trial_174 : decode cX5_trial 174 = .ok (.invokevirtual 189, 3) := by decide +kernel
theorem dX5_trial_177 : decode cX5_trial 177 = .ok (.iload 5, 2) := by decide +kernel
theorem dX5_trial_179 : decode cX5_trial 179 = .ok (.iconst 1, 1) := by decide +kernel
theorem dX5_trial_180 : decode cX5_trial 180 = .ok (.if_icmp .ne 8, 3) := by decide +kernel
theorem dX5_trial_183 : decode cX5_trial 183 = .ok (.iload 8, 2) := by decide +kernel
theorem dX5_trial_185 : decode cX5_trial 185 = .ok (.goto 20, 3) := by decide +kernel
theorem dX5_trial_188 : decode cX5_trial 188 = .ok (.iload 8, 2) := by decide +kernel
theorem dX5_trial_190 : decode cX5_trial 190 = .ok (.bipush (-9), 2) := by decide +kernel
theorem dX5_trial_192 : decode cX5_trial 192 = .ok (.if_icmp .ne 8, 3) := by decide +kernel
theorem dX5_trial_195 : decode cX5_trial 195 = .ok (.iload 9, 2) := by decide +kernel
theorem dX5_trial_197 : decode cX5_trial 197 = .ok (.goto 8, 3) := by decide +kernel
theorem dX5_trial_200 : decode cX5_trial 200 = .ok (.bipush (-100), 2) := by decide +kernel
theorem dX5_trial_202 : decode cX5_trial 202 = .ok (.iload 8, 2) := by decide +kernel
theorem dX5_trial_204 : decode cX5_trial 204 = .ok (.isub, 1) := by decide +kernel
theorem dX5_trial_205 : decode cX5_trial 205 = .ok (.ireturn, 1) := by decide +kernel
theorem dX5_tellCase_0 : decode cX5_tellCase 0 = .ok (.iload_n 1, 1) := by decide +kernel
theorem dX5_tellCase_1 : decode cX5_tellCase 1 = .ok (.bipush 10, 2) := by decide +kernel
theorem dX5_tellCase_3 : decode cX5_tellCase 3 = .ok (.if_icmp .lt 28, 3) := by decide +kernel
theorem dX5_tellCase_6 : decode cX5_tellCase 6 = .ok (.aload_n 0, 1) := by decide +kernel
theorem dX5_tellCase_7 : decode cX5_tellCase 7 = .ok (.iload_n 1, 1) := by decide +kernel
theorem dX5_tellCase_8 : decode cX5_tellCase 8 = .ok (.bipush 10, 2) := by decide +kernel
theorem dX5_tellCase_10 : decode cX5_tellCase 10 = .ok (.isub, 1) := by decide +kernel
theorem dX5_tellCase_11 : decode cX5_tellCase 11 = .ok (.invokevirtual 145, 3) := by decide +kernel
theorem dX5_tellCase_14 : decode cX5_tellCase 14 = .ok (.ifCond .eq 14, 3) := by decide +kernel
theorem dX5_tellCase_17 : decode cX5_tellCase 17 = .ok (.aload_n 0, 1) := by decide +kernel
theorem dX5_tellCase_18 : decode cX5_tellCase 18 = .ok (.iload_n 1, 1) := by decide +kernel
theorem dX5_tellCase_19 : decode cX5_tellCase 19 = .ok (.bipush 10, 2) := by decide +kernel
theorem dX5_tellCase_21 : decode cX5_tellCase 21 = .ok (.isub, 1) := by decide +kernel
theorem dX5_tellCase_22 : decode cX5_tellCase 22 = .ok (.invokevirtual 148, 3) := by decide +kernel
theorem dX5_tellCase_25 : decode cX5_tellCase 25 = .ok (.goto 5, 3) := by decide +kernel
theorem dX5_tellCase_28 : decode cX5_tellCase 28 = .ok (.bipush (-9), 2) := by decide +kernel
theorem dX5_tellCase_30 : decode cX5_tellCase 30 = .ok (.ireturn, 1) := by decide +kernel
theorem dX5_tellCase_31 : decode cX5_tellCase 31 = .ok (.iload_n 1, 1) := by decide +kernel
theorem dX5_tellCase_32 : decode cX5_tellCase 32 = .ok (.tableswitch 73 0 3 #[32, 73, 37, 42], 32) := by decide +kernel
theorem dX5_tellCase_64 : decode cX5_tellCase 64 = .ok (.aload_n 0, 1) := by decide +kernel
theorem dX5_tellCase_65 : decode cX5_tellCase 65 = .ok (.invokevirtual 154, 3) := by decide +kernel
theorem dX5_tellCase_68 : decode cX5_tellCase 68 = .ok (.ireturn, 1) := by decide +kernel
theorem dX5_tellCase_69 : decode cX5_tellCase 69 = .ok (.aload_n 0, 1) := by decide +kernel
theorem dX5_tellCase_70 : decode cX5_tellCase 70 = .ok (.getfield 77, 3) := by decide +kernel
theorem dX5_tellCase_73 : decode cX5_tellCase 73 = .ok (.ireturn, 1) := by decide +kernel
theorem dX5_tellCase_74 : decode cX5_tellCase 74 = .ok (.iconst 0, 1) := by decide +kernel
theorem dX5_tellCase_75 : decode cX5_tellCase 75 = .ok (.istore_n 2, 1) := by decide +kernel
theorem dX5_tellCase_76 : decode cX5_tellCase 76 = .ok (.iconst 0, 1) := by decide +kernel
theorem dX5_tellCase_77 : decode cX5_tellCase 77 = .ok (.istore_n 3, 1) := by decide +kernel
theorem dX5_tellCase_78 : decode cX5_tellCase 78 = .ok (.iload_n 3, 1) := by decide +kernel
theorem dX5_tellCase_79 : decode cX5_tellCase 79 = .ok (.aload_n 0, 1) := by decide +kernel
theorem dX5_tellCase_80 : decode cX5_tellCase 80 = .ok (.getfield 71, 3) := by decide +kernel
theorem dX5_tellCase_83 : decode cX5_tellCase 83 = .ok (.if_icmp .ge 20, 3) := by decide +kernel
theorem dX5_tellCase_86 : decode cX5_tellCase 86 = .ok (.iload_n 2, 1) := by decide +kernel
theorem dX5_tellCase_87 : decode cX5_tellCase 87 = .ok (.aload_n 0, 1) := by decide +kernel
theorem dX5_tellCase_88 : decode cX5_tellCase 88 = .ok (.iload_n 3, 1) := by decide +kernel
theorem dX5_tellCase_89 : decode cX5_tellCase 89 = .ok (.invokevirtual 164, 3) := by decide +kernel
theorem dX5_tellCase_92 : decode cX5_tellCase 92 = .ok (.invokestatic 171, 3) := by decide +kernel
theorem dX5_tellCase_95 : decode cX5_tellCase 95 = .ok (.iadd, 1) := by decide +kernel
theorem dX5_tellCase_96 : decode cX5_tellCase 96 = .ok (.istore_n 2, 1) := by decide +kernel
theorem dX5_tellCase_97 : decode cX5_tellCase 97 = .ok (.iinc 3 1, 3) := by decide +kernel
theorem dX5_tellCase_100 : decode cX5_tellCase 100 = .ok (.goto (-22), 3) := by decide +kernel
theorem dX5_tellCase_103 : decode cX5_tellCase 103 = .ok (.iload_n 2, 1) := by decide +kernel
theorem dX5_tellCase_104 : decode cX5_tellCase 104 = .ok (.ireturn, 1) := by decide +kernel
theorem dX5_tellCase_105 : decode cX5_tellCase 105 = .ok (.aload_n 0, 1) := by decide +kernel
theorem dX5_tellCase_106 : decode cX5_tellCase 106 = .ok (.invokevirtual 192, 3) := by decide +kernel
theorem dX5_tellCase_109 : decode cX5_tellCase 109 = .ok (.invokestatic 171, 3) := by decide +kernel
theorem dX5_tellCase_112 : decode cX5_tellCase 112 = .ok (.ireturn, 1) := by decide +kernel
theorem dX5_boundBy_0 : decode cX5_boundBy 0 = .ok (.iconst 0, 1) := by decide +kernel
theorem dX5_boundBy_1 : decode cX5_boundBy 1 = .ok (.istore_n 3, 1) := by decide +kernel
theorem dX5_boundBy_2 : decode cX5_boundBy 2 = .ok (.iconst 0, 1) := by decide +kernel
theorem dX5_boundBy_3 : decode cX5_boundBy 3 = .ok (.istore 4, 2) := by decide +kernel
theorem dX5_boundBy_5 : decode cX5_boundBy 5 = .ok (.iload 4, 2) := by decide +kernel
theorem dX5_boundBy_7 : decode cX5_boundBy 7 = .ok (.aload_n 0, 1) := by decide +kernel
theorem dX5_boundBy_8 : decode cX5_boundBy 8 = .ok (.getfield 77, 3) := by decide +kernel
theorem dX5_boundBy_11 : decode cX5_boundBy 11 = .ok (.if_icmp .ge 48, 3) := by decide +kernel
theorem dX5_boundBy_14 : decode cX5_boundBy 14 = .ok (.iload_n 3, 1) := by decide +kernel
theorem dX5_boundBy_15 : decode cX5_boundBy 15 = .ok (.iload_n 2, 1) := by decide +kernel
theorem dX5_boundBy_16 : decode cX5_boundBy 16 = .ok (.iload 4, 2) := by decide +kernel
theorem dX5_boundBy_18 : decode cX5_boundBy 18 = .ok (.invokestatic 195, 3) := by decide +kernel
theorem dX5_boundBy_21 : decode cX5_boundBy 21 = .ok (.ifCond .eq 29, 3) := by decide +kernel
theorem dX5_boundBy_24 : decode cX5_boundBy 24 = .ok (.iload_n 1, 1) := by decide +kernel
theorem dX5_boundBy_25 : decode cX5_boundBy 25 = .ok (.aload_n 0, 1) := by decide +kernel
theorem dX5_boundBy_26 : decode cX5_boundBy 26 = .ok (.getfield 32, 3) := by decide +kernel
theorem dX5_boundBy_29 : decode cX5_boundBy 29 = .ok (.iload 4, 2) := by decide +kernel
theorem dX5_boundBy_31 : decode cX5_boundBy 31 = .ok (.iaload, 1) := by decide +kernel
theorem dX5_boundBy_32 : decode cX5_boundBy 32 = .ok (.invokestatic 195, 3) := by decide +kernel
theorem dX5_boundBy_35 : decode cX5_boundBy 35 = .ok (.ifCond .eq 15, 3) := by decide +kernel
theorem dX5_boundBy_38 : decode cX5_boundBy 38 = .ok (.iconst 1, 1) := by decide +kernel
theorem dX5_boundBy_39 : decode cX5_boundBy 39 = .ok (.aload_n 0, 1) := by decide +kernel
theorem dX5_boundBy_40 : decode cX5_boundBy 40 = .ok (.getfield 35, 3) := by decide +kernel
theorem dX5_boundBy_43 : decode cX5_boundBy 43 = .ok (.iload 4, 2) := by decide +kernel
theorem dX5_boundBy_45 : decode cX5_boundBy 45 = .ok (.iaload, 1) := by decide +kernel
theorem dX5_boundBy_46 : decode cX5_boundBy 46 = .ok (.ishl, 1) := by decide +kernel
theorem dX5_boundBy_47 : decode cX5_boundBy 47 = .ok (.goto 4, 3) := by decide +kernel
theorem dX5_boundBy_50 : decode cX5_boundBy 50 = .ok (.iconst 0, 1) := by decide +kernel
theorem dX5_boundBy_51 : decode cX5_boundBy 51 = .ok (.ior, 1) := by decide +kernel
theorem dX5_boundBy_52 : decode cX5_boundBy 52 = .ok (.istore_n 3, 1) := by decide +kernel
theorem dX5_boundBy_53 : decode cX5_boundBy 53 = .ok (.iinc 4 1, 3) := by decide +kernel
theorem dX5_boundBy_56 : decode cX5_boundBy 56 = .ok (.goto (-51), 3) := by decide +kernel
theorem dX5_boundBy_59 : decode cX5_boundBy 59 = .ok (.iload_n 3, 1) := by decide +kernel
theorem dX5_boundBy_60 : decode cX5_boundBy 60 = .ok (.ireturn, 1) := by decide +kernel
theorem dX5_boundOf_0 : decode cX5_boundOf 0 = .ok (.iconst 0, 1) := by decide +kernel
theorem dX5_boundOf_1 : decode cX5_boundOf 1 = .ok (.istore 4, 2) := by decide +kernel
theorem dX5_boundOf_3 : decode cX5_boundOf 3 = .ok (.iconst 1, 1) := by decide +kernel
theorem dX5_boundOf_4 : decode cX5_boundOf 4 = .ok (.iload_n 1, 1) := by decide +kernel
theorem dX5_boundOf_5 : decode cX5_boundOf 5 = .ok (.ishl, 1) := by decide +kernel
theorem dX5_boundOf_6 : decode cX5_boundOf 6 = .ok (.istore 5, 2) := by decide +kernel
theorem dX5_boundOf_8 : decode cX5_boundOf 8 = .ok (.iconst 1, 1) := by decide +kernel
theorem dX5_boundOf_9 : decode cX5_boundOf 9 = .ok (.istore 6, 2) := by decide +kernel
theorem dX5_boundOf_11 : decode cX5_boundOf 11 = .ok (.iload 6, 2) := by decide +kernel
theorem dX5_boundOf_13 : decode cX5_boundOf 13 = .ok (.iconst 4, 1) := by decide +kernel
theorem dX5_boundOf_14 : decode cX5_boundOf 14 = .ok (.if_icmp .gt 37, 3) := by decide +kernel
theorem dX5_boundOf_17 : decode cX5_boundOf 17 = .ok (.aload_n 0, 1) := by decide +kernel
theorem dX5_boundOf_18 : decode cX5_boundOf 18 = .ok (.iload 5, 2) := by decide +kernel
theorem dX5_boundOf_20 : decode cX5_boundOf 20 = .ok (.iload_n 3, 1) := by decide +kernel
theorem dX5_boundOf_21 : decode cX5_boundOf 21 = .ok (.invokevirtual 198, 3) := by decide +kernel
theorem dX5_boundOf_24 : decode cX5_boundOf 24 = .ok (.istore 5, 2) := by decide +kernel
theorem dX5_boundOf_26 : decode cX5_boundOf 26 = .ok (.iload 4, 2) := by decide +kernel
theorem dX5_boundOf_28 : decode cX5_boundOf 28 = .ok (.iload 5, 2) := by decide +kernel
theorem dX5_boundOf_30 : decode cX5_boundOf 30 = .ok (.ior, 1) := by decide +kernel
theorem dX5_boundOf_31 : decode cX5_boundOf 31 = .ok (.istore 4, 2) := by decide +kernel
theorem dX5_boundOf_33 : decode cX5_boundOf 33 = .ok (.iload 4, 2) := by decide +kernel
theorem dX5_boundOf_35 : decode cX5_boundOf 35 = .ok (.iload_n 2, 1) := by decide +kernel
theorem dX5_boundOf_36 : decode cX5_boundOf 36 = .ok (.invokestatic 195, 3) := by decide +kernel
theorem dX5_boundOf_39 : decode cX5_boundOf 39 = .ok (.ifCond .eq 6, 3) := by decide +kernel
theorem dX5_boundOf_42 : decode cX5_boundOf 42 = .ok (.iload 6, 2) := by decide +kernel
theorem dX5_boundOf_44 : decode cX5_boundOf 44 = .ok (.ireturn, 1) := by decide +kernel
theorem dX5_boundOf_45 : decode cX5_boundOf 45 = .ok (.iinc 6 1, 3) := by decide +kernel
theorem dX5_boundOf_48 : decode cX5_boundOf 48 = .ok (.goto (-37), 3) := by decide +kernel
