theorem dX8_adds_27 : decode cX8_adds 27 = .ok (.iconst 3, 1) := by decide +kernel
theorem dX8_adds_28 : decode cX8_adds 28 = .ok (.iload_n 3, 1) := by decide +kernel
theorem dX8_adds_29 : decode cX8_adds 29 = .ok (.imul, 1) := by decide +kernel
theorem dX8_adds_30 : decode cX8_adds 30 = .ok (.iload 4, 2) := by decide +kernel
theorem dX8_adds_32 : decode cX8_adds 32 = .ok (.iadd, 1) := by decide +kernel
theorem dX8_adds_33 : decode cX8_adds 33 = .ok (.dup2, 1) := by decide +kernel
theorem dX8_adds_34 : decode cX8_adds 34 = .ok (.laload, 1) := by decide +kernel
theorem dX8_adds_35 : decode cX8_adds 35 = .ok (.aload_n 0, 1) := by decide +kernel
theorem dX8_adds_36 : decode cX8_adds 36 = .ok (.iload_n 1, 1) := by decide +kernel
theorem dX8_adds_37 : decode cX8_adds 37 = .ok (.iload_n 3, 1) := by decide +kernel
theorem dX8_adds_38 : decode cX8_adds 38 = .ok (.iload_n 2, 1) := by decide +kernel
theorem dX8_adds_39 : decode cX8_adds 39 = .ok (.invokevirtual 89, 3) := by decide +kernel
theorem dX8_adds_42 : decode cX8_adds 42 = .ok (.i2l, 1) := by decide +kernel
theorem dX8_adds_43 : decode cX8_adds 43 = .ok (.aload_n 0, 1) := by decide +kernel
theorem dX8_adds_44 : decode cX8_adds 44 = .ok (.iload_n 1, 1) := by decide +kernel
theorem dX8_adds_45 : decode cX8_adds 45 = .ok (.iload 4, 2) := by decide +kernel
theorem dX8_adds_47 : decode cX8_adds 47 = .ok (.iload_n 2, 1) := by decide +kernel
theorem dX8_adds_48 : decode cX8_adds 48 = .ok (.invokevirtual 89, 3) := by decide +kernel
theorem dX8_adds_51 : decode cX8_adds 51 = .ok (.i2l, 1) := by decide +kernel
theorem dX8_adds_52 : decode cX8_adds 52 = .ok (.lmul, 1) := by decide +kernel
theorem dX8_adds_53 : decode cX8_adds 53 = .ok (.ladd, 1) := by decide +kernel
theorem dX8_adds_54 : decode cX8_adds 54 = .ok (.lastore, 1) := by decide +kernel
theorem dX8_adds_55 : decode cX8_adds 55 = .ok (.iinc 4 1, 3) := by decide +kernel
theorem dX8_adds_58 : decode cX8_adds 58 = .ok (.goto (-41), 3) := by decide +kernel
theorem dX8_adds_61 : decode cX8_adds 61 = .ok (.iinc 3 1, 3) := by decide +kernel
theorem dX8_adds_64 : decode cX8_adds 64 = .ok (.goto (-55), 3) := by decide +kernel
theorem dX8_adds_67 : decode cX8_adds 67 = .ok (.iinc 2 1, 3) := by decide +kernel
theorem dX8_adds_70 : decode cX8_adds 70 = .ok (.goto (-68), 3) := by decide +kernel
theorem dX8_adds_73 : decode cX8_adds 73 = .ok (.return_, 1) := by decide +kernel
theorem dX8_findTable_0 : decode cX8_findTable 0 = .ok (.aload_n 0, 1) := by decide +kernel
theorem dX8_findTable_1 : decode cX8_findTable 1 = .ok (.invokevirtual 115, 3) := by decide +kernel
theorem dX8_findTable_4 : decode cX8_findTable 4 = .ok (.aload_n 0, 1) := by decide +kernel
theorem dX8_findTable_5 : decode cX8_findTable 5 = .ok (.invokevirtual 118, 3) := by decide +kernel
theorem dX8_findTable_8 : decode cX8_findTable 8 = .ok (.iconst 0, 1) := by decide +kernel
theorem dX8_findTable_9 : decode cX8_findTable 9 = .ok (.istore_n 1, 1) := by decide +kernel
theorem dX8_findTable_10 : decode cX8_findTable 10 = .ok (.iload_n 1, 1) := by decide +kernel
theorem dX8_findTable_11 : decode cX8_findTable 11 = .ok (.aload_n 0, 1) := by decide +kernel
theorem dX8_findTable_12 : decode cX8_findTable 12 = .ok (.getfield 112, 3) := by decide +kernel
theorem dX8_findTable_15 : decode cX8_findTable 15 = .ok (.if_icmp .ge 79, 3) := by decide +kernel
theorem dX8_findTable_18 : decode cX8_findTable 18 = .ok (.aload_n 0, 1) := by decide +kernel
theorem dX8_findTable_19 : decode cX8_findTable 19 = .ok (.getfield 23, 3) := by decide +kernel
theorem dX8_findTable_22 : decode cX8_findTable 22 = .ok (.iload_n 1, 1) := by decide +kernel
theorem dX8_findTable_23 : decode cX8_findTable 23 = .ok (.iaload, 1) := by decide +kernel
theorem dX8_findTable_24 : decode cX8_findTable 24 = .ok (.istore_n 2, 1) := by decide +kernel
theorem dX8_findTable_25 : decode cX8_findTable 25 = .ok (.aload_n 0, 1) := by decide +kernel
theorem dX8_findTable_26 : decode cX8_findTable 26 = .ok (.iload_n 2, 1) := by decide +kernel
theorem dX8_findTable_27 : decode cX8_findTable 27 = .ok (.invokevirtual 121, 3) := by decide +kernel
theorem dX8_findTable_30 : decode cX8_findTable 30 = .ok (.iconst 0, 1) := by decide +kernel
theorem dX8_findTable_31 : decode cX8_findTable 31 = .ok (.istore_n 3, 1) := by decide +kernel
theorem dX8_findTable_32 : decode cX8_findTable 32 = .ok (.iload_n 3, 1) := by decide +kernel
theorem dX8_findTable_33 : decode cX8_findTable 33 = .ok (.iconst 2, 1) := by decide +kernel
theorem dX8_findTable_34 : decode cX8_findTable 34 = .ok (.if_icmp .ge 54, 3) := by decide +kernel
theorem dX8_findTable_37 : decode cX8_findTable 37 = .ok (.iconst 0, 1) := by decide +kernel
theorem dX8_findTable_38 : decode cX8_findTable 38 = .ok (.istore 4, 2) := by decide +kernel
theorem dX8_findTable_40 : decode cX8_findTable 40 = .ok (.iload 4, 2) := by decide +kernel
theorem dX8_findTable_42 : decode cX8_findTable 42 = .ok (.iconst 3, 1) := by decide +kernel
theorem dX8_findTable_43 : decode cX8_findTable 43 = .ok (.if_icmp .ge 39, 3) := by decide +kernel
theorem dX8_findTable_46 : decode cX8_findTable 46 = .ok (.aload_n 0, 1) := by decide +kernel
theorem dX8_findTable_47 : decode cX8_findTable 47 = .ok (.getfield 30, 3) := by decide +kernel
theorem dX8_findTable_50 : decode cX8_findTable 50 = .ok (.iload 4, 2) := by decide +kernel
theorem dX8_findTable_52 : decode cX8_findTable 52 = .ok (.dup2, 1) := by decide +kernel
theorem dX8_findTable_53 : decode cX8_findTable 53 = .ok (.laload, 1) := by decide +kernel
theorem dX8_findTable_54 : decode cX8_findTable 54 = .ok (.aload_n 0, 1) := by decide +kernel
theorem dX8_findTable_55 : decode cX8_findTable 55 = .ok (.iload_n 2, 1) := by decide +kernel
theorem dX8_findTable_56 : decode cX8_findTable 56 = .ok (.iload 4, 2) := by decide +kernel
theorem dX8_findTable_58 : decode cX8_findTable 58 = .ok (.iload_n 3, 1) := by decide +kernel
theorem dX8_findTable_59 : decode cX8_findTable 59 = .ok (.invokevirtual 89, 3) := by decide +kernel
theorem dX8_findTable_62 : decode cX8_findTable 62 = .ok (.i2l, 1) := by decide +kernel
theorem dX8_findTable_63 : decode cX8_findTable 63 = .ok (.aload_n 0, 1) := by decide +kernel
theorem dX8_findTable_64 : decode cX8_findTable 64 = .ok (.iconst 2, 1) := by decide +kernel
theorem dX8_findTable_65 : decode cX8_findTable 65 = .ok (.iload_n 2, 1) := by decide +kernel
theorem dX8_findTable_66 : decode cX8_findTable 66 = .ok (.imul, 1) := by decide +kernel
theorem dX8_findTable_67 : decode cX8_findTable 67 = .ok (.iload_n 3, 1) := by decide +kernel
theorem dX8_findTable_68 : decode cX8_findTable 68 = .ok (.iadd, 1) := by decide +kernel
theorem dX8_findTable_69 : decode cX8_findTable 69 = .ok (.invokevirtual 102, 3) := by decide +kernel
theorem dX8_findTable_72 : decode cX8_findTable 72 = .ok (.i2l, 1) := by decide +kernel
theorem dX8_findTable_73 : decode cX8_findTable 73 = .ok (.lmul, 1) := by decide +kernel
theorem dX8_findTable_74 : decode cX8_findTable 74 = .ok (.ladd, 1) := by decide +kernel
theorem dX8_findTable_75 : decode cX8_findTable 75 = .ok (.lastore, 1) := by decide +kernel
theorem dX8_findTable_76 : decode cX8_findTable 76 = .ok (.iinc 4 1, 3) := by decide +kernel
theorem dX8_findTable_79 : decode cX8_findTable 79 = .ok (.goto (-39), 3) := by decide +kernel
theorem dX8_findTable_82 : decode cX8_findTable 82 = .ok (.iinc 3 1, 3) := by decide +kernel
theorem dX8_findTable_85 : decode cX8_findTable 85 = .ok (.goto (-53), 3) := by decide +kernel
theorem dX8_findTable_88 : decode cX8_findTable 88 = .ok (.iinc 1 1, 3) := by decide +kernel
theorem dX8_findTable_91 : decode cX8_findTable 91 = .ok (.goto (-81), 3) := by decide +kernel
theorem dX8_findTable_94 : decode cX8_findTable 94 = .ok (.return_, 1) := by decide +kernel
theorem dX8_table_0 : decode cX8_table 0 = .ok (.iload_n 1, 1) := by decide +kernel
theorem dX8_table_1 : decode cX8_table 1 = .ok (.i2l, 1) := by decide +kernel
theorem dX8_table_2 : decode cX8_table 2 = .ok (.lconst 0, 1) := by decide +kernel
theorem dX8_table_3 : decode cX8_table 3 = .ok (.ldc2_w 81, 3) := by decide +kernel
theorem dX8_table_6 : decode cX8_table 6 = .ok (.invokestatic 70, 3) := by decide +kernel
theorem dX8_table_9 : decode cX8_table 9 = .ok (.ifCond .eq 15, 3) := by decide +kernel
theorem dX8_table_12 : decode cX8_table 12 = .ok (.iload_n 2, 1) := by decide +kernel
theorem dX8_table_13 : decode cX8_table 13 = .ok (.i2l, 1) := by decide +kernel
theorem dX8_table_14 : decode cX8_table 14 = .ok (.lconst 0, 1) := by decide +kernel
theorem dX8_table_15 : decode cX8_table 15 = .ok (.ldc2_w 81, 3) := by decide +kernel
theorem dX8_table_18 : decode cX8_table 18 = .ok (.invokestatic 70, 3) := by decide +kernel
theorem dX8_table_21 : decode cX8_table 21 = .ok (.ifCond .ne 9, 3) := by decide +kernel
theorem dX8_table_24 : decode cX8_table 24 = .ok (.bipush (-2), 2) := by decide +kernel
theorem dX8_table_26 : decode cX8_table 26 = .ok (.invokestatic 125, 3) := by decide +kernel
theorem dX8_table_29 : decode cX8_table 29 = .ok (.lreturn, 1) := by decide +kernel
theorem dX8_table_30 : decode cX8_table 30 = .ok (.aload_n 0, 1) := by decide +kernel
theorem dX8_table_31 : decode cX8_table 31 = .ok (.invokevirtual 129, 3) := by decide +kernel
theorem dX8_table_34 : decode cX8_table 34 = .ok (.aload_n 0, 1) := by decide +kernel
theorem dX8_table_35 : decode cX8_table 35 = .ok (.getfield 26, 3) := by decide +kernel
theorem dX8_table_38 : decode cX8_table 38 = .ok (.iconst 3, 1) := by decide +kernel
theorem dX8_table_39 : decode cX8_table 39 = .ok (.iload_n 1, 1) := by decide +kernel
theorem dX8_table_40 : decode cX8_table 40 = .ok (.imul, 1) := by decide +kernel
theorem dX8_table_41 : decode cX8_table 41 = .ok (.iload_n 2, 1) := by decide +kernel
theorem dX8_table_42 : decode cX8_table 42 = .ok (.iadd, 1) := by decide +kernel
theorem dX8_table_43 : decode cX8_table 43 = .ok (.laload, 1) := by decide +kernel
theorem dX8_table_44 : decode cX8_table 44 = .ok (.lreturn, 1) := by decide +kernel
theorem dX8_det_0 : decode cX8_det 0 = .ok (.lload_n 0, 1) := by decide +kernel
theorem dX8_det_1 : decode cX8_det 1 = .ok (.lload 8, 2) := by decide +kernel
theorem dX8_det_3 : decode cX8_det 3 = .ok (.lload 16, 2) := by decide +kernel
theorem dX8_det_5 : decode cX8_det 5 = .ok (.lmul, 1) := by decide +kernel
theorem dX8_det_6 : decode cX8_det 6 = .ok (.lload 10, 2) := by decide +kernel
theorem dX8_det_8 : decode cX8_det 8 = .ok (.lload 14, 2) := by decide +kernel
theorem dX8_det_10 : decode cX8_det 10 = .ok (.lmul, 1) := by decide +kernel
theorem dX8_det_11 : decode cX8_det 11 = .ok (.lsub, 1) := by decide +kernel
theorem dX8_det_12 : decode cX8_det 12 = .ok (.lmul, 1) := by decide +kernel
theorem dX8_det_13 : decode cX8_det 13 = .ok (.lload_n 2, 1) := by decide +kernel
theorem dX8_det_14 : decode cX8_det 14 = .ok (.lload 6, 2) := by decide +kernel
theorem dX8_det_16 : decode cX8_det 16 = .ok (.lload 16, 2) := by decide +kernel
theorem dX8_det_18 : decode cX8_det 18 = .ok (.lmul, 1) := by decide +kernel
theorem dX8_det_19 : decode cX8_det 19 = .ok (.lload 10, 2) := by decide +kernel
theorem dX8_det_21 : decode cX8_det 21 = .ok (.lload 12, 2) := by decide +kernel
theorem dX8_det_23 : decode cX8_det 23 = .ok (.lmul, 1) := by decide +kernel
theorem dX8_det_24 : decode cX8_det 24 = .ok (.lsub, 1) := by decide +kernel
theorem dX8_det_25 : decode cX8_det 25 = .ok (.lmul, 1) := by decide +kernel
theorem dX8_det_26 : decode cX8_det 26 = .ok (.lsub, 1) := by decide +kernel
theorem dX8_det_27 : decode cX8_det 27 = .ok (.lload 4, 2) := by decide +kernel
theorem dX8_det_29 : decode cX8_det 29 = .ok (.lload 6, 2) := by decide +kernel
theorem dX8_det_31 : decode cX8_det 31 = .ok (.lload 14, 2) := by decide +kernel
theorem dX8_det_33 : decode cX8_det 33 = .ok (.lmul, 1) := by decide +kernel
theorem dX8_det_34 : decode cX8_det 34 = .ok (.lload 8, 2) := by decide +kernel
theorem dX8_det_36 : decode cX8_det 36 = .ok (.lload 12, 2) := by decide +kernel
theorem dX8_det_38 : decode cX8_det 38 = .ok (.lmul, 1) := by decide +kernel
theorem dX8_det_39 : decode cX8_det 39 = .ok (.lsub, 1) := by decide +kernel
theorem dX8_det_40 : decode cX8_det 40 = .ok (.lmul, 1) := by decide +kernel
theorem dX8_det_41 : decode cX8_det 41 = .ok (.ladd, 1) := by decide +kernel
theorem dX8_det_42 : decode cX8_det 42 = .ok (.lreturn, 1) := by decide +kernel
theorem dX8_weightNow_0 : decode cX8_weightNow 0 = .ok (.aload_n 0, 1) := by decide +kernel
theorem dX8_weightNow_1 : decode cX8_weightNow 1 = .ok (.getfield 26, 3) := by decide +kernel
theorem dX8_weightNow_4 : decode cX8_weightNow 4 = .ok (.iconst 0, 1) := by decide +kernel
theorem dX8_weightNow_5 : decode cX8_weightNow 5 = .ok (.laload, 1) := by decide +kernel
theorem dX8_weightNow_6 : decode cX8_weightNow 6 = .ok (.aload_n 0, 1) := by decide +kernel
theorem dX8_weightNow_7 : decode cX8_weightNow 7 = .ok (.getfield 26, 3) := by decide +kernel
theorem dX8_weightNow_10 : decode cX8_weightNow 10 = .ok (.iconst 1, 1) := by decide +kernel
theorem dX8_weightNow_11 : decode cX8_weightNow 11 = .ok (.laload, 1) := by decide +kernel
theorem dX8_weightNow_12 : decode cX8_weightNow 12 = .ok (.aload_n 0, 1) := by decide +kernel
theorem dX8_weightNow_13 : decode cX8_weightNow 13 = .ok (.getfield 26, 3) := by decide +kernel
theorem dX8_weightNow_16 : decode cX8_weightNow 16 = .ok (.iconst 2, 1) := by decide +kernel
theorem dX8_weightNow_17 : decode cX8_weightNow 17 = .ok (.laload, 1) := by decide +kernel
theorem dX8_weightNow_18 : decode cX8_weightNow 18 = .ok (.aload_n 0, 1) := by decide +kernel
theorem dX8_weightNow_19 : decode cX8_weightNow 19 = .ok (.getfield 26, 3) := by decide +kernel
theorem dX8_weightNow_22 : decode cX8_weightNow 22 = .ok (.iconst 3, 1) := by decide +kernel
theorem dX8_weightNow_23 : decode cX8_weightNow 23 = .ok (.laload, 1) := by decide +kernel
theorem dX8_weightNow_24 : decode cX8_weightNow 24 = .ok (.aload_n 0, 1) := by decide +kernel
theorem dX8_weightNow_25 : decode cX8_weightNow 25 = .ok (.getfield 26, 3) := by decide +kernel
theorem dX8_weightNow_28 : decode cX8_weightNow 28 = .ok (.iconst 4, 1) := by decide +kernel
theorem dX8_weightNow_29 : decode cX8_weightNow 29 = .ok (.laload, 1) := by decide +kernel
theorem dX8_weightNow_30 : decode cX8_weightNow 30 = .ok (.aload_n 0, 1) := by decide +kernel
theorem dX8_weightNow_31 : decode cX8_weightNow 31 = .ok (.getfield 26, 3) := by decide +kernel
theorem dX8_weightNow_34 : decode cX8_weightNow 34 = .ok (.iconst 5, 1) := by decide +kernel
theorem dX8_weightNow_35 : decode cX8_weightNow 35 = .ok (.laload, 1) := by decide +kernel
theorem dX8_weightNow_36 : decode cX8_weightNow 36 = .ok (.aload_n 0, 1) := by decide +kernel
theorem dX8_weightNow_37 : decode cX8_weightNow 37 = .ok (.getfield 26, 3) := by decide +kernel
theorem dX8_weightNow_40 : decode cX8_weightNow 40 = .ok (.bipush 6, 2) := by decide +kernel
theorem dX8_weightNow_42 : decode cX8_weightNow 42 = .ok (.laload, 1) := by decide +kernel
theorem dX8_weightNow_43 : decode cX8_weightNow 43 = .ok (.aload_n 0, 1) := by decide +kernel
theorem dX8_weightNow_44 : decode cX8_weightNow 44 = .ok (.getfield 26, 3) := by decide +kernel
theorem dX8_weightNow_47 : decode cX8_weightNow 47 = .ok (.bipush 7, 2) := by decide +kernel
theorem dX8_weightNow_49 : decode cX8_weightNow 49 = .ok (.laload, 1) := by decide +kernel
theorem dX8_weightNow_50 : decode cX8_weightNow 50 = .ok (.aload_n 0, 1) := by decide +kernel
theorem dX8_weightNow_51 : decode cX8_weightNow 51 = .ok (.getfield 26, 3) := by decide +kernel
theorem dX8_weightNow_54 : decode cX8_weightNow 54 = .ok (.bipush 8, 2) := by decide +kernel
theorem dX8_weightNow_56 : decode cX8_weightNow 56 = .ok (.laload, 1) := by decide +kernel
theorem dX8_weightNow_57 : decode cX8_weightNow 57 = .ok (.invokestatic 132, 3) := by decide +kernel
theorem dX8_weightNow_60 : decode cX8_weightNow 60 = .ok (.lreturn, 1) := by decide +kernel
theorem dX8_stands_0 : decode cX8_stands 0 = .ok (.aload_n 0, 1) := by decide +kernel
theorem dX8_stands_1 : decode cX8_stands 1 = .ok (.getfield 26, 3) := by decide +kernel
theorem dX8_stands_4 : decode cX8_stands 4 = .ok (.iconst 3, 1) := by decide +kernel
theorem dX8_stands_5 : decode cX8_stands 5 = .ok (.iload_n 1, 1) := by decide +kernel
theorem dX8_stands_6 : decode cX8_stands 6 = .ok (.imul, 1) := by decide +kernel
theorem dX8_stands_7 : decode cX8_stands 7 = .ok (.laload, 1) := by decide +kernel
theorem dX8_stands_8 : decode cX8_stands 8 = .ok (.lstore_n 3, 1) := by decide +kernel
theorem dX8_stands_9 : decode cX8_stands 9 = .ok (.aload_n 0, 1) := by decide +kernel
theorem dX8_stands_10 : decode cX8_stands 10 = .ok (.getfield 26, 3) := by decide +kernel
theorem dX8_stands_13 : decode cX8_stands 13 = .ok (.iconst 3, 1) := by decide +kernel
theorem dX8_stands_14 : decode cX8_stands 14 = .ok (.iload_n 1, 1) := by decide +kernel
theorem dX8_stands_15 : decode cX8_stands 15 = .ok (.imul, 1) := by decide +kernel
theorem dX8_stands_16 : decode cX8_stands 16 = .ok (.iconst 1, 1) := by decide +kernel
theorem dX8_stands_17 : decode cX8_stands 17 = .ok (.iadd, 1) := by decide +kernel
theorem dX8_stands_18 : decode cX8_stands 18 = .ok (.laload, 1) := by decide +kernel
theorem dX8_stands_19 : decode cX8_stands 19 = .ok (.lstore 5, 2) := by decide +kernel
theorem dX8_stands_21 : decode cX8_stands 21 = .ok (.aload_n 0, 1) := by decide +kernel
theorem dX8_stands_22 : decode cX8_stands 22 = .ok (.getfield 26, 3) := by decide +kernel
theorem dX8_stands_25 : decode cX8_stands 25 = .ok (.iconst 3, 1) := by decide +kernel
theorem dX8_stands_26 : decode cX8_stands 26 = .ok (.iload_n 1, 1) := by decide +kernel
theorem dX8_stands_27 : decode cX8_stands 27 = .ok (.imul, 1) := by decide +kernel
theorem dX8_stands_28 : decode cX8_stands 28 = .ok (.iconst 2, 1) := by decide +kernel
theorem dX8_stands_29 : decode cX8_stands 29 = .ok (.iadd, 1) := by decide +kernel
theorem dX8_stands_30 : decode cX8_stands 30 = .ok (.laload, 1) := by decide +kernel
theorem dX8_stands_31 : decode cX8_stands 31 = .ok (.lstore 7, 2) := by decide +kernel
theorem dX8_stands_33 : decode cX8_stands 33 = .ok (.aload_n 0, 1) := by decide +kernel
theorem dX8_stands_34 : decode cX8_stands 34 = .ok (.getfield 26, 3) := by decide +kernel
theorem dX8_stands_37 : decode cX8_stands 37 = .ok (.iconst 3, 1) := by decide +kernel
theorem dX8_stands_38 : decode cX8_stands 38 = .ok (.iload_n 2, 1) := by decide +kernel
theorem dX8_stands_39 : decode cX8_stands 39 = .ok (.imul, 1) := by decide +kernel
theorem dX8_stands_40 : decode cX8_stands 40 = .ok (.laload, 1) := by decide +kernel
theorem dX8_stands_41 : decode cX8_stands 41 = .ok (.lstore 9, 2) := by decide +kernel
theorem dX8_stands_43 : decode cX8_stands 43 = .ok (.aload_n 0, 1) := by decide +kernel
theorem dX8_stands_44 : decode cX8_stands 44 = .ok (.getfield 26, 3) := by decide +kernel
theorem dX8_stands_47 : decode cX8_stands 47 = .ok (.iconst 3, 1) := by decide +kernel
theorem dX8_stands_48 : decode cX8_stands 48 = .ok (.iload_n 2, 1) := by decide +kernel
theorem dX8_stands_49 : decode cX8_stands 49 = .ok (.imul, 1) := by decide +kernel
theorem dX8_stands_50 : decode cX8_stands 50 = .ok (.iconst 1, 1) := by decide +kernel
theorem dX8_stands_51 : decode cX8_stands 51 = .ok (.iadd, 1) := by decide +kernel
theorem dX8_stands_52 : decode cX8_stands 52 = .ok (.laload, 1) := by decide +kernel
theorem dX8_stands_53 : decode cX8_stands 53 = .ok (.lstore 11, 2) := by decide +kernel
theorem dX8_stands_55 : decode cX8_stands 55 = .ok (.aload_n 0, 1) := by decide +kernel
theorem dX8_stands_56 : decode cX8_stands 56 = .ok (.getfield 26, 3) := by decide +kernel
theorem dX8_stands_59 : decode cX8_stands 59 = .ok (.iconst 3, 1) := by decide +kernel
theorem dX8_stands_60 : decode cX8_stands 60 = .ok (.iload_n 2, 1) := by decide +kernel
theorem dX8_stands_61 : decode cX8_stands 61 = .ok (.imul, 1) := by decide +kernel
theorem dX8_stands_62 : decode cX8_stands 62 = .ok (.iconst 2, 1) := by decide +kernel
theorem dX8_stands_63 : decode cX8_stands 63 = .ok (.iadd, 1) := by decide +kernel
theorem dX8_stands_64 : decode cX8_stands 64 = .ok (.laload, 1) := by decide +kernel
theorem dX8_stands_65 : decode cX8_stands 65 = .ok (.lstore 13, 2) := by decide +kernel
theorem dX8_stands_67 : decode cX8_stands 67 = .ok (.aload_n 0, 1) := by decide +kernel
theorem dX8_stands_68 : decode cX8_stands 68 = .ok (.getfield 33, 3) := by decide +kernel
theorem dX8_stands_71 : decode cX8_stands 71 = .ok (.iconst 0, 1) := by decide +kernel
theorem dX8_stands_72 : decode cX8_stands 72 = .ok (.lload 5, 2) := by decide +kernel
theorem dX8_stands_74 : decode cX8_stands 74 = .ok (.lload 13, 2) := by decide +kernel
theorem dX8_stands_76 : decode cX8_stands 76 = .ok (.lmul, 1) := by decide +kernel
theorem dX8_stands_77 : decode cX8_stands 77 = .ok (.lload 7, 2) := by decide +kernel
theorem dX8_stands_79 : decode cX8_stands 79 = .ok (.lload 11, 2) := by decide +kernel
theorem dX8_stands_81 : decode cX8_stands 81 = .ok (.lmul, 1) := by decide +kernel
theorem dX8_stands_82 : decode cX8_stands 82 = .ok (.lsub, 1) := by decide +kernel
theorem dX8_stands_83 : decode cX8_stands 83 = .ok (.lastore, 1) := by decide +kernel
theorem dX8_stands_84 : decode cX8_stands 84 = .ok (.aload_n 0, 1) := by decide +kernel
theorem dX8_stands_85 : decode cX8_stands 85 = .ok (.getfield 33, 3) := by decide +kernel
theorem dX8_stands_88 : decode cX8_stands 88 = .ok (.iconst 1, 1) := by decide +kernel
theorem dX8_stands_89 : decode cX8_stands 89 = .ok (.lload 7, 2) := by decide +kernel
theorem dX8_stands_91 : decode cX8_stands 91 = .ok (.lload 9, 2) := by decide +kernel
theorem dX8_stands_93 : decode cX8_stands 93 = .ok (.lmul, 1) := by decide +kernel
theorem dX8_stands_94 : decode cX8_stands 94 = .ok (.lload_n 3, 1) := by decide +kernel
theorem dX8_stands_95 : decode cX8_stands 95 = .ok (.lload 13, 2) := by decide +kernel
theorem dX8_stands_97 : decode cX8_stands 97 = .ok (.lmul, 1) := by decide +kernel
theorem dX8_stands_98 : decode cX8_stands 98 = .ok (.lsub, 1) := by decide +kernel
theorem dX8_stands_99 : decode cX8_stands 99 = .ok (.lastore, 1) := by decide +kernel
theorem dX8_stands_100 : decode cX8_stands 100 = .ok (.aload_n 0, 1) := by decide +kernel
theorem dX8_stands_101 : decode cX8_stands 101 = .ok (.getfield 33, 3) := by decide +kernel
theorem dX8_stands_104 : decode cX8_stands 104 = .ok (.iconst 2, 1) := by decide +kernel
theorem dX8_stands_105 : decode cX8_stands 105 = .ok (.lload_n 3, 1) := by decide +kernel
theorem dX8_stands_106 : decode cX8_stands 106 = .ok (.lload 11, 2) := by decide +kernel
theorem dX8_stands_108 : decode cX8_stands 108 = .ok (.lmul, 1) := by decide +kernel
theorem dX8_stands_109 : decode cX8_stands 109 = .ok (.lload 5, 2) := by decide +kernel
theorem dX8_stands_111 : decode cX8_stands 111 = .ok (.lload 9, 2) := by decide +kernel
theorem dX8_stands_113 : decode cX8_stands 113 = .ok (.lmul, 1) := by decide +kernel
theorem dX8_stands_114 : decode cX8_stands 114 = .ok (.lsub, 1) := by decide +kernel
theorem dX8_stands_115 : decode cX8_stands 115 = .ok (.lastore, 1) := by decide +kernel
theorem dX8_stands_116 : decode cX8_stands 116 = .ok (.aload_n 0, 1) := by decide +kernel
theorem dX8_stands_117 : decode cX8_stands 117 = .ok (.getfield 33, 3) := by decide +kernel
theorem dX8_stands_120 : decode cX8_stands 120 = .ok (.iconst 0, 1) := by decide +kernel
theorem dX8_stands_121 : decode cX8_stands 121 = .ok (.laload, 1) := by decide +kernel
theorem dX8_stands_122 : decode cX8_stands 122 = .ok (.lconst 0, 1) := by decide +kernel
theorem dX8_stands_123 : decode cX8_stands 123 = .ok (.lcmp, 1) := by decide +kernel
theorem dX8_stands_124 : decode cX8_stands 124 = .ok (.ifCond .ne 25, 3) := by decide +kernel
theorem dX8_stands_127 : decode cX8_stands 127 = .ok (.aload_n 0, 1) := by decide +kernel
theorem dX8_stands_128 : decode cX8_stands 128 = .ok (.getfield 33, 3) := by decide +kernel
theorem dX8_stands_131 : decode cX8_stands 131 = .ok (.iconst 1, 1) := by decide +kernel
theorem dX8_stands_132 : decode cX8_stands 132 = .ok (.laload, 1) := by decide +kernel
theorem dX8_stands_133 : decode cX8_stands 133 = .ok (.lconst 0, 1) := by decide +kernel
theorem dX8_stands_134 : decode cX8_stands 134 = .ok (.lcmp, 1) := by decide +kernel
theorem dX8_stands_135 : decode cX8_stands 135 = .ok (.ifCond .ne 14, 3) := by decide +kernel
theorem dX8_stands_138 : decode cX8_stands 138 = .ok (.aload_n 0, 1) := by decide +kernel
theorem dX8_stands_139 : decode cX8_stands 139 = .ok (.getfield 33, 3) := by decide +kernel
theorem dX8_stands_142 : decode cX8_stands 142 = .ok (.iconst 2, 1) := by decide +kernel
theorem dX8_stands_143 : decode cX8_stands 143 = .ok (.laload, 1) := by decide +kernel
theorem dX8_stands_144 : decode cX8_stands 144 = .ok (.lconst 0, 1) := by decide +kernel
theorem dX8_stands_145 : decode cX8_stands 145 = .ok (.lcmp, 1) := by decide +kernel
theorem dX8_stands_146 : decode cX8_stands 146 = .ok (.ifCond .eq 7, 3) := by decide +kernel
theorem dX8_stands_149 : decode cX8_stands 149 = .ok (.iconst 1, 1) := by decide +kernel
theorem dX8_stands_150 : decode cX8_stands 150 = .ok (.goto 4, 3) := by decide +kernel
theorem dX8_stands_153 : decode cX8_stands 153 = .ok (.iconst 0, 1) := by decide +kernel
theorem dX8_stands_154 : decode cX8_stands 154 = .ok (.ireturn, 1) := by decide +kernel
theorem dX8_rankNow_0 : decode cX8_rankNow 0 = .ok (.aload_n 0, 1) := by decide +kernel
theorem dX8_rankNow_1 : decode cX8_rankNow 1 = .ok (.invokevirtual 136, 3) := by decide +kernel
theorem dX8_rankNow_4 : decode cX8_rankNow 4 = .ok (.lconst 0, 1) := by decide +kernel
theorem dX8_rankNow_5 : decode cX8_rankNow 5 = .ok (.lcmp, 1) := by decide +kernel
theorem dX8_rankNow_6 : decode cX8_rankNow 6 = .ok (.ifCond .eq 5, 3) := by decide +kernel
theorem dX8_rankNow_9 : decode cX8_rankNow 9 = .ok (.iconst 3, 1) := by decide +kernel
theorem dX8_rankNow_10 : decode cX8_rankNow 10 = .ok (.ireturn, 1) := by decide +kernel
theorem dX8_rankNow_11 : decode cX8_rankNow 11 = .ok (.aload_n 0, 1) := by decide +kernel
theorem dX8_rankNow_12 : decode cX8_rankNow 12 = .ok (.iconst 0, 1) := by decide +kernel
theorem dX8_rankNow_13 : decode cX8_rankNow 13 = .ok (.iconst 1, 1) := by decide +kernel
theorem dX8_rankNow_14 : decode cX8_rankNow 14 = .ok (.invokevirtual 140, 3) := by decide +kernel
theorem dX8_rankNow_17 : decode cX8_rankNow 17 = .ok (.ifCond .ne 21, 3) := by decide +kernel
theorem dX8_rankNow_20 : decode cX8_rankNow 20 = .ok (.aload_n 0, 1) := by decide +kernel
theorem dX8_rankNow_21 : decode cX8_rankNow 21 = .ok (.iconst 0, 1) := by decide +kernel
theorem dX8_rankNow_22 : decode cX8_rankNow 22 = .ok (.iconst 2, 1) := by decide +kernel
theorem dX8_rankNow_23 : decode cX8_rankNow 23 = .ok (.invokevirtual 140, 3) := by decide +kernel
theorem dX8_rankNow_26 : decode cX8_rankNow 26 = .ok (.ifCond .ne 12, 3) := by decide +kernel
theorem dX8_rankNow_29 : decode cX8_rankNow 29 = .ok (.aload_n 0, 1) := by decide +kernel
theorem dX8_rankNow_30 : decode cX8_rankNow 30 = .ok (.iconst 1, 1) := by decide +kernel
theorem dX8_rankNow_31 : decode cX8_rankNow 31 = .ok (.iconst 2, 1) := by decide +kernel
theorem dX8_rankNow_32 : decode cX8_rankNow 32 = .ok (.invokevirtual 140, 3) := by decide +kernel
theorem dX8_rankNow_35 : decode cX8_rankNow 35 = .ok (.ifCond .eq 5, 3) := by decide +kernel
theorem dX8_rankNow_38 : decode cX8_rankNow 38 = .ok (.iconst 2, 1) := by decide +kernel
theorem dX8_rankNow_39 : decode cX8_rankNow 39 = .ok (.ireturn, 1) := by decide +kernel
theorem dX8_rankNow_40 : decode cX8_rankNow 40 = .ok (.iconst 0, 1) := by decide +kernel
theorem dX8_rankNow_41 : decode cX8_rankNow 41 = .ok (.istore_n 1, 1) := by decide +kernel
theorem dX8_rankNow_42 : decode cX8_rankNow 42 = .ok (.iload_n 1, 1) := by decide +kernel
theorem dX8_rankNow_43 : decode cX8_rankNow 43 = .ok (.bipush 9, 2) := by decide +kernel
theorem dX8_rankNow_45 : decode cX8_rankNow 45 = .ok (.if_icmp .ge 22, 3) := by decide +kernel
theorem dX8_rankNow_48 : decode cX8_rankNow 48 = .ok (.aload_n 0, 1) := by decide +kernel
theorem dX8_rankNow_49 : decode cX8_rankNow 49 = .ok (.getfield 26, 3) := by decide +kernel
theorem dX8_rankNow_52 : decode cX8_rankNow 52 = .ok (.iload_n 1, 1) := by decide +kernel
theorem dX8_rankNow_53 : decode cX8_rankNow 53 = .ok (.laload, 1) := by decide +kernel
theorem dX8_rankNow_54 : decode cX8_rankNow 54 = .ok (.lconst 0, 1) := by decide +kernel
theorem dX8_rankNow_55 : decode cX8_rankNow 55 = .ok (.lcmp, 1) := by decide +kernel
theorem dX8_rankNow_56 : decode cX8_rankNow 56 = .ok (.ifCond .eq 5, 3) := by decide +kernel
theorem dX8_rankNow_59 : decode cX8_rankNow 59 = .ok (.iconst 1, 1) := by decide +kernel
theorem dX8_rankNow_60 : decode cX8_rankNow 60 = .ok (.ireturn, 1) := by decide +kernel
theorem dX8_rankNow_61 : decode cX8_rankNow 61 = .ok (.iinc 1 1, 3) := by decide +kernel
theorem dX8_rankNow_64 : decode cX8_rankNow 64 = .ok (.goto (-22), 3) := by decide +kernel
theorem dX8_rankNow_67 : decode cX8_rankNow 67 = .ok (.iconst 0, 1) := by decide +kernel
theorem dX8_rankNow_68 : decode cX8_rankNow 68 = .ok (.ireturn, 1) := by decide +kernel
theorem dX8_rank_0 : decode cX8_rank 0 = .ok (.aload_n 0, 1) := by decide +kernel
theorem dX8_rank_1 : decode cX8_rank 1 = .ok (.invokevirtual 129, 3) := by decide +kernel
theorem dX8_rank_4 : decode cX8_rank 4 = .ok (.aload_n 0, 1) := by decide +kernel
theorem dX8_rank_5 : decode cX8_rank 5 = .ok (.invokevirtual 144, 3) := by decide +kernel
theorem dX8_rank_8 : decode cX8_rank 8 = .ok (.ireturn, 1) := by decide +kernel
theorem dX8_told_0 : decode cX8_told 0 = .ok (.iload_n 1, 1) := by decide +kernel
theorem dX8_told_1 : decode cX8_told 1 = .ok (.i2l, 1) := by decide +kernel
theorem dX8_told_2 : decode cX8_told 2 = .ok (.lconst 0, 1) := by decide +kernel
theorem dX8_told_3 : decode cX8_told 3 = .ok (.ldc2_w 81, 3) := by decide +kernel
theorem dX8_told_6 : decode cX8_told 6 = .ok (.invokestatic 70, 3) := by decide +kernel
theorem dX8_told_9 : decode cX8_told 9 = .ok (.ifCond .ne 6, 3) := by decide +kernel
theorem dX8_told_12 : decode cX8_told 12 = .ok (.bipush (-2), 2) := by decide +kernel
theorem dX8_told_14 : decode cX8_told 14 = .ok (.ireturn, 1) := by decide +kernel
theorem dX8_told_15 : decode cX8_told 15 = .ok (.aload_n 0, 1) := by decide +kernel
theorem dX8_told_16 : decode cX8_told 16 = .ok (.invokevirtual 129, 3) := by decide +kernel
theorem dX8_told_19 : decode cX8_told 19 = .ok (.aload_n 0, 1) := by decide +kernel
theorem dX8_told_20 : decode cX8_told 20 = .ok (.invokevirtual 144, 3) := by decide +kernel
theorem dX8_told_23 : decode cX8_told 23 = .ok (.istore_n 2, 1) := by decide +kernel
theorem dX8_told_24 : decode cX8_told 24 = .ok (.iload_n 2, 1) := by decide +kernel
theorem dX8_told_25 : decode cX8_told 25 = .ok (.iconst 3, 1) := by decide +kernel
theorem dX8_told_26 : decode cX8_told 26 = .ok (.if_icmp .ne 5, 3) := by decide +kernel
theorem dX8_told_29 : decode cX8_told 29 = .ok (.iconst 1, 1) := by decide +kernel
theorem dX8_told_30 : decode cX8_told 30 = .ok (.ireturn, 1) := by decide +kernel
theorem dX8_told_31 : decode cX8_told 31 = .ok (.iload_n 2, 1) := by decide +kernel
theorem dX8_told_32 : decode cX8_told 32 = .ok (.iconst 2, 1) := by decide +kernel
theorem dX8_told_33 : decode cX8_told 33 = .ok (.if_icmp .ne 53, 3) := by decide +kernel
theorem dX8_told_36 : decode cX8_told 36 = .ok (.aload_n 0, 1) := by decide +kernel
theorem dX8_told_37 : decode cX8_told 37 = .ok (.iconst 0, 1) := by decide +kernel
theorem dX8_told_38 : decode cX8_told 38 = .ok (.iconst 1, 1) := by decide +kernel
theorem dX8_told_39 : decode cX8_told 39 = .ok (.invokevirtual 140, 3) := by decide +kernel
theorem dX8_told_42 : decode cX8_told 42 = .ok (.ifCond .ne 21, 3) := by decide +kernel
theorem dX8_told_45 : decode cX8_told 45 = .ok (.aload_n 0, 1) := by decide +kernel
theorem dX8_told_46 : decode cX8_told 46 = .ok (.iconst 0, 1) := by decide +kernel
theorem dX8_told_47 : decode cX8_told 47 = .ok (.iconst 2, 1) := by decide +kernel
theorem dX8_told_48 : decode cX8_told 48 = .ok (.invokevirtual 140, 3) := by decide +kernel
theorem dX8_told_51 : decode cX8_told 51 = .ok (.ifCond .ne 12, 3) := by decide +kernel
theorem dX8_told_54 : decode cX8_told 54 = .ok (.aload_n 0, 1) := by decide +kernel
theorem dX8_told_55 : decode cX8_told 55 = .ok (.iconst 1, 1) := by decide +kernel
theorem dX8_told_56 : decode cX8_told 56 = .ok (.iconst 2, 1) := by decide +kernel
theorem dX8_told_57 : decode cX8_told 57 = .ok (.invokevirtual 140, 3) := by decide +kernel
theorem dX8_told_60 : decode cX8_told 60 = .ok (.ifCond .eq 7, 3) := by decide +kernel
theorem dX8_told_63 : decode cX8_told 63 = .ok (.iconst 1, 1) := by decide +kernel
theorem dX8_told_64 : decode cX8_told 64 = .ok (.goto 4, 3) := by decide +kernel
theorem dX8_told_67 : decode cX8_told 67 = .ok (.iconst 0, 1) := by decide +kernel
theorem dX8_told_68 : decode cX8_told 68 = .ok (.istore_n 3, 1) := by decide +kernel
theorem dX8_told_69 : decode cX8_told 69 = .ok (.aload_n 0, 1) := by decide +kernel
theorem dX8_told_70 : decode cX8_told 70 = .ok (.getfield 33, 3) := by decide +kernel
theorem dX8_told_73 : decode cX8_told 73 = .ok (.iload_n 1, 1) := by decide +kernel
theorem dX8_told_74 : decode cX8_told 74 = .ok (.laload, 1) := by decide +kernel
theorem dX8_told_75 : decode cX8_told 75 = .ok (.lconst 0, 1) := by decide +kernel
theorem dX8_told_76 : decode cX8_told 76 = .ok (.lcmp, 1) := by decide +kernel
theorem dX8_told_77 : decode cX8_told 77 = .ok (.ifCond .ne 7, 3) := by decide +kernel
theorem dX8_told_80 : decode cX8_told 80 = .ok (.iconst 1, 1) := by decide +kernel
theorem dX8_told_81 : decode cX8_told 81 = .ok (.goto 4, 3) := by decide +kernel
theorem dX8_told_84 : decode cX8_told 84 = .ok (.iconst 0, 1) := by decide +kernel
theorem dX8_told_85 : decode cX8_told 85 = .ok (.ireturn, 1) := by decide +kernel
theorem dX8_told_86 : decode cX8_told 86 = .ok (.iconst 0, 1) := by decide +kernel
theorem dX8_told_87 : decode cX8_told 87 = .ok (.istore_n 3, 1) := by decide +kernel
theorem dX8_told_88 : decode cX8_told 88 = .ok (.iload_n 3, 1) := by decide +kernel
theorem dX8_told_89 : decode cX8_told 89 = .ok (.iconst 3, 1) := by decide +kernel
theorem dX8_told_90 : decode cX8_told 90 = .ok (.if_icmp .ge 87, 3) := by decide +kernel
theorem dX8_told_93 : decode cX8_told 93 = .ok (.aload_n 0, 1) := by decide +kernel
theorem dX8_told_94 : decode cX8_told 94 = .ok (.getfield 26, 3) := by decide +kernel
theorem dX8_told_97 : decode cX8_told 97 = .ok (.iconst 3, 1) := by decide +kernel
theorem dX8_told_98 : decode cX8_told 98 = .ok (.iload_n 3, 1) := by decide +kernel
theorem dX8_told_99 : decode cX8_told 99 = .ok (.imul, 1) := by decide +kernel
theorem dX8_told_100 : decode cX8_told 100 = .ok (.iload_n 1, 1) := by decide +kernel
theorem dX8_told_101 : decode cX8_told 101 = .ok (.iadd, 1) := by decide +kernel
theorem dX8_told_102 : decode cX8_told 102 = .ok (.laload, 1) := by decide +kernel
theorem dX8_told_103 : decode cX8_told 103 = .ok (.lconst 0, 1) := by decide +kernel
theorem dX8_told_104 : decode cX8_told 104 = .ok (.lcmp, 1) := by decide +kernel
theorem dX8_told_105 : decode cX8_told 105 = .ok (.ifCond .eq 7, 3) := by decide +kernel
theorem dX8_told_108 : decode cX8_told 108 = .ok (.iconst 1, 1) := by decide +kernel
theorem dX8_told_109 : decode cX8_told 109 = .ok (.goto 4, 3) := by decide +kernel
theorem dX8_told_112 : decode cX8_told 112 = .ok (.iconst 0, 1) := by decide +kernel
theorem dX8_told_113 : decode cX8_told 113 = .ok (.istore 4, 2) := by decide +kernel
theorem dX8_told_115 : decode cX8_told 115 = .ok (.iconst 0, 1) := by decide +kernel
theorem dX8_told_116 : decode cX8_told 116 = .ok (.istore 5, 2) := by decide +kernel
theorem dX8_told_118 : decode cX8_told 118 = .ok (.iload 5, 2) := by decide +kernel
theorem dX8_told_120 : decode cX8_told 120 = .ok (.iconst 3, 1) := by decide +kernel
theorem dX8_told_121 : decode cX8_told 121 = .ok (.if_icmp .ge 43, 3) := by decide +kernel
theorem dX8_told_124 : decode cX8_told 124 = .ok (.iload 4, 2) := by decide +kernel
theorem dX8_told_126 : decode cX8_told 126 = .ok (.ifCond .eq 29, 3) := by decide +kernel
theorem dX8_told_129 : decode cX8_told 129 = .ok (.iload 5, 2) := by decide +kernel
theorem dX8_told_131 : decode cX8_told 131 = .ok (.iload_n 1, 1) := by decide +kernel
theorem dX8_told_132 : decode cX8_told 132 = .ok (.if_icmp .eq 19, 3) := by decide +kernel
theorem dX8_told_135 : decode cX8_told 135 = .ok (.aload_n 0, 1) := by decide +kernel
theorem dX8_told_136 : decode cX8_told 136 = .ok (.getfield 26, 3) := by decide +kernel
theorem dX8_told_139 : decode cX8_told 139 = .ok (.iconst 3, 1) := by decide +kernel
theorem dX8_told_140 : decode cX8_told 140 = .ok (.iload_n 3, 1) := by decide +kernel
theorem dX8_told_141 : decode cX8_told 141 = .ok (.imul, 1) := by decide +kernel
theorem dX8_told_142 : decode cX8_told 142 = .ok (.iload 5, 2) := by decide +kernel
theorem dX8_told_144 : decode cX8_told 144 = .ok (.iadd, 1) := by decide +kernel
theorem dX8_told_145 : decode cX8_told 145 = .ok (.laload, 1) := by decide +kernel
theorem dX8_told_146 : decode cX8_told 146 = .ok (.lconst 0, 1) := by decide +kernel
theorem dX8_told_147 : decode cX8_told 147 = .ok (.lcmp, 1) := by decide +kernel
theorem dX8_told_148 : decode cX8_told 148 = .ok (.ifCond .ne 7, 3) := by decide +kernel
theorem dX8_told_151 : decode cX8_told 151 = .ok (.iconst 1, 1) := by decide +kernel
theorem dX8_told_152 : decode cX8_told 152 = .ok (.goto 4, 3) := by decide +kernel
theorem dX8_told_155 : decode cX8_told 155 = .ok (.iconst 0, 1) := by decide +kernel
theorem dX8_told_156 : decode cX8_told 156 = .ok (.istore 4, 2) := by decide +kernel
theorem dX8_told_158 : decode cX8_told 158 = .ok (.iinc 5 1, 3) := by decide +kernel
theorem dX8_told_161 : decode cX8_told 161 = .ok (.goto (-43), 3) := by decide +kernel
theorem dX8_told_164 : decode cX8_told 164 = .ok (.iload 4, 2) := by decide +kernel
theorem dX8_told_166 : decode cX8_told 166 = .ok (.ifCond .eq 5, 3) := by decide +kernel
theorem dX8_told_169 : decode cX8_told 169 = .ok (.iconst 1, 1) := by decide +kernel
theorem dX8_told_170 : decode cX8_told 170 = .ok (.ireturn, 1) := by decide +kernel
theorem dX8_told_171 : decode cX8_told 171 = .ok (.iinc 3 1, 3) := by decide +kernel
theorem dX8_told_174 : decode cX8_told 174 = .ok (.goto (-86), 3) := by decide +kernel
theorem dX8_told_177 : decode cX8_told 177 = .ok (.iconst 0, 1) := by decide +kernel
theorem dX8_told_178 : decode cX8_told 178 = .ok (.ireturn, 1) := by decide +kernel
theorem dX8_fitOf_0 : decode cX8_fitOf 0 = .ok (.aload_n 0, 1) := by decide +kernel
theorem dX8_fitOf_1 : decode cX8_fitOf 1 = .ok (.invokevirtual 136, 3) := by decide +kernel
theorem dX8_fitOf_4 : decode cX8_fitOf 4 = .ok (.lstore_n 2, 1) := by decide +kernel
theorem dX8_fitOf_5 : decode cX8_fitOf 5 = .ok (.iload_n 1, 1) := by decide +kernel
theorem dX8_fitOf_6 : decode cX8_fitOf 6 = .ok (.ifCond .ne 65, 3) := by decide +kernel
theorem dX8_fitOf_9 : decode cX8_fitOf 9 = .ok (.aload_n 0, 1) := by decide +kernel
theorem dX8_fitOf_10 : decode cX8_fitOf 10 = .ok (.getfield 30, 3) := by decide +kernel
theorem dX8_fitOf_13 : decode cX8_fitOf 13 = .ok (.iconst 0, 1) := by decide +kernel
theorem dX8_fitOf_14 : decode cX8_fitOf 14 = .ok (.laload, 1) := by decide +kernel
theorem dX8_fitOf_15 : decode cX8_fitOf 15 = .ok (.aload_n 0, 1) := by decide +kernel
theorem dX8_fitOf_16 : decode cX8_fitOf 16 = .ok (.getfield 26, 3) := by decide +kernel
theorem dX8_fitOf_19 : decode cX8_fitOf 19 = .ok (.iconst 1, 1) := by decide +kernel
theorem dX8_fitOf_20 : decode cX8_fitOf 20 = .ok (.laload, 1) := by decide +kernel
theorem dX8_fitOf_21 : decode cX8_fitOf 21 = .ok (.aload_n 0, 1) := by decide +kernel
theorem dX8_fitOf_22 : decode cX8_fitOf 22 = .ok (.getfield 26, 3) := by decide +kernel
theorem dX8_fitOf_25 : decode cX8_fitOf 25 = .ok (.iconst 2, 1) := by decide +kernel
theorem dX8_fitOf_26 : decode cX8_fitOf 26 = .ok (.laload, 1) := by decide +kernel
theorem dX8_fitOf_27 : decode cX8_fitOf 27 = .ok (.aload_n 0, 1) := by decide +kernel
theorem dX8_fitOf_28 : decode cX8_fitOf 28 = .ok (.getfield 30, 3) := by decide +kernel
theorem dX8_fitOf_31 : decode cX8_fitOf 31 = .ok (.iconst 1, 1) := by decide +kernel
theorem dX8_fitOf_32 : decode cX8_fitOf 32 = .ok (.laload, 1) := by decide +kernel
theorem dX8_fitOf_33 : decode cX8_fitOf 33 = .ok (.aload_n 0, 1) := by decide +kernel
theorem dX8_fitOf_34 : decode cX8_fitOf 34 = .ok (.getfield 26, 3) := by decide +kernel
theorem dX8_fitOf_37 : decode cX8_fitOf 37 = .ok (.iconst 4, 1) := by decide +kernel
theorem dX8_fitOf_38 : decode cX8_fitOf 38 = .ok (.laload, 1) := by decide +kernel
theorem dX8_fitOf_39 : decode cX8_fitOf 39 = .ok (.aload_n 0, 1) := by decide +kernel
theorem dX8_fitOf_40 : decode cX8_fitOf 40 = .ok (.getfield 26, 3) := by decide +kernel
theorem dX8_fitOf_43 : decode cX8_fitOf 43 = .ok (.iconst 5, 1) := by decide +kernel
theorem dX8_fitOf_44 : decode cX8_fitOf 44 = .ok (.laload, 1) := by decide +kernel
theorem dX8_fitOf_45 : decode cX8_fitOf 45 = .ok (.aload_n 0, 1) := by decide +kernel
theorem dX8_fitOf_46 : decode cX8_fitOf 46 = .ok (.getfield 30, 3) := by decide +kernel
theorem dX8_fitOf_49 : decode cX8_fitOf 49 = .ok (.iconst 2, 1) := by decide +kernel
theorem dX8_fitOf_50 : decode cX8_fitOf 50 = .ok (.laload, 1) := by decide +kernel
theorem dX8_fitOf_51 : decode cX8_fitOf 51 = .ok (.aload_n 0, 1) := by decide +kernel
theorem dX8_fitOf_52 : decode cX8_fitOf 52 = .ok (.getfield 26, 3) := by decide +kernel
theorem dX8_fitOf_55 : decode cX8_fitOf 55 = .ok (.bipush 7, 2) := by decide +kernel
theorem dX8_fitOf_57 : decode cX8_fitOf 57 = .ok (.laload, 1) := by decide +kernel
theorem dX8_fitOf_58 : decode cX8_fitOf 58 = .ok (.aload_n 0, 1) := by decide +kernel
theorem dX8_fitOf_59 : decode cX8_fitOf 59 = .ok (.getfield 26, 3) := by decide +kernel
theorem dX8_fitOf_62 : decode cX8_fitOf 62 = .ok (.bipush 8, 2) := by decide +kernel
theorem dX8_fitOf_64 : decode cX8_fitOf 64 = .ok (.laload, 1) := by decide +kernel
theorem dX8_fitOf_65 : decode cX8_fitOf 65 = .ok (.invokestatic 132, 3) := by decide +kernel
theorem dX8_fitOf_68 : decode cX8_fitOf 68 = .ok (.goto 129, 3) := by decide +kernel
theorem dX8_fitOf_71 : decode cX8_fitOf 71 = .ok (.iload_n 1, 1) := by decide +kernel
theorem dX8_fitOf_72 : decode cX8_fitOf 72 = .ok (.iconst 1, 1) := by decide +kernel
theorem dX8_fitOf_73 : decode cX8_fitOf 73 = .ok (.if_icmp .ne 65, 3) := by decide +kernel
theorem dX8_fitOf_76 : decode cX8_fitOf 76 = .ok (.aload_n 0, 1) := by decide +kernel
theorem dX8_fitOf_77 : decode cX8_fitOf 77 = .ok (.getfield 26, 3) := by decide +kernel
theorem dX8_fitOf_80 : decode cX8_fitOf 80 = .ok (.iconst 0, 1) := by decide +kernel
theorem dX8_fitOf_81 : decode cX8_fitOf 81 = .ok (.laload, 1) := by decide +kernel
theorem dX8_fitOf_82 : decode cX8_fitOf 82 = .ok (.aload_n 0, 1) := by decide +kernel
theorem dX8_fitOf_83 : decode cX8_fitOf 83 = .ok (.getfield 30, 3) := by decide +kernel
theorem dX8_fitOf_86 : decode cX8_fitOf 86 = .ok (.iconst 0, 1) := by decide +kernel
theorem dX8_fitOf_87 : decode cX8_fitOf 87 = .ok (.laload, 1) := by decide +kernel
theorem dX8_fitOf_88 : decode cX8_fitOf 88 = .ok (.aload_n 0, 1) := by decide +kernel
theorem dX8_fitOf_89 : decode cX8_fitOf 89 = .ok (.getfield 26, 3) := by decide +kernel
theorem dX8_fitOf_92 : decode cX8_fitOf 92 = .ok (.iconst 2, 1) := by decide +kernel
theorem dX8_fitOf_93 : decode cX8_fitOf 93 = .ok (.laload, 1) := by decide +kernel
theorem dX8_fitOf_94 : decode cX8_fitOf 94 = .ok (.aload_n 0, 1) := by decide +kernel
theorem dX8_fitOf_95 : decode cX8_fitOf 95 = .ok (.getfield 26, 3) := by decide +kernel
theorem dX8_fitOf_98 : decode cX8_fitOf 98 = .ok (.iconst 3, 1) := by decide +kernel
theorem dX8_fitOf_99 : decode cX8_fitOf 99 = .ok (.laload, 1) := by decide +kernel
theorem dX8_fitOf_100 : decode cX8_fitOf 100 = .ok (.aload_n 0, 1) := by decide +kernel
theorem dX8_fitOf_101 : decode cX8_fitOf 101 = .ok (.getfield 30, 3) := by decide +kernel
theorem dX8_fitOf_104 : decode cX8_fitOf 104 = .ok (.iconst 1, 1) := by decide +kernel
theorem dX8_fitOf_105 : decode cX8_fitOf 105 = .ok (.laload, 1) := by decide +kernel
theorem dX8_fitOf_106 : decode cX8_fitOf 106 = .ok (.aload_n 0, 1) := by decide +kernel
theorem dX8_fitOf_107 : decode cX8_fitOf 107 = .ok (.getfield 26, 3) := by decide +kernel
theorem dX8_fitOf_110 : decode cX8_fitOf 110 = .ok (.iconst 5, 1) := by decide +kernel
theorem dX8_fitOf_111 : decode cX8_fitOf 111 = .ok (.laload, 1) := by decide +kernel
theorem dX8_fitOf_112 : decode cX8_fitOf 112 = .ok (.aload_n 0, 1) := by decide +kernel
theorem dX8_fitOf_113 : decode cX8_fitOf 113 = .ok (.getfield 26, 3) := by decide +kernel
theorem dX8_fitOf_116 : decode cX8_fitOf 116 = .ok (.bipush 6, 2) := by decide +kernel
theorem dX8_fitOf_118 : decode cX8_fitOf 118 = .ok (.laload, 1) := by decide +kernel
theorem dX8_fitOf_119 : decode cX8_fitOf 119 = .ok (.aload_n 0, 1) := by decide +kernel
theorem dX8_fitOf_120 : decode cX8_fitOf 120 = .ok (.getfield 30, 3) := by decide +kernel
theorem dX8_fitOf_123 : decode cX8_fitOf 123 = .ok (.iconst 2, 1) := by decide +kernel
theorem dX8_fitOf_124 : decode cX8_fitOf 124 = .ok (.laload, 1) := by decide +kernel
theorem dX8_fitOf_125 : decode cX8_fitOf 125 = .ok (.aload_n 0, 1) := by decide +kernel
theorem dX8_fitOf_126 : decode cX8_fitOf 126 = .ok (.getfield 26, 3) := by decide +kernel
theorem dX8_fitOf_129 : decode cX8_fitOf 129 = .ok (.bipush 8, 2) := by decide +kernel
theorem dX8_fitOf_131 : decode cX8_fitOf 131 = .ok (.laload, 1) := by decide +kernel
theorem dX8_fitOf_132 : decode cX8_fitOf 132 = .ok (.invokestatic 132, 3) := by decide +kernel
theorem dX8_fitOf_135 : decode cX8_fitOf 135 = .ok (.goto 62, 3) := by decide +kernel
theorem dX8_fitOf_138 : decode cX8_fitOf 138 = .ok (.aload_n 0, 1) := by decide +kernel
theorem dX8_fitOf_139 : decode cX8_fitOf 139 = .ok (.getfield 26, 3) := by decide +kernel
theorem dX8_fitOf_142 : decode cX8_fitOf 142 = .ok (.iconst 0, 1) := by decide +kernel
theorem dX8_fitOf_143 : decode cX8_fitOf 143 = .ok (.laload, 1) := by decide +kernel
theorem dX8_fitOf_144 : decode cX8_fitOf 144 = .ok (.aload_n 0, 1) := by decide +kernel
theorem dX8_fitOf_145 : decode cX8_fitOf 145 = .ok (.getfield 26, 3) := by decide +kernel
theorem dX8_fitOf_148 : decode cX8_fitOf 148 = .ok (.iconst 1, 1) := by decide +kernel
theorem dX8_fitOf_149 : decode cX8_fitOf 149 = .ok (.laload, 1) := by decide +kernel
theorem dX8_fitOf_150 : decode cX8_fitOf 150 = .ok (.aload_n 0, 1) := by decide +kernel
theorem dX8_fitOf_151 : decode cX8_fitOf 151 = .ok (.getfield 30, 3) := by decide +kernel
theorem dX8_fitOf_154 : decode cX8_fitOf 154 = .ok (.iconst 0, 1) := by decide +kernel
theorem dX8_fitOf_155 : decode cX8_fitOf 155 = .ok (.laload, 1) := by decide +kernel
theorem dX8_fitOf_156 : decode cX8_fitOf 156 = .ok (.aload_n 0, 1) := by decide +kernel
theorem dX8_fitOf_157 : decode cX8_fitOf 157 = .ok (.getfield 26, 3) := by decide +kernel
theorem dX8_fitOf_160 : decode cX8_fitOf 160 = .ok (.iconst 3, 1) := by decide +kernel
theorem dX8_fitOf_161 : decode cX8_fitOf 161 = .ok (.laload, 1) := by decide +kernel
theorem dX8_fitOf_162 : decode cX8_fitOf 162 = .ok (.aload_n 0, 1) := by decide +kernel
theorem dX8_fitOf_163 : decode cX8_fitOf 163 = .ok (.getfield 26, 3) := by decide +kernel
theorem dX8_fitOf_166 : decode cX8_fitOf 166 = .ok (.iconst 4, 1) := by decide +kernel
theorem dX8_fitOf_167 : decode cX8_fitOf 167 = .ok (.laload, 1) := by decide +kernel
theorem dX8_fitOf_168 : decode cX8_fitOf 168 = .ok (.aload_n 0, 1) := by decide +kernel
theorem dX8_fitOf_169 : decode cX8_fitOf 169 = .ok (.getfield 30, 3) := by decide +kernel
theorem dX8_fitOf_172 : decode cX8_fitOf 172 = .ok (.iconst 1, 1) := by decide +kernel
theorem dX8_fitOf_173 : decode cX8_fitOf 173 = .ok (.laload, 1) := by decide +kernel
theorem dX8_fitOf_174 : decode cX8_fitOf 174 = .ok (.aload_n 0, 1) := by decide +kernel
theorem dX8_fitOf_175 : decode cX8_fitOf 175 = .ok (.getfield 26, 3) := by decide +kernel
theorem dX8_fitOf_178 : decode cX8_fitOf 178 = .ok (.bipush 6, 2) := by decide +kernel
theorem dX8_fitOf_180 : decode cX8_fitOf 180 = .ok (.laload, 1) := by decide +kernel
theorem dX8_fitOf_181 : decode cX8_fitOf 181 = .ok (.aload_n 0, 1) := by decide +kernel
theorem dX8_fitOf_182 : decode cX8_fitOf 182 = .ok (.getfield 26, 3) := by decide +kernel
theorem dX8_fitOf_185 : decode cX8_fitOf 185 = .ok (.bipush 7, 2) := by decide +kernel
theorem dX8_fitOf_187 : decode cX8_fitOf 187 = .ok (.laload, 1) := by decide +kernel
theorem dX8_fitOf_188 : decode cX8_fitOf 188 = .ok (.aload_n 0, 1) := by decide +kernel
theorem dX8_fitOf_189 : decode cX8_fitOf 189 = .ok (.getfield 30, 3) := by decide +kernel
theorem dX8_fitOf_192 : decode cX8_fitOf 192 = .ok (.iconst 2, 1) := by decide +kernel
theorem dX8_fitOf_193 : decode cX8_fitOf 193 = .ok (.laload, 1) := by decide +kernel
theorem dX8_fitOf_194 : decode cX8_fitOf 194 = .ok (.invokestatic 132, 3) := by decide +kernel
theorem dX8_fitOf_197 : decode cX8_fitOf 197 = .ok (.lstore 4, 2) := by decide +kernel
theorem dX8_fitOf_199 : decode cX8_fitOf 199 = .ok (.lload 4, 2) := by decide +kernel
theorem dX8_fitOf_201 : decode cX8_fitOf 201 = .ok (.lload_n 2, 1) := by decide +kernel
theorem dX8_fitOf_202 : decode cX8_fitOf 202 = .ok (.ldiv, 1) := by decide +kernel
theorem dX8_fitOf_203 : decode cX8_fitOf 203 = .ok (.lstore 6, 2) := by decide +kernel
theorem dX8_fitOf_205 : decode cX8_fitOf 205 = .ok (.lload 6, 2) := by decide +kernel
theorem dX8_fitOf_207 : decode cX8_fitOf 207 = .ok (.lload_n 2, 1) := by decide +kernel
theorem dX8_fitOf_208 : decode cX8_fitOf 208 = .ok (.lmul, 1) := by decide +kernel
theorem dX8_fitOf_209 : decode cX8_fitOf 209 = .ok (.lload 4, 2) := by decide +kernel
theorem dX8_fitOf_211 : decode cX8_fitOf 211 = .ok (.lcmp, 1) := by decide +kernel
theorem dX8_fitOf_212 : decode cX8_fitOf 212 = .ok (.ifCond .le 9, 3) := by decide +kernel
theorem dX8_fitOf_215 : decode cX8_fitOf 215 = .ok (.lload 6, 2) := by decide +kernel
theorem dX8_fitOf_217 : decode cX8_fitOf 217 = .ok (.lconst 1, 1) := by decide +kernel
theorem dX8_fitOf_218 : decode cX8_fitOf 218 = .ok (.lsub, 1) := by decide +kernel
theorem dX8_fitOf_219 : decode cX8_fitOf 219 = .ok (.lstore 6, 2) := by decide +kernel
theorem dX8_fitOf_221 : decode cX8_fitOf 221 = .ok (.ldc2_w 148, 3) := by decide +kernel
theorem dX8_fitOf_224 : decode cX8_fitOf 224 = .ok (.lload 6, 2) := by decide +kernel
theorem dX8_fitOf_226 : decode cX8_fitOf 226 = .ok (.lmul, 1) := by decide +kernel
theorem dX8_fitOf_227 : decode cX8_fitOf 227 = .ok (.ldc2_w 148, 3) := by decide +kernel
theorem dX8_fitOf_230 : decode cX8_fitOf 230 = .ok (.lload 4, 2) := by decide +kernel
theorem dX8_fitOf_232 : decode cX8_fitOf 232 = .ok (.lload 6, 2) := by decide +kernel
theorem dX8_fitOf_234 : decode cX8_fitOf 234 = .ok (.lload_n 2, 1) := by decide +kernel
theorem dX8_fitOf_235 : decode cX8_fitOf 235 = .ok (.lmul, 1) := by decide +kernel
theorem dX8_fitOf_236 : decode cX8_fitOf 236 = .ok (.lsub, 1) := by decide +kernel
theorem dX8_fitOf_237 : decode cX8_fitOf 237 = .ok (.lmul, 1) := by decide +kernel
theorem dX8_fitOf_238 : decode cX8_fitOf 238 = .ok (.lload_n 2, 1) := by decide +kernel
theorem dX8_fitOf_239 : decode cX8_fitOf 239 = .ok (.ldiv, 1) := by decide +kernel
theorem dX8_fitOf_240 : decode cX8_fitOf 240 = .ok (.ladd, 1) := by decide +kernel
theorem dX8_fitOf_241 : decode cX8_fitOf 241 = .ok (.lreturn, 1) := by decide +kernel
theorem dX8_fit_0 : decode cX8_fit 0 = .ok (.iload_n 1, 1) := by decide +kernel
theorem dX8_fit_1 : decode cX8_fit 1 = .ok (.i2l, 1) := by decide +kernel
theorem dX8_fit_2 : decode cX8_fit 2 = .ok (.lconst 0, 1) := by decide +kernel
theorem dX8_fit_3 : decode cX8_fit 3 = .ok (.ldc2_w 81, 3) := by decide +kernel
theorem dX8_fit_6 : decode cX8_fit 6 = .ok (.invokestatic 70, 3) := by decide +kernel
theorem dX8_fit_9 : decode cX8_fit 9 = .ok (.ifCond .ne 9, 3) := by decide +kernel
theorem dX8_fit_12 : decode cX8_fit 12 = .ok (.bipush (-2), 2) := by decide +kernel
theorem dX8_fit_14 : decode cX8_fit 14 = .ok (.invokestatic 125, 3) := by decide +kernel
theorem dX8_fit_17 : decode cX8_fit 17 = .ok (.lreturn, 1) := by decide +kernel
theorem dX8_fit_18 : decode cX8_fit 18 = .ok (.aload_n 0, 1) := by decide +kernel
theorem dX8_fit_19 : decode cX8_fit 19 = .ok (.invokevirtual 129, 3) := by decide +kernel
theorem dX8_fit_22 : decode cX8_fit 22 = .ok (.aload_n 0, 1) := by decide +kernel
theorem dX8_fit_23 : decode cX8_fit 23 = .ok (.invokevirtual 144, 3) := by decide +kernel
theorem dX8_fit_26 : decode cX8_fit 26 = .ok (.iconst 3, 1) := by decide +kernel
theorem dX8_fit_27 : decode cX8_fit 27 = .ok (.if_icmp .ge 11, 3) := by decide +kernel
theorem dX8_fit_30 : decode cX8_fit 30 = .ok (.bipush (-3), 2) := by decide +kernel
theorem dX8_fit_32 : decode cX8_fit 32 = .ok (.invokestatic 125, 3) := by decide +kernel
theorem dX8_fit_35 : decode cX8_fit 35 = .ok (.goto 8, 3) := by decide +kernel
theorem dX8_fit_38 : decode cX8_fit 38 = .ok (.aload_n 0, 1) := by decide +kernel
theorem dX8_fit_39 : decode cX8_fit 39 = .ok (.iload_n 1, 1) := by decide +kernel
theorem dX8_fit_40 : decode cX8_fit 40 = .ok (.invokevirtual 150, 3) := by decide +kernel
theorem dX8_fit_43 : decode cX8_fit 43 = .ok (.lreturn, 1) := by decide +kernel
theorem dX8_mend_0 : decode cX8_mend 0 = .ok (.aload_n 0, 1) := by decide +kernel
theorem dX8_mend_1 : decode cX8_mend 1 = .ok (.invokevirtual 129, 3) := by decide +kernel
theorem dX8_mend_4 : decode cX8_mend 4 = .ok (.aload_n 0, 1) := by decide +kernel
theorem dX8_mend_5 : decode cX8_mend 5 = .ok (.invokevirtual 144, 3) := by decide +kernel
theorem dX8_mend_8 : decode cX8_mend 8 = .ok (.iconst 3, 1) := by decide +kernel
theorem dX8_mend_9 : decode cX8_mend 9 = .ok (.if_icmp .ge 6, 3) := by decide +kernel
theorem dX8_mend_12 : decode cX8_mend 12 = .ok (.bipush (-3), 2) := by decide +kernel
theorem dX8_mend_14 : decode cX8_mend 14 = .ok (.ireturn, 1) := by decide +kernel
theorem dX8_mend_15 : decode cX8_mend 15 = .ok (.iconst 0, 1) := by decide +kernel
theorem dX8_mend_16 : decode cX8_mend 16 = .ok (.istore_n 1, 1) := by decide +kernel
theorem dX8_mend_17 : decode cX8_mend 17 = .ok (.iload_n 1, 1) := by decide +kernel
theorem dX8_mend_18 : decode cX8_mend 18 = .ok (.iconst 3, 1) := by decide +kernel
theorem dX8_mend_19 : decode cX8_mend 19 = .ok (.if_icmp .ge 57, 3) := by decide +kernel
theorem dX8_mend_22 : decode cX8_mend 22 = .ok (.aload_n 0, 1) := by decide +kernel
theorem dX8_mend_23 : decode cX8_mend 23 = .ok (.iload_n 1, 1) := by decide +kernel
theorem dX8_mend_24 : decode cX8_mend 24 = .ok (.invokevirtual 150, 3) := by decide +kernel
theorem dX8_mend_27 : decode cX8_mend 27 = .ok (.ldc2_w 153, 3) := by decide +kernel
theorem dX8_mend_30 : decode cX8_mend 30 = .ok (.ladd, 1) := by decide +kernel
theorem dX8_mend_31 : decode cX8_mend 31 = .ok (.lstore_n 2, 1) := by decide +kernel
theorem dX8_mend_32 : decode cX8_mend 32 = .ok (.aload_n 0, 1) := by decide +kernel
theorem dX8_mend_33 : decode cX8_mend 33 = .ok (.getfield 13, 3) := by decide +kernel
theorem dX8_mend_36 : decode cX8_mend 36 = .ok (.iload_n 1, 1) := by decide +kernel
theorem dX8_mend_37 : decode cX8_mend 37 = .ok (.lload_n 2, 1) := by decide +kernel
theorem dX8_mend_38 : decode cX8_mend 38 = .ok (.ldc2_w 155, 3) := by decide +kernel
theorem dX8_mend_41 : decode cX8_mend 41 = .ok (.lcmp, 1) := by decide +kernel
theorem dX8_mend_42 : decode cX8_mend 42 = .ok (.ifCond .ge 7, 3) := by decide +kernel
theorem dX8_mend_45 : decode cX8_mend 45 = .ok (.iconst 1, 1) := by decide +kernel
theorem dX8_mend_46 : decode cX8_mend 46 = .ok (.goto 23, 3) := by decide +kernel
theorem dX8_mend_49 : decode cX8_mend 49 = .ok (.lload_n 2, 1) := by decide +kernel
theorem dX8_mend_50 : decode cX8_mend 50 = .ok (.ldc2_w 157, 3) := by decide +kernel
theorem dX8_mend_53 : decode cX8_mend 53 = .ok (.lcmp, 1) := by decide +kernel
theorem dX8_mend_54 : decode cX8_mend 54 = .ok (.ifCond .lt 9, 3) := by decide +kernel
theorem dX8_mend_57 : decode cX8_mend 57 = .ok (.sipush 999, 3) := by decide +kernel
theorem dX8_mend_60 : decode cX8_mend 60 = .ok (.goto 9, 3) := by decide +kernel
theorem dX8_mend_63 : decode cX8_mend 63 = .ok (.lload_n 2, 1) := by decide +kernel
theorem dX8_mend_64 : decode cX8_mend 64 = .ok (.ldc2_w 159, 3) := by decide +kernel
theorem dX8_mend_67 : decode cX8_mend 67 = .ok (.ldiv, 1) := by decide +kernel
theorem dX8_mend_68 : decode cX8_mend 68 = .ok (.l2i, 1) := by decide +kernel
theorem dX8_mend_69 : decode cX8_mend 69 = .ok (.iastore, 1) := by decide +kernel
theorem dX8_mend_70 : decode cX8_mend 70 = .ok (.iinc 1 1, 3) := by decide +kernel
theorem dX8_mend_73 : decode cX8_mend 73 = .ok (.goto (-56), 3) := by decide +kernel
theorem dX8_mend_76 : decode cX8_mend 76 = .ok (.iconst 1, 1) := by decide +kernel
theorem dX8_mend_77 : decode cX8_mend 77 = .ok (.ireturn, 1) := by decide +kernel
theorem dX8_missOf_0 : decode cX8_missOf 0 = .ok (.aload_n 0, 1) := by decide +kernel
theorem dX8_missOf_1 : decode cX8_missOf 1 = .ok (.iload_n 1, 1) := by decide +kernel
theorem dX8_missOf_2 : decode cX8_missOf 2 = .ok (.iconst 0, 1) := by decide +kernel
theorem dX8_missOf_3 : decode cX8_missOf 3 = .ok (.invokevirtual 97, 3) := by decide +kernel
theorem dX8_missOf_6 : decode cX8_missOf 6 = .ok (.bipush 65, 2) := by decide +kernel
theorem dX8_missOf_8 : decode cX8_missOf 8 = .ok (.aload_n 0, 1) := by decide +kernel
theorem dX8_missOf_9 : decode cX8_missOf 9 = .ok (.iconst 2, 1) := by decide +kernel
theorem dX8_missOf_10 : decode cX8_missOf 10 = .ok (.iload_n 1, 1) := by decide +kernel
theorem dX8_missOf_11 : decode cX8_missOf 11 = .ok (.imul, 1) := by decide +kernel
theorem dX8_missOf_12 : decode cX8_missOf 12 = .ok (.invokevirtual 102, 3) := by decide +kernel
theorem dX8_missOf_15 : decode cX8_missOf 15 = .ok (.imul, 1) := by decide +kernel
theorem dX8_missOf_16 : decode cX8_missOf 16 = .ok (.isub, 1) := by decide +kernel
theorem dX8_missOf_17 : decode cX8_missOf 17 = .ok (.istore_n 2, 1) := by decide +kernel
theorem dX8_missOf_18 : decode cX8_missOf 18 = .ok (.aload_n 0, 1) := by decide +kernel
theorem dX8_missOf_19 : decode cX8_missOf 19 = .ok (.iload_n 1, 1) := by decide +kernel
theorem dX8_missOf_20 : decode cX8_missOf 20 = .ok (.iconst 1, 1) := by decide +kernel
theorem dX8_missOf_21 : decode cX8_missOf 21 = .ok (.invokevirtual 97, 3) := by decide +kernel
theorem dX8_missOf_24 : decode cX8_missOf 24 = .ok (.bipush 65, 2) := by decide +kernel
theorem dX8_missOf_26 : decode cX8_missOf 26 = .ok (.aload_n 0, 1) := by decide +kernel
theorem dX8_missOf_27 : decode cX8_missOf 27 = .ok (.iconst 2, 1) := by decide +kernel
theorem dX8_missOf_28 : decode cX8_missOf 28 = .ok (.iload_n 1, 1) := by decide +kernel
theorem dX8_missOf_29 : decode cX8_missOf 29 = .ok (.imul, 1) := by decide +kernel
theorem dX8_missOf_30 : decode cX8_missOf 30 = .ok (.iconst 1, 1) := by decide +kernel
theorem dX8_missOf_31 : decode cX8_missOf 31 = .ok (.iadd, 1) := by decide +kernel
theorem dX8_missOf_32 : decode cX8_missOf 32 = .ok (.invokevirtual 102, 3) := by decide +kernel
theorem dX8_missOf_35 : decode cX8_missOf 35 = .ok (.imul, 1) := by decide +kernel
theorem dX8_missOf_36 : decode cX8_missOf 36 = .ok (.isub, 1) := by decide +kernel
theorem dX8_missOf_37 : decode cX8_missOf 37 = .ok (.istore_n 3, 1) := by decide +kernel
theorem dX8_missOf_38 : decode cX8_missOf 38 = .ok (.iload_n 2, 1) := by decide +kernel
theorem dX8_missOf_39 : decode cX8_missOf 39 = .ok (.ifCond .ge 8, 3) := by decide +kernel
theorem dX8_missOf_42 : decode cX8_missOf 42 = .ok (.iload_n 2, 1) := by decide +kernel
theorem dX8_missOf_43 : decode cX8_missOf 43 = .ok (.ineg, 1) := by decide +kernel
theorem dX8_missOf_44 : decode cX8_missOf 44 = .ok (.goto 4, 3) := by decide +kernel
theorem dX8_missOf_47 : decode cX8_missOf 47 = .ok (.iload_n 2, 1) := by decide +kernel
theorem dX8_missOf_48 : decode cX8_missOf 48 = .ok (.istore_n 2, 1) := by decide +kernel
theorem dX8_missOf_49 : decode cX8_missOf 49 = .ok (.iload_n 3, 1) := by decide +kernel
theorem dX8_missOf_50 : decode cX8_missOf 50 = .ok (.ifCond .ge 8, 3) := by decide +kernel
theorem dX8_missOf_53 : decode cX8_missOf 53 = .ok (.iload_n 3, 1) := by decide +kernel
theorem dX8_missOf_54 : decode cX8_missOf 54 = .ok (.ineg, 1) := by decide +kernel
theorem dX8_missOf_55 : decode cX8_missOf 55 = .ok (.goto 4, 3) := by decide +kernel
theorem dX8_missOf_58 : decode cX8_missOf 58 = .ok (.iload_n 3, 1) := by decide +kernel
theorem dX8_missOf_59 : decode cX8_missOf 59 = .ok (.istore_n 3, 1) := by decide +kernel
theorem dX8_missOf_60 : decode cX8_missOf 60 = .ok (.iload_n 2, 1) := by decide +kernel
theorem dX8_missOf_61 : decode cX8_missOf 61 = .ok (.iload_n 3, 1) := by decide +kernel
theorem dX8_missOf_62 : decode cX8_missOf 62 = .ok (.if_icmp .le 7, 3) := by decide +kernel
theorem dX8_missOf_65 : decode cX8_missOf 65 = .ok (.iload_n 2, 1) := by decide +kernel
theorem dX8_missOf_66 : decode cX8_missOf 66 = .ok (.goto 4, 3) := by decide +kernel
theorem dX8_missOf_69 : decode cX8_missOf 69 = .ok (.iload_n 3, 1) := by decide +kernel
theorem dX8_missOf_70 : decode cX8_missOf 70 = .ok (.ireturn, 1) := by decide +kernel
theorem dX8_miss_0 : decode cX8_miss 0 = .ok (.aload_n 0, 1) := by decide +kernel
theorem dX8_miss_1 : decode cX8_miss 1 = .ok (.iload_n 1, 1) := by decide +kernel
theorem dX8_miss_2 : decode cX8_miss 2 = .ok (.invokevirtual 93, 3) := by decide +kernel
theorem dX8_miss_5 : decode cX8_miss 5 = .ok (.ifCond .ne 6, 3) := by decide +kernel
theorem dX8_miss_8 : decode cX8_miss 8 = .ok (.bipush (-2), 2) := by decide +kernel
theorem dX8_miss_10 : decode cX8_miss 10 = .ok (.ireturn, 1) := by decide +kernel
theorem dX8_miss_11 : decode cX8_miss 11 = .ok (.aload_n 0, 1) := by decide +kernel
theorem dX8_miss_12 : decode cX8_miss 12 = .ok (.iload_n 1, 1) := by decide +kernel
theorem dX8_miss_13 : decode cX8_miss 13 = .ok (.invokevirtual 109, 3) := by decide +kernel
theorem dX8_miss_16 : decode cX8_miss 16 = .ok (.ifCond .eq 11, 3) := by decide +kernel
theorem dX8_miss_19 : decode cX8_miss 19 = .ok (.aload_n 0, 1) := by decide +kernel
theorem dX8_miss_20 : decode cX8_miss 20 = .ok (.iload_n 1, 1) := by decide +kernel
theorem dX8_miss_21 : decode cX8_miss 21 = .ok (.invokevirtual 161, 3) := by decide +kernel
theorem dX8_miss_24 : decode cX8_miss 24 = .ok (.goto 5, 3) := by decide +kernel
theorem dX8_miss_27 : decode cX8_miss 27 = .ok (.bipush (-3), 2) := by decide +kernel
theorem dX8_miss_29 : decode cX8_miss 29 = .ok (.ireturn, 1) := by decide +kernel
theorem dX8_worst_0 : decode cX8_worst 0 = .ok (.aload_n 0, 1) := by decide +kernel
theorem dX8_worst_1 : decode cX8_worst 1 = .ok (.invokevirtual 115, 3) := by decide +kernel
theorem dX8_worst_4 : decode cX8_worst 4 = .ok (.iconst (-1), 1) := by decide +kernel
theorem dX8_worst_5 : decode cX8_worst 5 = .ok (.istore_n 1, 1) := by decide +kernel
theorem dX8_worst_6 : decode cX8_worst 6 = .ok (.iconst 0, 1) := by decide +kernel
theorem dX8_worst_7 : decode cX8_worst 7 = .ok (.istore_n 2, 1) := by decide +kernel
theorem dX8_worst_8 : decode cX8_worst 8 = .ok (.iload_n 2, 1) := by decide +kernel
theorem dX8_worst_9 : decode cX8_worst 9 = .ok (.aload_n 0, 1) := by decide +kernel
theorem dX8_worst_10 : decode cX8_worst 10 = .ok (.getfield 112, 3) := by decide +kernel
theorem dX8_worst_13 : decode cX8_worst 13 = .ok (.if_icmp .ge 39, 3) := by decide +kernel
theorem dX8_worst_16 : decode cX8_worst 16 = .ok (.iload_n 1, 1) := by decide +kernel
theorem dX8_worst_17 : decode cX8_worst 17 = .ok (.iconst (-1), 1) := by decide +kernel
theorem dX8_worst_18 : decode cX8_worst 18 = .ok (.if_icmp .eq 21, 3) := by decide +kernel
theorem dX8_worst_21 : decode cX8_worst 21 = .ok (.aload_n 0, 1) := by decide +kernel
theorem dX8_worst_22 : decode cX8_worst 22 = .ok (.aload_n 0, 1) := by decide +kernel
theorem dX8_worst_23 : decode cX8_worst 23 = .ok (.getfield 23, 3) := by decide +kernel
theorem dX8_worst_26 : decode cX8_worst 26 = .ok (.iload_n 2, 1) := by decide +kernel
theorem dX8_worst_27 : decode cX8_worst 27 = .ok (.iaload, 1) := by decide +kernel
theorem dX8_worst_28 : decode cX8_worst 28 = .ok (.invokevirtual 161, 3) := by decide +kernel
theorem dX8_worst_31 : decode cX8_worst 31 = .ok (.aload_n 0, 1) := by decide +kernel
theorem dX8_worst_32 : decode cX8_worst 32 = .ok (.iload_n 1, 1) := by decide +kernel
theorem dX8_worst_33 : decode cX8_worst 33 = .ok (.invokevirtual 161, 3) := by decide +kernel
theorem dX8_worst_36 : decode cX8_worst 36 = .ok (.if_icmp .le 10, 3) := by decide +kernel
theorem dX8_worst_39 : decode cX8_worst 39 = .ok (.aload_n 0, 1) := by decide +kernel
theorem dX8_worst_40 : decode cX8_worst 40 = .ok (.getfield 23, 3) := by decide +kernel
theorem dX8_worst_43 : decode cX8_worst 43 = .ok (.iload_n 2, 1) := by decide +kernel
theorem dX8_worst_44 : decode cX8_worst 44 = .ok (.iaload, 1) := by decide +kernel
theorem dX8_worst_45 : decode cX8_worst 45 = .ok (.istore_n 1, 1) := by decide +kernel
theorem dX8_worst_46 : decode cX8_worst 46 = .ok (.iinc 2 1, 3) := by decide +kernel
theorem dX8_worst_49 : decode cX8_worst 49 = .ok (.goto (-41), 3) := by decide +kernel
theorem dX8_worst_52 : decode cX8_worst 52 = .ok (.iload_n 1, 1) := by decide +kernel
theorem dX8_worst_53 : decode cX8_worst 53 = .ok (.ireturn, 1) := by decide +kernel
theorem dX8_first10_0 : decode cX8_first10 0 = .ok (.aload_n 0, 1) := by decide +kernel
theorem dX8_first10_1 : decode cX8_first10 1 = .ok (.getfield 85, 3) := by decide +kernel
theorem dX8_first10_4 : decode cX8_first10 4 = .ok (.bipush 10, 2) := by decide +kernel
theorem dX8_first10_6 : decode cX8_first10 6 = .ok (.if_icmp .le 8, 3) := by decide +kernel
theorem dX8_first10_9 : decode cX8_first10 9 = .ok (.bipush 10, 2) := by decide +kernel
theorem dX8_first10_11 : decode cX8_first10 11 = .ok (.goto 7, 3) := by decide +kernel
theorem dX8_first10_14 : decode cX8_first10 14 = .ok (.aload_n 0, 1) := by decide +kernel
theorem dX8_first10_15 : decode cX8_first10 15 = .ok (.getfield 85, 3) := by decide +kernel
theorem dX8_first10_18 : decode cX8_first10 18 = .ok (.ireturn, 1) := by decide +kernel
theorem dX8_weightOf_0 : decode cX8_weightOf 0 = .ok (.aload_n 0, 1) := by decide +kernel
theorem dX8_weightOf_1 : decode cX8_weightOf 1 = .ok (.invokevirtual 118, 3) := by decide +kernel
theorem dX8_weightOf_4 : decode cX8_weightOf 4 = .ok (.iconst 0, 1) := by decide +kernel
theorem dX8_weightOf_5 : decode cX8_weightOf 5 = .ok (.istore_n 2, 1) := by decide +kernel
theorem dX8_weightOf_6 : decode cX8_weightOf 6 = .ok (.iload_n 2, 1) := by decide +kernel
theorem dX8_weightOf_7 : decode cX8_weightOf 7 = .ok (.aload_n 0, 1) := by decide +kernel
theorem dX8_weightOf_8 : decode cX8_weightOf 8 = .ok (.invokevirtual 164, 3) := by decide +kernel
theorem dX8_weightOf_11 : decode cX8_weightOf 11 = .ok (.if_icmp .ge 23, 3) := by decide +kernel
theorem dX8_weightOf_14 : decode cX8_weightOf 14 = .ok (.iload_n 1, 1) := by decide +kernel
theorem dX8_weightOf_15 : decode cX8_weightOf 15 = .ok (.iload_n 2, 1) := by decide +kernel
theorem dX8_weightOf_16 : decode cX8_weightOf 16 = .ok (.ishr, 1) := by decide +kernel
theorem dX8_weightOf_17 : decode cX8_weightOf 17 = .ok (.iconst 1, 1) := by decide +kernel
theorem dX8_weightOf_18 : decode cX8_weightOf 18 = .ok (.iand, 1) := by decide +kernel
theorem dX8_weightOf_19 : decode cX8_weightOf 19 = .ok (.iconst 1, 1) := by decide +kernel
theorem dX8_weightOf_20 : decode cX8_weightOf 20 = .ok (.if_icmp .ne 8, 3) := by decide +kernel
theorem dX8_weightOf_23 : decode cX8_weightOf 23 = .ok (.aload_n 0, 1) := by decide +kernel
theorem dX8_weightOf_24 : decode cX8_weightOf 24 = .ok (.iload_n 2, 1) := by decide +kernel
theorem dX8_weightOf_25 : decode cX8_weightOf 25 = .ok (.invokevirtual 121, 3) := by decide +kernel
theorem dX8_weightOf_28 : decode cX8_weightOf 28 = .ok (.iinc 2 1, 3) := by decide +kernel
theorem dX8_weightOf_31 : decode cX8_weightOf 31 = .ok (.goto (-25), 3) := by decide +kernel
theorem dX8_weightOf_34 : decode cX8_weightOf 34 = .ok (.aload_n 0, 1) := by decide +kernel
theorem dX8_weightOf_35 : decode cX8_weightOf 35 = .ok (.invokevirtual 136, 3) := by decide +kernel
theorem dX8_weightOf_38 : decode cX8_weightOf 38 = .ok (.lreturn, 1) := by decide +kernel
theorem dX8_weight_0 : decode cX8_weight 0 = .ok (.iload_n 1, 1) := by decide +kernel
theorem dX8_weight_1 : decode cX8_weight 1 = .ok (.i2l, 1) := by decide +kernel
theorem dX8_weight_2 : decode cX8_weight 2 = .ok (.lconst 0, 1) := by decide +kernel
theorem dX8_weight_3 : decode cX8_weight 3 = .ok (.iconst 1, 1) := by decide +kernel
theorem dX8_weight_4 : decode cX8_weight 4 = .ok (.aload_n 0, 1) := by decide +kernel
theorem dX8_weight_5 : decode cX8_weight 5 = .ok (.invokevirtual 164, 3) := by decide +kernel
theorem dX8_weight_8 : decode cX8_weight 8 = .ok (.ishl, 1) := by decide +kernel
theorem dX8_weight_9 : decode cX8_weight 9 = .ok (.iconst 1, 1) := by decide +kernel
theorem dX8_weight_10 : decode cX8_weight 10 = .ok (.isub, 1) := by decide +kernel
theorem dX8_weight_11 : decode cX8_weight 11 = .ok (.i2l, 1) := by decide +kernel
theorem dX8_weight_12 : decode cX8_weight 12 = .ok (.invokestatic 70, 3) := by decide +kernel
theorem dX8_weight_15 : decode cX8_weight 15 = .ok (.ifCond .eq 11, 3) := by decide +kernel
theorem dX8_weight_18 : decode cX8_weight 18 = .ok (.aload_n 0, 1) := by decide +kernel
theorem dX8_weight_19 : decode cX8_weight 19 = .ok (.iload_n 1, 1) := by decide +kernel
theorem dX8_weight_20 : decode cX8_weight 20 = .ok (.invokevirtual 167, 3) := by decide +kernel
theorem dX8_weight_23 : decode cX8_weight 23 = .ok (.goto 8, 3) := by decide +kernel
theorem dX8_weight_26 : decode cX8_weight 26 = .ok (.bipush (-2), 2) := by decide +kernel
theorem dX8_weight_28 : decode cX8_weight 28 = .ok (.invokestatic 125, 3) := by decide +kernel
theorem dX8_weight_31 : decode cX8_weight 31 = .ok (.lreturn, 1) := by decide +kernel
theorem dX8_best_0 : decode cX8_best 0 = .ok (.iload_n 1, 1) := by decide +kernel
theorem dX8_best_1 : decode cX8_best 1 = .ok (.i2l, 1) := by decide +kernel
theorem dX8_best_2 : decode cX8_best 2 = .ok (.lconst 1, 1) := by decide +kernel
theorem dX8_best_3 : decode cX8_best 3 = .ok (.ldc2_w 170, 3) := by decide +kernel
theorem dX8_best_6 : decode cX8_best 6 = .ok (.invokestatic 70, 3) := by decide +kernel
theorem dX8_best_9 : decode cX8_best 9 = .ok (.ifCond .ne 6, 3) := by decide +kernel
theorem dX8_best_12 : decode cX8_best 12 = .ok (.bipush (-2), 2) := by decide +kernel
theorem dX8_best_14 : decode cX8_best 14 = .ok (.ireturn, 1) := by decide +kernel
theorem dX8_best_15 : decode cX8_best 15 = .ok (.aload_n 0, 1) := by decide +kernel
theorem dX8_best_16 : decode cX8_best 16 = .ok (.getfield 85, 3) := by decide +kernel
theorem dX8_best_19 : decode cX8_best 19 = .ok (.iload_n 1, 1) := by decide +kernel
theorem dX8_best_20 : decode cX8_best 20 = .ok (.if_icmp .ge 6, 3) := by decide +kernel
theorem dX8_best_23 : decode cX8_best 23 = .ok (.bipush (-3), 2) := by decide +kernel
theorem dX8_best_25 : decode cX8_best 25 = .ok (.ireturn, 1) := by decide +kernel
theorem dX8_best_26 : decode cX8_best 26 = .ok (.iconst (-1), 1) := by decide +kernel
theorem dX8_best_27 : decode cX8_best 27 = .ok (.istore_n 2, 1) := by decide +kernel
theorem dX8_best_28 : decode cX8_best 28 = .ok (.lconst 0, 1) := by decide +kernel
theorem dX8_best_29 : decode cX8_best 29 = .ok (.lstore_n 3, 1) := by decide +kernel
theorem dX8_best_30 : decode cX8_best 30 = .ok (.iconst 0, 1) := by decide +kernel
theorem dX8_best_31 : decode cX8_best 31 = .ok (.istore 5, 2) := by decide +kernel
theorem dX8_best_33 : decode cX8_best 33 = .ok (.iload 5, 2) := by decide +kernel
theorem dX8_best_35 : decode cX8_best 35 = .ok (.iconst 1, 1) := by decide +kernel
theorem dX8_best_36 : decode cX8_best 36 = .ok (.aload_n 0, 1) := by decide +kernel
theorem dX8_best_37 : decode cX8_best 37 = .ok (.invokevirtual 164, 3) := by decide +kernel
theorem dX8_best_40 : decode cX8_best 40 = .ok (.ishl, 1) := by decide +kernel
theorem dX8_best_41 : decode cX8_best 41 = .ok (.if_icmp .ge 67, 3) := by decide +kernel
theorem dX8_best_44 : decode cX8_best 44 = .ok (.iconst 0, 1) := by decide +kernel
theorem dX8_best_45 : decode cX8_best 45 = .ok (.istore 6, 2) := by decide +kernel
theorem dX8_best_47 : decode cX8_best 47 = .ok (.iconst 0, 1) := by decide +kernel
theorem dX8_best_48 : decode cX8_best 48 = .ok (.istore 7, 2) := by decide +kernel
theorem dX8_best_50 : decode cX8_best 50 = .ok (.iload 7, 2) := by decide +kernel
theorem dX8_best_52 : decode cX8_best 52 = .ok (.bipush 10, 2) := by decide +kernel
theorem dX8_best_54 : decode cX8_best 54 = .ok (.if_icmp .ge 21, 3) := by decide +kernel
theorem dX8_best_57 : decode cX8_best 57 = .ok (.iload 6, 2) := by decide +kernel
theorem dX8_best_59 : decode cX8_best 59 = .ok (.iload 5, 2) := by decide +kernel
theorem dX8_best_61 : decode cX8_best 61 = .ok (.iload 7, 2) := by decide +kernel
theorem dX8_best_63 : decode cX8_best 63 = .ok (.ishr, 1) := by decide +kernel
theorem dX8_best_64 : decode cX8_best 64 = .ok (.iconst 1, 1) := by decide +kernel
theorem dX8_best_65 : decode cX8_best 65 = .ok (.iand, 1) := by decide +kernel
theorem dX8_best_66 : decode cX8_best 66 = .ok (.iadd, 1) := by decide +kernel
theorem dX8_best_67 : decode cX8_best 67 = .ok (.istore 6, 2) := by decide +kernel
theorem dX8_best_69 : decode cX8_best 69 = .ok (.iinc 7 1, 3) := by decide +kernel
theorem dX8_best_72 : decode cX8_best 72 = .ok (.goto (-22), 3) := by decide +kernel
theorem dX8_best_75 : decode cX8_best 75 = .ok (.iload 6, 2) := by decide +kernel
theorem dX8_best_77 : decode cX8_best 77 = .ok (.iload_n 1, 1) := by decide +kernel
theorem dX8_best_78 : decode cX8_best 78 = .ok (.if_icmp .ne 24, 3) := by decide +kernel
theorem dX8_best_81 : decode cX8_best 81 = .ok (.aload_n 0, 1) := by decide +kernel
theorem dX8_best_82 : decode cX8_best 82 = .ok (.iload 5, 2) := by decide +kernel
theorem dX8_best_84 : decode cX8_best 84 = .ok (.invokevirtual 167, 3) := by decide +kernel
theorem dX8_best_87 : decode cX8_best 87 = .ok (.lload_n 3, 1) := by decide +kernel
theorem dX8_best_88 : decode cX8_best 88 = .ok (.lcmp, 1) := by decide +kernel
theorem dX8_best_89 : decode cX8_best 89 = .ok (.ifCond .le 13, 3) := by decide +kernel
theorem dX8_best_92 : decode cX8_best 92 = .ok (.aload_n 0, 1) := by decide +kernel
theorem dX8_best_93 : decode cX8_best 93 = .ok (.iload 5, 2) := by decide +kernel
theorem dX8_best_95 : decode cX8_best 95 = .ok (.invokevirtual 167, 3) := by decide +kernel
theorem dX8_best_98 : decode cX8_best 98 = .ok (.lstore_n 3, 1) := by decide +kernel
theorem dX8_best_99 : decode cX8_best 99 = .ok (.iload 5, 2) := by decide +kernel
theorem dX8_best_101 : decode cX8_best 101 = .ok (.istore_n 2, 1) := by decide +kernel
theorem dX8_best_102 : decode cX8_best 102 = .ok (.iinc 5 1, 3) := by decide +kernel
theorem dX8_best_105 : decode cX8_best 105 = .ok (.goto (-72), 3) := by decide +kernel
theorem dX8_best_108 : decode cX8_best 108 = .ok (.iload_n 2, 1) := by decide +kernel
theorem dX8_best_109 : decode cX8_best 109 = .ok (.ireturn, 1) := by decide +kernel
theorem dX8_isPart_0 : decode cX8_isPart 0 = .ok (.iload_n 0, 1) := by decide +kernel
theorem dX8_isPart_1 : decode cX8_isPart 1 = .ok (.i2l, 1) := by decide +kernel
theorem dX8_isPart_2 : decode cX8_isPart 2 = .ok (.ldc2_w 172, 3) := by decide +kernel
theorem dX8_isPart_5 : decode cX8_isPart 5 = .ok (.ldc2_w 174, 3) := by decide +kernel
theorem dX8_isPart_8 : decode cX8_isPart 8 = .ok (.invokestatic 70, 3) := by decide +kernel
theorem dX8_isPart_11 : decode cX8_isPart 11 = .ok (.ireturn, 1) := by decide +kernel
theorem dX8_pair_0 : decode cX8_pair 0 = .ok (.iload_n 1, 1) := by decide +kernel
theorem dX8_pair_1 : decode cX8_pair 1 = .ok (.invokestatic 176, 3) := by decide +kernel
theorem dX8_pair_4 : decode cX8_pair 4 = .ok (.ifCond .eq 25, 3) := by decide +kernel
theorem dX8_pair_7 : decode cX8_pair 7 = .ok (.iload_n 2, 1) := by decide +kernel
theorem dX8_pair_8 : decode cX8_pair 8 = .ok (.invokestatic 176, 3) := by decide +kernel
theorem dX8_pair_11 : decode cX8_pair 11 = .ok (.ifCond .eq 18, 3) := by decide +kernel
theorem dX8_pair_14 : decode cX8_pair 14 = .ok (.iload_n 3, 1) := by decide +kernel
theorem dX8_pair_15 : decode cX8_pair 15 = .ok (.invokestatic 176, 3) := by decide +kernel
theorem dX8_pair_18 : decode cX8_pair 18 = .ok (.ifCond .eq 11, 3) := by decide +kernel
theorem dX8_pair_21 : decode cX8_pair 21 = .ok (.iload 4, 2) := by decide +kernel
theorem dX8_pair_23 : decode cX8_pair 23 = .ok (.invokestatic 176, 3) := by decide +kernel
theorem dX8_pair_26 : decode cX8_pair 26 = .ok (.ifCond .ne 6, 3) := by decide +kernel
theorem dX8_pair_29 : decode cX8_pair 29 = .ok (.bipush (-2), 2) := by decide +kernel
theorem dX8_pair_31 : decode cX8_pair 31 = .ok (.ireturn, 1) := by decide +kernel
theorem dX8_pair_32 : decode cX8_pair 32 = .ok (.aload_n 0, 1) := by decide +kernel
theorem dX8_pair_33 : decode cX8_pair 33 = .ok (.getfield 179, 3) := by decide +kernel
theorem dX8_pair_36 : decode cX8_pair 36 = .ok (.bipush 20, 2) := by decide +kernel
theorem dX8_pair_38 : decode cX8_pair 38 = .ok (.if_icmp .ne 6, 3) := by decide +kernel
theorem dX8_pair_41 : decode cX8_pair 41 = .ok (.bipush (-4), 2) := by decide +kernel
theorem dX8_pair_43 : decode cX8_pair 43 = .ok (.ireturn, 1) := by decide +kernel
theorem dX8_pair_44 : decode cX8_pair 44 = .ok (.aload_n 0, 1) := by decide +kernel
theorem dX8_pair_45 : decode cX8_pair 45 = .ok (.getfield 36, 3) := by decide +kernel
theorem dX8_pair_48 : decode cX8_pair 48 = .ok (.aload_n 0, 1) := by decide +kernel
theorem dX8_pair_49 : decode cX8_pair 49 = .ok (.getfield 179, 3) := by decide +kernel
theorem dX8_pair_52 : decode cX8_pair 52 = .ok (.iload_n 1, 1) := by decide +kernel
theorem dX8_pair_53 : decode cX8_pair 53 = .ok (.iastore, 1) := by decide +kernel
theorem dX8_pair_54 : decode cX8_pair 54 = .ok (.aload_n 0, 1) := by decide +kernel
theorem dX8_pair_55 : decode cX8_pair 55 = .ok (.getfield 39, 3) := by decide +kernel
theorem dX8_pair_58 : decode cX8_pair 58 = .ok (.aload_n 0, 1) := by decide +kernel
theorem dX8_pair_59 : decode cX8_pair 59 = .ok (.getfield 179, 3) := by decide +kernel
theorem dX8_pair_62 : decode cX8_pair 62 = .ok (.iload_n 2, 1) := by decide +kernel
theorem dX8_pair_63 : decode cX8_pair 63 = .ok (.iastore, 1) := by decide +kernel
theorem dX8_pair_64 : decode cX8_pair 64 = .ok (.aload_n 0, 1) := by decide +kernel
theorem dX8_pair_65 : decode cX8_pair 65 = .ok (.getfield 42, 3) := by decide +kernel
theorem dX8_pair_68 : decode cX8_pair 68 = .ok (.aload_n 0, 1) := by decide +kernel
theorem dX8_pair_69 : decode cX8_pair 69 = .ok (.getfield 179, 3) := by decide +kernel
theorem dX8_pair_72 : decode cX8_pair 72 = .ok (.iload_n 3, 1) := by decide +kernel
theorem dX8_pair_73 : decode cX8_pair 73 = .ok (.iastore, 1) := by decide +kernel
theorem dX8_pair_74 : decode cX8_pair 74 = .ok (.aload_n 0, 1) := by decide +kernel
theorem dX8_pair_75 : decode cX8_pair 75 = .ok (.getfield 45, 3) := by decide +kernel
theorem dX8_pair_78 : decode cX8_pair 78 = .ok (.aload_n 0, 1) := by decide +kernel
theorem dX8_pair_79 : decode cX8_pair 79 = .ok (.getfield 179, 3) := by decide +kernel
theorem dX8_pair_82 : decode cX8_pair 82 = .ok (.iload 4, 2) := by decide +kernel
theorem dX8_pair_84 : decode cX8_pair 84 = .ok (.iastore, 1) := by decide +kernel
theorem dX8_pair_85 : decode cX8_pair 85 = .ok (.aload_n 0, 1) := by decide +kernel
theorem dX8_pair_86 : decode cX8_pair 86 = .ok (.dup, 1) := by decide +kernel
theorem dX8_pair_87 : decode cX8_pair 87 = .ok (.getfield 179, 3) := by decide +kernel
theorem dX8_pair_90 : decode cX8_pair 90 = .ok (.iconst 1, 1) := by decide +kernel
theorem dX8_pair_91 : decode cX8_pair 91 = .ok (.iadd, 1) := by decide +kernel
theorem dX8_pair_92 : decode cX8_pair 92 = .ok (.putfield 179, 3) := by decide +kernel
theorem dX8_pair_95 : decode cX8_pair 95 = .ok (.aload_n 0, 1) := by decide +kernel
theorem dX8_pair_96 : decode cX8_pair 96 = .ok (.getfield 179, 3) := by decide +kernel
theorem dX8_pair_99 : decode cX8_pair 99 = .ok (.ireturn, 1) := by decide +kernel
theorem dX8_shut_0 : decode cX8_shut 0 = .ok (.aload_n 0, 1) := by decide +kernel
theorem dX8_shut_1 : decode cX8_shut 1 = .ok (.getfield 179, 3) := by decide +kernel
theorem dX8_shut_4 : decode cX8_shut 4 = .ok (.istore_n 1, 1) := by decide +kernel
theorem dX8_shut_5 : decode cX8_shut 5 = .ok (.aload_n 0, 1) := by decide +kernel
theorem dX8_shut_6 : decode cX8_shut 6 = .ok (.iconst 0, 1) := by decide +kernel
theorem dX8_shut_7 : decode cX8_shut 7 = .ok (.putfield 179, 3) := by decide +kernel
theorem dX8_shut_10 : decode cX8_shut 10 = .ok (.iload_n 1, 1) := by decide +kernel
theorem dX8_shut_11 : decode cX8_shut 11 = .ok (.ireturn, 1) := by decide +kernel
theorem dX8_shift_0 : decode cX8_shift 0 = .ok (.iload_n 3, 1) := by decide +kernel
theorem dX8_shift_1 : decode cX8_shift 1 = .ok (.iconst 1, 1) := by decide +kernel
theorem dX8_shift_2 : decode cX8_shift 2 = .ok (.if_icmp .ne 41, 3) := by decide +kernel
theorem dX8_shift_5 : decode cX8_shift 5 = .ok (.bipush 65, 2) := by decide +kernel
theorem dX8_shift_7 : decode cX8_shift 7 = .ok (.aload_n 0, 1) := by decide +kernel
theorem dX8_shift_8 : decode cX8_shift 8 = .ok (.getfield 42, 3) := by decide +kernel
theorem dX8_shift_11 : decode cX8_shift 11 = .ok (.iload_n 2, 1) := by decide +kernel
theorem dX8_shift_12 : decode cX8_shift 12 = .ok (.iaload, 1) := by decide +kernel
theorem dX8_shift_13 : decode cX8_shift 13 = .ok (.imul, 1) := by decide +kernel
theorem dX8_shift_14 : decode cX8_shift 14 = .ok (.aload_n 0, 1) := by decide +kernel
theorem dX8_shift_15 : decode cX8_shift 15 = .ok (.iload_n 1, 1) := by decide +kernel
theorem dX8_shift_16 : decode cX8_shift 16 = .ok (.invokevirtual 74, 3) := by decide +kernel
theorem dX8_shift_19 : decode cX8_shift 19 = .ok (.aload_n 0, 1) := by decide +kernel
theorem dX8_shift_20 : decode cX8_shift 20 = .ok (.getfield 36, 3) := by decide +kernel
theorem dX8_shift_23 : decode cX8_shift 23 = .ok (.iload_n 2, 1) := by decide +kernel
theorem dX8_shift_24 : decode cX8_shift 24 = .ok (.iaload, 1) := by decide +kernel
theorem dX8_shift_25 : decode cX8_shift 25 = .ok (.imul, 1) := by decide +kernel
theorem dX8_shift_26 : decode cX8_shift 26 = .ok (.aload_n 0, 1) := by decide +kernel
theorem dX8_shift_27 : decode cX8_shift 27 = .ok (.iload_n 1, 1) := by decide +kernel
theorem dX8_shift_28 : decode cX8_shift 28 = .ok (.invokevirtual 78, 3) := by decide +kernel
theorem dX8_shift_31 : decode cX8_shift 31 = .ok (.aload_n 0, 1) := by decide +kernel
theorem dX8_shift_32 : decode cX8_shift 32 = .ok (.getfield 39, 3) := by decide +kernel
theorem dX8_shift_35 : decode cX8_shift 35 = .ok (.iload_n 2, 1) := by decide +kernel
theorem dX8_shift_36 : decode cX8_shift 36 = .ok (.iaload, 1) := by decide +kernel
theorem dX8_shift_37 : decode cX8_shift 37 = .ok (.imul, 1) := by decide +kernel
theorem dX8_shift_38 : decode cX8_shift 38 = .ok (.isub, 1) := by decide +kernel
theorem dX8_shift_39 : decode cX8_shift 39 = .ok (.isub, 1) := by decide +kernel
theorem dX8_shift_40 : decode cX8_shift 40 = .ok (.goto 38, 3) := by decide +kernel
theorem dX8_shift_43 : decode cX8_shift 43 = .ok (.bipush 65, 2) := by decide +kernel
theorem dX8_shift_45 : decode cX8_shift 45 = .ok (.aload_n 0, 1) := by decide +kernel
theorem dX8_shift_46 : decode cX8_shift 46 = .ok (.getfield 45, 3) := by decide +kernel
theorem dX8_shift_49 : decode cX8_shift 49 = .ok (.iload_n 2, 1) := by decide +kernel
theorem dX8_shift_50 : decode cX8_shift 50 = .ok (.iaload, 1) := by decide +kernel
theorem dX8_shift_51 : decode cX8_shift 51 = .ok (.imul, 1) := by decide +kernel
theorem dX8_shift_52 : decode cX8_shift 52 = .ok (.aload_n 0, 1) := by decide +kernel
theorem dX8_shift_53 : decode cX8_shift 53 = .ok (.iload_n 1, 1) := by decide +kernel
theorem dX8_shift_54 : decode cX8_shift 54 = .ok (.invokevirtual 78, 3) := by decide +kernel
theorem dX8_shift_57 : decode cX8_shift 57 = .ok (.aload_n 0, 1) := by decide +kernel
theorem dX8_shift_58 : decode cX8_shift 58 = .ok (.getfield 36, 3) := by decide +kernel
theorem dX8_shift_61 : decode cX8_shift 61 = .ok (.iload_n 2, 1) := by decide +kernel
theorem dX8_shift_62 : decode cX8_shift 62 = .ok (.iaload, 1) := by decide +kernel
theorem dX8_shift_63 : decode cX8_shift 63 = .ok (.imul, 1) := by decide +kernel
theorem dX8_shift_64 : decode cX8_shift 64 = .ok (.aload_n 0, 1) := by decide +kernel
theorem dX8_shift_65 : decode cX8_shift 65 = .ok (.iload_n 1, 1) := by decide +kernel
theorem dX8_shift_66 : decode cX8_shift 66 = .ok (.invokevirtual 74, 3) := by decide +kernel
theorem dX8_shift_69 : decode cX8_shift 69 = .ok (.aload_n 0, 1) := by decide +kernel
theorem dX8_shift_70 : decode cX8_shift 70 = .ok (.getfield 39, 3) := by decide +kernel
theorem dX8_shift_73 : decode cX8_shift 73 = .ok (.iload_n 2, 1) := by decide +kernel
theorem dX8_shift_74 : decode cX8_shift 74 = .ok (.iaload, 1) := by decide +kernel
theorem dX8_shift_75 : decode cX8_shift 75 = .ok (.imul, 1) := by decide +kernel
theorem dX8_shift_76 : decode cX8_shift 76 = .ok (.iadd, 1) := by decide +kernel
theorem dX8_shift_77 : decode cX8_shift 77 = .ok (.isub, 1) := by decide +kernel
theorem dX8_shift_78 : decode cX8_shift 78 = .ok (.ireturn, 1) := by decide +kernel
theorem dX8_isAnswer_0 : decode cX8_isAnswer 0 = .ok (.iconst 1, 1) := by decide +kernel
theorem dX8_isAnswer_1 : decode cX8_isAnswer 1 = .ok (.istore_n 2, 1) := by decide +kernel
theorem dX8_isAnswer_2 : decode cX8_isAnswer 2 = .ok (.iconst 1, 1) := by decide +kernel
theorem dX8_isAnswer_3 : decode cX8_isAnswer 3 = .ok (.istore_n 3, 1) := by decide +kernel
theorem dX8_isAnswer_4 : decode cX8_isAnswer 4 = .ok (.iload_n 3, 1) := by decide +kernel
theorem dX8_isAnswer_5 : decode cX8_isAnswer 5 = .ok (.aload_n 0, 1) := by decide +kernel
theorem dX8_isAnswer_6 : decode cX8_isAnswer 6 = .ok (.getfield 179, 3) := by decide +kernel
theorem dX8_isAnswer_9 : decode cX8_isAnswer 9 = .ok (.if_icmp .ge 53, 3) := by decide +kernel
theorem dX8_isAnswer_12 : decode cX8_isAnswer 12 = .ok (.iload_n 2, 1) := by decide +kernel
theorem dX8_isAnswer_13 : decode cX8_isAnswer 13 = .ok (.ifCond .eq 41, 3) := by decide +kernel
theorem dX8_isAnswer_16 : decode cX8_isAnswer 16 = .ok (.aload_n 0, 1) := by decide +kernel
theorem dX8_isAnswer_17 : decode cX8_isAnswer 17 = .ok (.iload_n 1, 1) := by decide +kernel
theorem dX8_isAnswer_18 : decode cX8_isAnswer 18 = .ok (.iload_n 3, 1) := by decide +kernel
theorem dX8_isAnswer_19 : decode cX8_isAnswer 19 = .ok (.iconst 1, 1) := by decide +kernel
theorem dX8_isAnswer_20 : decode cX8_isAnswer 20 = .ok (.invokevirtual 182, 3) := by decide +kernel
theorem dX8_isAnswer_23 : decode cX8_isAnswer 23 = .ok (.aload_n 0, 1) := by decide +kernel
theorem dX8_isAnswer_24 : decode cX8_isAnswer 24 = .ok (.iload_n 1, 1) := by decide +kernel
theorem dX8_isAnswer_25 : decode cX8_isAnswer 25 = .ok (.iconst 0, 1) := by decide +kernel
theorem dX8_isAnswer_26 : decode cX8_isAnswer 26 = .ok (.iconst 1, 1) := by decide +kernel
theorem dX8_isAnswer_27 : decode cX8_isAnswer 27 = .ok (.invokevirtual 182, 3) := by decide +kernel
theorem dX8_isAnswer_30 : decode cX8_isAnswer 30 = .ok (.if_icmp .ne 24, 3) := by decide +kernel
theorem dX8_isAnswer_33 : decode cX8_isAnswer 33 = .ok (.aload_n 0, 1) := by decide +kernel
theorem dX8_isAnswer_34 : decode cX8_isAnswer 34 = .ok (.iload_n 1, 1) := by decide +kernel
theorem dX8_isAnswer_35 : decode cX8_isAnswer 35 = .ok (.iload_n 3, 1) := by decide +kernel
theorem dX8_isAnswer_36 : decode cX8_isAnswer 36 = .ok (.iconst 2, 1) := by decide +kernel
theorem dX8_isAnswer_37 : decode cX8_isAnswer 37 = .ok (.invokevirtual 182, 3) := by decide +kernel
theorem dX8_isAnswer_40 : decode cX8_isAnswer 40 = .ok (.aload_n 0, 1) := by decide +kernel
theorem dX8_isAnswer_41 : decode cX8_isAnswer 41 = .ok (.iload_n 1, 1) := by decide +kernel
theorem dX8_isAnswer_42 : decode cX8_isAnswer 42 = .ok (.iconst 0, 1) := by decide +kernel
theorem dX8_isAnswer_43 : decode cX8_isAnswer 43 = .ok (.iconst 2, 1) := by decide +kernel
theorem dX8_isAnswer_44 : decode cX8_isAnswer 44 = .ok (.invokevirtual 182, 3) := by decide +kernel
theorem dX8_isAnswer_47 : decode cX8_isAnswer 47 = .ok (.if_icmp .ne 7, 3) := by decide +kernel
theorem dX8_isAnswer_50 : decode cX8_isAnswer 50 = .ok (.iconst 1, 1) := by decide +kernel
theorem dX8_isAnswer_51 : decode cX8_isAnswer 51 = .ok (.goto 4, 3) := by decide +kernel
theorem dX8_isAnswer_54 : decode cX8_isAnswer 54 = .ok (.iconst 0, 1) := by decide +kernel
theorem dX8_isAnswer_55 : decode cX8_isAnswer 55 = .ok (.istore_n 2, 1) := by decide +kernel
theorem dX8_isAnswer_56 : decode cX8_isAnswer 56 = .ok (.iinc 3 1, 3) := by decide +kernel
theorem dX8_isAnswer_59 : decode cX8_isAnswer 59 = .ok (.goto (-55), 3) := by decide +kernel
theorem dX8_isAnswer_62 : decode cX8_isAnswer 62 = .ok (.iload_n 2, 1) := by decide +kernel
theorem dX8_isAnswer_63 : decode cX8_isAnswer 63 = .ok (.ireturn, 1) := by decide +kernel
theorem dX8_answers_0 : decode cX8_answers 0 = .ok (.iconst 0, 1) := by decide +kernel
theorem dX8_answers_1 : decode cX8_answers 1 = .ok (.istore_n 1, 1) := by decide +kernel
theorem dX8_answers_2 : decode cX8_answers 2 = .ok (.iconst 0, 1) := by decide +kernel
theorem dX8_answers_3 : decode cX8_answers 3 = .ok (.istore_n 2, 1) := by decide +kernel
theorem dX8_answers_4 : decode cX8_answers 4 = .ok (.iload_n 2, 1) := by decide +kernel
theorem dX8_answers_5 : decode cX8_answers 5 = .ok (.bipush 36, 2) := by decide +kernel
theorem dX8_answers_7 : decode cX8_answers 7 = .ok (.if_icmp .ge 25, 3) := by decide +kernel
theorem dX8_answers_10 : decode cX8_answers 10 = .ok (.iload_n 1, 1) := by decide +kernel
theorem dX8_answers_11 : decode cX8_answers 11 = .ok (.aload_n 0, 1) := by decide +kernel
theorem dX8_answers_12 : decode cX8_answers 12 = .ok (.iload_n 2, 1) := by decide +kernel
theorem dX8_answers_13 : decode cX8_answers 13 = .ok (.invokevirtual 185, 3) := by decide +kernel
theorem dX8_answers_16 : decode cX8_answers 16 = .ok (.ifCond .eq 7, 3) := by decide +kernel
theorem dX8_answers_19 : decode cX8_answers 19 = .ok (.iconst 1, 1) := by decide +kernel
theorem dX8_answers_20 : decode cX8_answers 20 = .ok (.goto 4, 3) := by decide +kernel
theorem dX8_answers_23 : decode cX8_answers 23 = .ok (.iconst 0, 1) := by decide +kernel
theorem dX8_answers_24 : decode cX8_answers 24 = .ok (.iadd, 1) := by decide +kernel
theorem dX8_answers_25 : decode cX8_answers 25 = .ok (.istore_n 1, 1) := by decide +kernel
theorem dX8_answers_26 : decode cX8_answers 26 = .ok (.iinc 2 1, 3) := by decide +kernel
theorem dX8_answers_29 : decode cX8_answers 29 = .ok (.goto (-25), 3) := by decide +kernel
theorem dX8_answers_32 : decode cX8_answers 32 = .ok (.iload_n 1, 1) := by decide +kernel
theorem dX8_answers_33 : decode cX8_answers 33 = .ok (.ireturn, 1) := by decide +kernel
theorem dX8_answer_0 : decode cX8_answer 0 = .ok (.iload_n 1, 1) := by decide +kernel
theorem dX8_answer_1 : decode cX8_answer 1 = .ok (.i2l, 1) := by decide +kernel
theorem dX8_answer_2 : decode cX8_answer 2 = .ok (.lconst 0, 1) := by decide +kernel
theorem dX8_answer_3 : decode cX8_answer 3 = .ok (.aload_n 0, 1) := by decide +kernel
theorem dX8_answer_4 : decode cX8_answer 4 = .ok (.invokevirtual 188, 3) := by decide +kernel
theorem dX8_answer_7 : decode cX8_answer 7 = .ok (.iconst 1, 1) := by decide +kernel
theorem dX8_answer_8 : decode cX8_answer 8 = .ok (.isub, 1) := by decide +kernel
theorem dX8_answer_9 : decode cX8_answer 9 = .ok (.i2l, 1) := by decide +kernel
theorem dX8_answer_10 : decode cX8_answer 10 = .ok (.invokestatic 70, 3) := by decide +kernel
theorem dX8_answer_13 : decode cX8_answer 13 = .ok (.ifCond .eq 15, 3) := by decide +kernel
theorem dX8_answer_16 : decode cX8_answer 16 = .ok (.iload_n 2, 1) := by decide +kernel
theorem dX8_answer_17 : decode cX8_answer 17 = .ok (.i2l, 1) := by decide +kernel
theorem dX8_answer_18 : decode cX8_answer 18 = .ok (.lconst 0, 1) := by decide +kernel
theorem dX8_answer_19 : decode cX8_answer 19 = .ok (.ldc2_w 81, 3) := by decide +kernel
theorem dX8_answer_22 : decode cX8_answer 22 = .ok (.invokestatic 70, 3) := by decide +kernel
theorem dX8_answer_25 : decode cX8_answer 25 = .ok (.ifCond .ne 6, 3) := by decide +kernel
theorem dX8_answer_28 : decode cX8_answer 28 = .ok (.ldc 101, 2) := by decide +kernel
theorem dX8_answer_30 : decode cX8_answer 30 = .ok (.ireturn, 1) := by decide +kernel
theorem dX8_answer_31 : decode cX8_answer 31 = .ok (.iload_n 2, 1) := by decide +kernel
theorem dX8_answer_32 : decode cX8_answer 32 = .ok (.ifCond .le 13, 3) := by decide +kernel
theorem dX8_answer_35 : decode cX8_answer 35 = .ok (.aload_n 0, 1) := by decide +kernel
theorem dX8_answer_36 : decode cX8_answer 36 = .ok (.getfield 179, 3) := by decide +kernel
theorem dX8_answer_39 : decode cX8_answer 39 = .ok (.ifCond .ne 6, 3) := by decide +kernel
theorem dX8_answer_42 : decode cX8_answer 42 = .ok (.ldc 191, 2) := by decide +kernel
theorem dX8_answer_44 : decode cX8_answer 44 = .ok (.ireturn, 1) := by decide +kernel
theorem dX8_answer_45 : decode cX8_answer 45 = .ok (.iconst (-1), 1) := by decide +kernel
theorem dX8_answer_46 : decode cX8_answer 46 = .ok (.istore_n 3, 1) := by decide +kernel
theorem dX8_answer_47 : decode cX8_answer 47 = .ok (.iload_n 1, 1) := by decide +kernel
theorem dX8_answer_48 : decode cX8_answer 48 = .ok (.istore 4, 2) := by decide +kernel
theorem dX8_answer_50 : decode cX8_answer 50 = .ok (.iload 4, 2) := by decide +kernel
theorem dX8_answer_52 : decode cX8_answer 52 = .ok (.ifCond .lt 26, 3) := by decide +kernel
theorem dX8_answer_55 : decode cX8_answer 55 = .ok (.iinc 3 1, 3) := by decide +kernel
theorem dX8_answer_58 : decode cX8_answer 58 = .ok (.aload_n 0, 1) := by decide +kernel
theorem dX8_answer_59 : decode cX8_answer 59 = .ok (.iload_n 3, 1) := by decide +kernel
theorem dX8_answer_60 : decode cX8_answer 60 = .ok (.invokevirtual 185, 3) := by decide +kernel
theorem dX8_answer_63 : decode cX8_answer 63 = .ok (.ifCond .ne 9, 3) := by decide +kernel
theorem dX8_answer_66 : decode cX8_answer 66 = .ok (.iinc 3 1, 3) := by decide +kernel
theorem dX8_answer_69 : decode cX8_answer 69 = .ok (.goto (-11), 3) := by decide +kernel
theorem dX8_answer_72 : decode cX8_answer 72 = .ok (.iinc 4 (-1), 3) := by decide +kernel
theorem dX8_answer_75 : decode cX8_answer 75 = .ok (.goto (-25), 3) := by decide +kernel
theorem dX8_answer_78 : decode cX8_answer 78 = .ok (.iload_n 2, 1) := by decide +kernel
theorem dX8_answer_79 : decode cX8_answer 79 = .ok (.ifCond .ne 7, 3) := by decide +kernel
theorem dX8_answer_82 : decode cX8_answer 82 = .ok (.iload_n 3, 1) := by decide +kernel
theorem dX8_answer_83 : decode cX8_answer 83 = .ok (.goto 10, 3) := by decide +kernel
theorem dX8_answer_86 : decode cX8_answer 86 = .ok (.aload_n 0, 1) := by decide +kernel
theorem dX8_answer_87 : decode cX8_answer 87 = .ok (.iload_n 3, 1) := by decide +kernel
theorem dX8_answer_88 : decode cX8_answer 88 = .ok (.iconst 0, 1) := by decide +kernel
theorem dX8_answer_89 : decode cX8_answer 89 = .ok (.iload_n 2, 1) := by decide +kernel
theorem dX8_answer_90 : decode cX8_answer 90 = .ok (.invokevirtual 182, 3) := by decide +kernel
theorem dX8_answer_93 : decode cX8_answer 93 = .ok (.ireturn, 1) := by decide +kernel
theorem dX8_limit_0 : decode cX8_limit 0 = .ok (.iload_n 1, 1) := by decide +kernel
theorem dX8_limit_1 : decode cX8_limit 1 = .ok (.i2l, 1) := by decide +kernel
theorem dX8_limit_2 : decode cX8_limit 2 = .ok (.lconst 0, 1) := by decide +kernel
theorem dX8_limit_3 : decode cX8_limit 3 = .ok (.ldc2_w 81, 3) := by decide +kernel
theorem dX8_limit_6 : decode cX8_limit 6 = .ok (.invokestatic 70, 3) := by decide +kernel
theorem dX8_limit_9 : decode cX8_limit 9 = .ok (.ifCond .eq 27, 3) := by decide +kernel
theorem dX8_limit_12 : decode cX8_limit 12 = .ok (.iload_n 2, 1) := by decide +kernel
theorem dX8_limit_13 : decode cX8_limit 13 = .ok (.i2l, 1) := by decide +kernel
theorem dX8_limit_14 : decode cX8_limit 14 = .ok (.lconst 0, 1) := by decide +kernel
theorem dX8_limit_15 : decode cX8_limit 15 = .ok (.ldc2_w 68, 3) := by decide +kernel
theorem dX8_limit_18 : decode cX8_limit 18 = .ok (.invokestatic 70, 3) := by decide +kernel
theorem dX8_limit_21 : decode cX8_limit 21 = .ok (.ifCond .eq 15, 3) := by decide +kernel
theorem dX8_limit_24 : decode cX8_limit 24 = .ok (.iload_n 3, 1) := by decide +kernel
theorem dX8_limit_25 : decode cX8_limit 25 = .ok (.i2l, 1) := by decide +kernel
theorem dX8_limit_26 : decode cX8_limit 26 = .ok (.lconst 0, 1) := by decide +kernel
theorem dX8_limit_27 : decode cX8_limit 27 = .ok (.ldc2_w 68, 3) := by decide +kernel
theorem dX8_limit_30 : decode cX8_limit 30 = .ok (.invokestatic 70, 3) := by decide +kernel
theorem dX8_limit_33 : decode cX8_limit 33 = .ok (.ifCond .ne 6, 3) := by decide +kernel
theorem dX8_limit_36 : decode cX8_limit 36 = .ok (.bipush (-2), 2) := by decide +kernel
theorem dX8_limit_38 : decode cX8_limit 38 = .ok (.ireturn, 1) := by decide +kernel
theorem dX8_limit_39 : decode cX8_limit 39 = .ok (.aload_n 0, 1) := by decide +kernel
theorem dX8_limit_40 : decode cX8_limit 40 = .ok (.getfield 48, 3) := by decide +kernel
theorem dX8_limit_43 : decode cX8_limit 43 = .ok (.iload_n 1, 1) := by decide +kernel
theorem dX8_limit_44 : decode cX8_limit 44 = .ok (.iload_n 2, 1) := by decide +kernel
theorem dX8_limit_45 : decode cX8_limit 45 = .ok (.iastore, 1) := by decide +kernel
theorem dX8_limit_46 : decode cX8_limit 46 = .ok (.aload_n 0, 1) := by decide +kernel
theorem dX8_limit_47 : decode cX8_limit 47 = .ok (.getfield 51, 3) := by decide +kernel
theorem dX8_limit_50 : decode cX8_limit 50 = .ok (.iload_n 1, 1) := by decide +kernel
theorem dX8_limit_51 : decode cX8_limit 51 = .ok (.iload_n 3, 1) := by decide +kernel
theorem dX8_limit_52 : decode cX8_limit 52 = .ok (.iastore, 1) := by decide +kernel
theorem dX8_limit_53 : decode cX8_limit 53 = .ok (.iconst 1, 1) := by decide +kernel
theorem dX8_limit_54 : decode cX8_limit 54 = .ok (.ireturn, 1) := by decide +kernel
theorem dX8_may_0 : decode cX8_may 0 = .ok (.iload_n 2, 1) := by decide +kernel
theorem dX8_may_1 : decode cX8_may 1 = .ok (.aload_n 0, 1) := by decide +kernel
theorem dX8_may_2 : decode cX8_may 2 = .ok (.getfield 48, 3) := by decide +kernel
theorem dX8_may_5 : decode cX8_may 5 = .ok (.iload_n 1, 1) := by decide +kernel
theorem dX8_may_6 : decode cX8_may 6 = .ok (.iaload, 1) := by decide +kernel
theorem dX8_may_7 : decode cX8_may 7 = .ok (.isub, 1) := by decide +kernel
theorem dX8_may_8 : decode cX8_may 8 = .ok (.bipush 36, 2) := by decide +kernel
theorem dX8_may_10 : decode cX8_may 10 = .ok (.iadd, 1) := by decide +kernel
theorem dX8_may_11 : decode cX8_may 11 = .ok (.bipush 36, 2) := by decide +kernel
theorem dX8_may_13 : decode cX8_may 13 = .ok (.irem, 1) := by decide +kernel
theorem dX8_may_14 : decode cX8_may 14 = .ok (.aload_n 0, 1) := by decide +kernel
theorem dX8_may_15 : decode cX8_may 15 = .ok (.getfield 51, 3) := by decide +kernel
theorem dX8_may_18 : decode cX8_may 18 = .ok (.iload_n 1, 1) := by decide +kernel
theorem dX8_may_19 : decode cX8_may 19 = .ok (.iaload, 1) := by decide +kernel
theorem dX8_may_20 : decode cX8_may 20 = .ok (.if_icmp .gt 7, 3) := by decide +kernel
theorem dX8_may_23 : decode cX8_may 23 = .ok (.iconst 1, 1) := by decide +kernel
theorem dX8_may_24 : decode cX8_may 24 = .ok (.goto 4, 3) := by decide +kernel
theorem dX8_may_27 : decode cX8_may 27 = .ok (.iconst 0, 1) := by decide +kernel
theorem dX8_may_28 : decode cX8_may 28 = .ok (.ireturn, 1) := by decide +kernel
theorem dX8_findNearest_0 : decode cX8_findNearest 0 = .ok (.aload_n 0, 1) := by decide +kernel
theorem dX8_findNearest_1 : decode cX8_findNearest 1 = .ok (.ldc2_w 192, 3) := by decide +kernel
theorem dX8_findNearest_4 : decode cX8_findNearest 4 = .ok (.putfield 194, 3) := by decide +kernel
theorem dX8_findNearest_7 : decode cX8_findNearest 7 = .ok (.iconst 0, 1) := by decide +kernel
theorem dX8_findNearest_8 : decode cX8_findNearest 8 = .ok (.istore_n 3, 1) := by decide +kernel
theorem dX8_findNearest_9 : decode cX8_findNearest 9 = .ok (.iload_n 3, 1) := by decide +kernel
theorem dX8_findNearest_10 : decode cX8_findNearest 10 = .ok (.bipush 36, 2) := by decide +kernel
theorem dX8_findNearest_12 : decode cX8_findNearest 12 = .ok (.if_icmp .ge 236, 3) := by decide +kernel
theorem dX8_findNearest_15 : decode cX8_findNearest 15 = .ok (.iconst 0, 1) := by decide +kernel
theorem dX8_findNearest_16 : decode cX8_findNearest 16 = .ok (.istore 4, 2) := by decide +kernel
theorem dX8_findNearest_18 : decode cX8_findNearest 18 = .ok (.iload 4, 2) := by decide +kernel
theorem dX8_findNearest_20 : decode cX8_findNearest 20 = .ok (.bipush 36, 2) := by decide +kernel
theorem dX8_findNearest_22 : decode cX8_findNearest 22 = .ok (.if_icmp .ge 220, 3) := by decide +kernel
theorem dX8_findNearest_25 : decode cX8_findNearest 25 = .ok (.aload_n 0, 1) := by decide +kernel
theorem dX8_findNearest_26 : decode cX8_findNearest 26 = .ok (.iconst 0, 1) := by decide +kernel
theorem dX8_findNearest_27 : decode cX8_findNearest 27 = .ok (.iload_n 3, 1) := by decide +kernel
theorem dX8_findNearest_28 : decode cX8_findNearest 28 = .ok (.invokevirtual 198, 3) := by decide +kernel
theorem dX8_findNearest_31 : decode cX8_findNearest 31 = .ok (.ifCond .eq 211, 3) := by decide +kernel
theorem dX8_findNearest_34 : decode cX8_findNearest 34 = .ok (.iconst 0, 1) := by decide +kernel
theorem dX8_findNearest_35 : decode cX8_findNearest 35 = .ok (.istore 5, 2) := by decide +kernel
theorem dX8_findNearest_37 : decode cX8_findNearest 37 = .ok (.iload 5, 2) := by decide +kernel
theorem dX8_findNearest_39 : decode cX8_findNearest 39 = .ok (.bipush 36, 2) := by decide +kernel
theorem dX8_findNearest_41 : decode cX8_findNearest 41 = .ok (.if_icmp .ge 195, 3) := by decide +kernel
theorem dX8_findNearest_44 : decode cX8_findNearest 44 = .ok (.aload_n 0, 1) := by decide +kernel
theorem dX8_findNearest_45 : decode cX8_findNearest 45 = .ok (.iconst 1, 1) := by decide +kernel
theorem dX8_findNearest_46 : decode cX8_findNearest 46 = .ok (.iload 4, 2) := by decide +kernel
theorem dX8_findNearest_48 : decode cX8_findNearest 48 = .ok (.invokevirtual 198, 3) := by decide +kernel
theorem dX8_findNearest_51 : decode cX8_findNearest 51 = .ok (.ifCond .eq 185, 3) := by decide +kernel
theorem dX8_findNearest_54 : decode cX8_findNearest 54 = .ok (.aload_n 0, 1) := by decide +kernel
theorem dX8_findNearest_55 : decode cX8_findNearest 55 = .ok (.iconst 2, 1) := by decide +kernel
theorem dX8_findNearest_56 : decode cX8_findNearest 56 = .ok (.iload 5, 2) := by decide +kernel
theorem dX8_findNearest_58 : decode cX8_findNearest 58 = .ok (.invokevirtual 198, 3) := by decide +kernel
theorem dX8_findNearest_61 : decode cX8_findNearest 61 = .ok (.ifCond .eq 169, 3) := by decide +kernel
theorem dX8_findNearest_64 : decode cX8_findNearest 64 = .ok (.aload_n 0, 1) := by decide +kernel
theorem dX8_findNearest_65 : decode cX8_findNearest 65 = .ok (.getfield 13, 3) := by decide +kernel
theorem dX8_findNearest_68 : decode cX8_findNearest 68 = .ok (.iconst 0, 1) := by decide +kernel
theorem dX8_findNearest_69 : decode cX8_findNearest 69 = .ok (.iaload, 1) := by decide +kernel
theorem dX8_findNearest_70 : decode cX8_findNearest 70 = .ok (.aload_n 0, 1) := by decide +kernel
theorem dX8_findNearest_71 : decode cX8_findNearest 71 = .ok (.iload_n 3, 1) := by decide +kernel
theorem dX8_findNearest_72 : decode cX8_findNearest 72 = .ok (.invokevirtual 74, 3) := by decide +kernel
theorem dX8_findNearest_75 : decode cX8_findNearest 75 = .ok (.imul, 1) := by decide +kernel
theorem dX8_findNearest_76 : decode cX8_findNearest 76 = .ok (.aload_n 0, 1) := by decide +kernel
theorem dX8_findNearest_77 : decode cX8_findNearest 77 = .ok (.getfield 13, 3) := by decide +kernel
theorem dX8_findNearest_80 : decode cX8_findNearest 80 = .ok (.iconst 1, 1) := by decide +kernel
theorem dX8_findNearest_81 : decode cX8_findNearest 81 = .ok (.iaload, 1) := by decide +kernel
theorem dX8_findNearest_82 : decode cX8_findNearest 82 = .ok (.aload_n 0, 1) := by decide +kernel
theorem dX8_findNearest_83 : decode cX8_findNearest 83 = .ok (.iload_n 3, 1) := by decide +kernel
theorem dX8_findNearest_84 : decode cX8_findNearest 84 = .ok (.iload 4, 2) := by decide +kernel
theorem dX8_findNearest_86 : decode cX8_findNearest 86 = .ok (.iadd, 1) := by decide +kernel
theorem dX8_findNearest_87 : decode cX8_findNearest 87 = .ok (.invokevirtual 74, 3) := by decide +kernel
theorem dX8_findNearest_90 : decode cX8_findNearest 90 = .ok (.imul, 1) := by decide +kernel
theorem dX8_findNearest_91 : decode cX8_findNearest 91 = .ok (.iadd, 1) := by decide +kernel
theorem dX8_findNearest_92 : decode cX8_findNearest 92 = .ok (.aload_n 0, 1) := by decide +kernel
theorem dX8_findNearest_93 : decode cX8_findNearest 93 = .ok (.getfield 13, 3) := by decide +kernel
theorem dX8_findNearest_96 : decode cX8_findNearest 96 = .ok (.iconst 2, 1) := by decide +kernel
theorem dX8_findNearest_97 : decode cX8_findNearest 97 = .ok (.iaload, 1) := by decide +kernel
theorem dX8_findNearest_98 : decode cX8_findNearest 98 = .ok (.aload_n 0, 1) := by decide +kernel
theorem dX8_findNearest_99 : decode cX8_findNearest 99 = .ok (.iload_n 3, 1) := by decide +kernel
theorem dX8_findNearest_100 : decode cX8_findNearest 100 = .ok (.iload 4, 2) := by decide +kernel
theorem dX8_findNearest_102 : decode cX8_findNearest 102 = .ok (.iadd, 1) := by decide +kernel
theorem dX8_findNearest_103 : decode cX8_findNearest 103 = .ok (.iload 5, 2) := by decide +kernel
theorem dX8_findNearest_105 : decode cX8_findNearest 105 = .ok (.iadd, 1) := by decide +kernel
theorem dX8_findNearest_106 : decode cX8_findNearest 106 = .ok (.invokevirtual 74, 3) := by decide +kernel
theorem dX8_findNearest_109 : decode cX8_findNearest 109 = .ok (.imul, 1) := by decide +kernel
theorem dX8_findNearest_110 : decode cX8_findNearest 110 = .ok (.iadd, 1) := by decide +kernel
theorem dX8_findNearest_111 : decode cX8_findNearest 111 = .ok (.bipush 65, 2) := by decide +kernel
theorem dX8_findNearest_113 : decode cX8_findNearest 113 = .ok (.iload_n 1, 1) := by decide +kernel
theorem dX8_findNearest_114 : decode cX8_findNearest 114 = .ok (.imul, 1) := by decide +kernel
theorem dX8_findNearest_115 : decode cX8_findNearest 115 = .ok (.isub, 1) := by decide +kernel
theorem dX8_findNearest_116 : decode cX8_findNearest 116 = .ok (.i2l, 1) := by decide +kernel
theorem dX8_findNearest_117 : decode cX8_findNearest 117 = .ok (.lstore 6, 2) := by decide +kernel
theorem dX8_findNearest_119 : decode cX8_findNearest 119 = .ok (.aload_n 0, 1) := by decide +kernel
theorem dX8_findNearest_120 : decode cX8_findNearest 120 = .ok (.getfield 13, 3) := by decide +kernel
theorem dX8_findNearest_123 : decode cX8_findNearest 123 = .ok (.iconst 0, 1) := by decide +kernel
theorem dX8_findNearest_124 : decode cX8_findNearest 124 = .ok (.iaload, 1) := by decide +kernel
theorem dX8_findNearest_125 : decode cX8_findNearest 125 = .ok (.aload_n 0, 1) := by decide +kernel
theorem dX8_findNearest_126 : decode cX8_findNearest 126 = .ok (.iload_n 3, 1) := by decide +kernel
theorem dX8_findNearest_127 : decode cX8_findNearest 127 = .ok (.invokevirtual 78, 3) := by decide +kernel
theorem dX8_findNearest_130 : decode cX8_findNearest 130 = .ok (.imul, 1) := by decide +kernel
theorem dX8_findNearest_131 : decode cX8_findNearest 131 = .ok (.aload_n 0, 1) := by decide +kernel
theorem dX8_findNearest_132 : decode cX8_findNearest 132 = .ok (.getfield 13, 3) := by decide +kernel
theorem dX8_findNearest_135 : decode cX8_findNearest 135 = .ok (.iconst 1, 1) := by decide +kernel
theorem dX8_findNearest_136 : decode cX8_findNearest 136 = .ok (.iaload, 1) := by decide +kernel
theorem dX8_findNearest_137 : decode cX8_findNearest 137 = .ok (.aload_n 0, 1) := by decide +kernel
theorem dX8_findNearest_138 : decode cX8_findNearest 138 = .ok (.iload_n 3, 1) := by decide +kernel
theorem dX8_findNearest_139 : decode cX8_findNearest 139 = .ok (.iload 4, 2) := by decide +kernel
theorem dX8_findNearest_141 : decode cX8_findNearest 141 = .ok (.iadd, 1) := by decide +kernel
theorem dX8_findNearest_142 : decode cX8_findNearest 142 = .ok (.invokevirtual 78, 3) := by decide +kernel
theorem dX8_findNearest_145 : decode cX8_findNearest 145 = .ok (.imul, 1) := by decide +kernel
theorem dX8_findNearest_146 : decode cX8_findNearest 146 = .ok (.iadd, 1) := by decide +kernel
theorem dX8_findNearest_147 : decode cX8_findNearest 147 = .ok (.aload_n 0, 1) := by decide +kernel
theorem dX8_findNearest_148 : decode cX8_findNearest 148 = .ok (.getfield 13, 3) := by decide +kernel
theorem dX8_findNearest_151 : decode cX8_findNearest 151 = .ok (.iconst 2, 1) := by decide +kernel
theorem dX8_findNearest_152 : decode cX8_findNearest 152 = .ok (.iaload, 1) := by decide +kernel
theorem dX8_findNearest_153 : decode cX8_findNearest 153 = .ok (.aload_n 0, 1) := by decide +kernel
theorem dX8_findNearest_154 : decode cX8_findNearest 154 = .ok (.iload_n 3, 1) := by decide +kernel
theorem dX8_findNearest_155 : decode cX8_findNearest 155 = .ok (.iload 4, 2) := by decide +kernel
theorem dX8_findNearest_157 : decode cX8_findNearest 157 = .ok (.iadd, 1) := by decide +kernel
theorem dX8_findNearest_158 : decode cX8_findNearest 158 = .ok (.iload 5, 2) := by decide +kernel
theorem dX8_findNearest_160 : decode cX8_findNearest 160 = .ok (.iadd, 1) := by decide +kernel
theorem dX8_findNearest_161 : decode cX8_findNearest 161 = .ok (.invokevirtual 78, 3) := by decide +kernel
theorem dX8_findNearest_164 : decode cX8_findNearest 164 = .ok (.imul, 1) := by decide +kernel
theorem dX8_findNearest_165 : decode cX8_findNearest 165 = .ok (.iadd, 1) := by decide +kernel
theorem dX8_findNearest_166 : decode cX8_findNearest 166 = .ok (.bipush 65, 2) := by decide +kernel
theorem dX8_findNearest_168 : decode cX8_findNearest 168 = .ok (.iload_n 2, 1) := by decide +kernel
theorem dX8_findNearest_169 : decode cX8_findNearest 169 = .ok (.imul, 1) := by decide +kernel
theorem dX8_findNearest_170 : decode cX8_findNearest 170 = .ok (.isub, 1) := by decide +kernel
theorem dX8_findNearest_171 : decode cX8_findNearest 171 = .ok (.i2l, 1) := by decide +kernel
theorem dX8_findNearest_172 : decode cX8_findNearest 172 = .ok (.lstore 8, 2) := by decide +kernel
theorem dX8_findNearest_174 : decode cX8_findNearest 174 = .ok (.lload 6, 2) := by decide +kernel
theorem dX8_findNearest_176 : decode cX8_findNearest 176 = .ok (.lload 6, 2) := by decide +kernel
theorem dX8_findNearest_178 : decode cX8_findNearest 178 = .ok (.lmul, 1) := by decide +kernel
theorem dX8_findNearest_179 : decode cX8_findNearest 179 = .ok (.lload 8, 2) := by decide +kernel
theorem dX8_findNearest_181 : decode cX8_findNearest 181 = .ok (.lload 8, 2) := by decide +kernel
theorem dX8_findNearest_183 : decode cX8_findNearest 183 = .ok (.lmul, 1) := by decide +kernel
theorem dX8_findNearest_184 : decode cX8_findNearest 184 = .ok (.ladd, 1) := by decide +kernel
theorem dX8_findNearest_185 : decode cX8_findNearest 185 = .ok (.lstore 10, 2) := by decide +kernel
theorem dX8_findNearest_187 : decode cX8_findNearest 187 = .ok (.aload_n 0, 1) := by decide +kernel
theorem dX8_findNearest_188 : decode cX8_findNearest 188 = .ok (.getfield 194, 3) := by decide +kernel
theorem dX8_findNearest_191 : decode cX8_findNearest 191 = .ok (.lconst 0, 1) := by decide +kernel
theorem dX8_findNearest_192 : decode cX8_findNearest 192 = .ok (.lcmp, 1) := by decide +kernel
theorem dX8_findNearest_193 : decode cX8_findNearest 193 = .ok (.ifCond .lt 13, 3) := by decide +kernel
theorem dX8_findNearest_196 : decode cX8_findNearest 196 = .ok (.lload 10, 2) := by decide +kernel
theorem dX8_findNearest_198 : decode cX8_findNearest 198 = .ok (.aload_n 0, 1) := by decide +kernel
theorem dX8_findNearest_199 : decode cX8_findNearest 199 = .ok (.getfield 194, 3) := by decide +kernel
theorem dX8_findNearest_202 : decode cX8_findNearest 202 = .ok (.lcmp, 1) := by decide +kernel
theorem dX8_findNearest_203 : decode cX8_findNearest 203 = .ok (.ifCond .ge 27, 3) := by decide +kernel
theorem dX8_findNearest_206 : decode cX8_findNearest 206 = .ok (.aload_n 0, 1) := by decide +kernel
theorem dX8_findNearest_207 : decode cX8_findNearest 207 = .ok (.lload 10, 2) := by decide +kernel
theorem dX8_findNearest_209 : decode cX8_findNearest 209 = .ok (.putfield 194, 3) := by decide +kernel
theorem dX8_findNearest_212 : decode cX8_findNearest 212 = .ok (.aload_n 0, 1) := by decide +kernel
theorem dX8_findNearest_213 : decode cX8_findNearest 213 = .ok (.sipush 10000, 3) := by decide +kernel
theorem dX8_findNearest_216 : decode cX8_findNearest 216 = .ok (.iload_n 3, 1) := by decide +kernel
theorem dX8_findNearest_217 : decode cX8_findNearest 217 = .ok (.imul, 1) := by decide +kernel
theorem dX8_findNearest_218 : decode cX8_findNearest 218 = .ok (.bipush 100, 2) := by decide +kernel
theorem dX8_findNearest_220 : decode cX8_findNearest 220 = .ok (.iload 4, 2) := by decide +kernel
theorem dX8_findNearest_222 : decode cX8_findNearest 222 = .ok (.imul, 1) := by decide +kernel
theorem dX8_findNearest_223 : decode cX8_findNearest 223 = .ok (.iadd, 1) := by decide +kernel
theorem dX8_findNearest_224 : decode cX8_findNearest 224 = .ok (.iload 5, 2) := by decide +kernel
theorem dX8_findNearest_226 : decode cX8_findNearest 226 = .ok (.iadd, 1) := by decide +kernel
theorem dX8_findNearest_227 : decode cX8_findNearest 227 = .ok (.putfield 201, 3) := by decide +kernel
theorem dX8_findNearest_230 : decode cX8_findNearest 230 = .ok (.iinc 5 1, 3) := by decide +kernel
theorem dX8_findNearest_233 : decode cX8_findNearest 233 = .ok (.goto (-196), 3) := by decide +kernel
theorem dX8_findNearest_236 : decode cX8_findNearest 236 = .ok (.iinc 4 1, 3) := by decide +kernel
theorem dX8_findNearest_239 : decode cX8_findNearest 239 = .ok (.goto (-221), 3) := by decide +kernel
theorem dX8_findNearest_242 : decode cX8_findNearest 242 = .ok (.iinc 3 1, 3) := by decide +kernel
theorem dX8_findNearest_245 : decode cX8_findNearest 245 = .ok (.goto (-236), 3) := by decide +kernel
theorem dX8_findNearest_248 : decode cX8_findNearest 248 = .ok (.return_, 1) := by decide +kernel
theorem dX8_isPlace_0 : decode cX8_isPlace 0 = .ok (.iload_n 0, 1) := by decide +kernel
theorem dX8_isPlace_1 : decode cX8_isPlace 1 = .ok (.i2l, 1) := by decide +kernel
theorem dX8_isPlace_2 : decode cX8_isPlace 2 = .ok (.ldc2_w 204, 3) := by decide +kernel
theorem dX8_isPlace_5 : decode cX8_isPlace 5 = .ok (.ldc2_w 206, 3) := by decide +kernel
theorem dX8_isPlace_8 : decode cX8_isPlace 8 = .ok (.invokestatic 70, 3) := by decide +kernel
theorem dX8_isPlace_11 : decode cX8_isPlace 11 = .ok (.ifCond .eq 21, 3) := by decide +kernel
theorem dX8_isPlace_14 : decode cX8_isPlace 14 = .ok (.iload_n 1, 1) := by decide +kernel
theorem dX8_isPlace_15 : decode cX8_isPlace 15 = .ok (.i2l, 1) := by decide +kernel
theorem dX8_isPlace_16 : decode cX8_isPlace 16 = .ok (.ldc2_w 204, 3) := by decide +kernel
theorem dX8_isPlace_19 : decode cX8_isPlace 19 = .ok (.ldc2_w 206, 3) := by decide +kernel
theorem dX8_isPlace_22 : decode cX8_isPlace 22 = .ok (.invokestatic 70, 3) := by decide +kernel
theorem dX8_isPlace_25 : decode cX8_isPlace 25 = .ok (.ifCond .eq 7, 3) := by decide +kernel
theorem dX8_isPlace_28 : decode cX8_isPlace 28 = .ok (.iconst 1, 1) := by decide +kernel
theorem dX8_isPlace_29 : decode cX8_isPlace 29 = .ok (.goto 4, 3) := by decide +kernel
theorem dX8_isPlace_32 : decode cX8_isPlace 32 = .ok (.iconst 0, 1) := by decide +kernel
theorem dX8_isPlace_33 : decode cX8_isPlace 33 = .ok (.ireturn, 1) := by decide +kernel
theorem dX8_nearest_0 : decode cX8_nearest 0 = .ok (.iload_n 1, 1) := by decide +kernel
theorem dX8_nearest_1 : decode cX8_nearest 1 = .ok (.iload_n 2, 1) := by decide +kernel
theorem dX8_nearest_2 : decode cX8_nearest 2 = .ok (.invokestatic 208, 3) := by decide +kernel
theorem dX8_nearest_5 : decode cX8_nearest 5 = .ok (.ifCond .ne 6, 3) := by decide +kernel
theorem dX8_nearest_8 : decode cX8_nearest 8 = .ok (.bipush (-2), 2) := by decide +kernel
theorem dX8_nearest_10 : decode cX8_nearest 10 = .ok (.ireturn, 1) := by decide +kernel
theorem dX8_nearest_11 : decode cX8_nearest 11 = .ok (.aload_n 0, 1) := by decide +kernel
theorem dX8_nearest_12 : decode cX8_nearest 12 = .ok (.iload_n 1, 1) := by decide +kernel
theorem dX8_nearest_13 : decode cX8_nearest 13 = .ok (.iload_n 2, 1) := by decide +kernel
theorem dX8_nearest_14 : decode cX8_nearest 14 = .ok (.invokevirtual 211, 3) := by decide +kernel
theorem dX8_nearest_17 : decode cX8_nearest 17 = .ok (.aload_n 0, 1) := by decide +kernel
theorem dX8_nearest_18 : decode cX8_nearest 18 = .ok (.getfield 201, 3) := by decide +kernel
theorem dX8_nearest_21 : decode cX8_nearest 21 = .ok (.ireturn, 1) := by decide +kernel
theorem dX8_near_0 : decode cX8_near 0 = .ok (.iload_n 1, 1) := by decide +kernel
theorem dX8_near_1 : decode cX8_near 1 = .ok (.iload_n 2, 1) := by decide +kernel
theorem dX8_near_2 : decode cX8_near 2 = .ok (.invokestatic 208, 3) := by decide +kernel
theorem dX8_near_5 : decode cX8_near 5 = .ok (.ifCond .ne 9, 3) := by decide +kernel
theorem dX8_near_8 : decode cX8_near 8 = .ok (.bipush (-2), 2) := by decide +kernel
theorem dX8_near_10 : decode cX8_near 10 = .ok (.invokestatic 125, 3) := by decide +kernel
theorem dX8_near_13 : decode cX8_near 13 = .ok (.lreturn, 1) := by decide +kernel
theorem dX8_near_14 : decode cX8_near 14 = .ok (.aload_n 0, 1) := by decide +kernel
theorem dX8_near_15 : decode cX8_near 15 = .ok (.iload_n 1, 1) := by decide +kernel
theorem dX8_near_16 : decode cX8_near 16 = .ok (.iload_n 2, 1) := by decide +kernel
theorem dX8_near_17 : decode cX8_near 17 = .ok (.invokevirtual 211, 3) := by decide +kernel
theorem dX8_near_20 : decode cX8_near 20 = .ok (.aload_n 0, 1) := by decide +kernel
theorem dX8_near_21 : decode cX8_near 21 = .ok (.getfield 194, 3) := by decide +kernel
theorem dX8_near_24 : decode cX8_near 24 = .ok (.lreturn, 1) := by decide +kernel
theorem dX8_falseShare_0 : decode cX8_falseShare 0 = .ok (.lconst 1, 1) := by decide +kernel
theorem dX8_falseShare_1 : decode cX8_falseShare 1 = .ok (.iload_n 0, 1) := by decide +kernel
theorem dX8_falseShare_2 : decode cX8_falseShare 2 = .ok (.lshl, 1) := by decide +kernel
theorem dX8_falseShare_3 : decode cX8_falseShare 3 = .ok (.lstore_n 2, 1) := by decide +kernel
theorem dX8_falseShare_4 : decode cX8_falseShare 4 = .ok (.lconst 0, 1) := by decide +kernel
theorem dX8_falseShare_5 : decode cX8_falseShare 5 = .ok (.lstore 4, 2) := by decide +kernel
theorem dX8_falseShare_7 : decode cX8_falseShare 7 = .ok (.lconst 1, 1) := by decide +kernel
theorem dX8_falseShare_8 : decode cX8_falseShare 8 = .ok (.lstore 6, 2) := by decide +kernel
theorem dX8_falseShare_10 : decode cX8_falseShare 10 = .ok (.iconst 0, 1) := by decide +kernel
theorem dX8_falseShare_11 : decode cX8_falseShare 11 = .ok (.istore 8, 2) := by decide +kernel
theorem dX8_falseShare_13 : decode cX8_falseShare 13 = .ok (.iload 8, 2) := by decide +kernel
theorem dX8_falseShare_15 : decode cX8_falseShare 15 = .ok (.iload_n 1, 1) := by decide +kernel
theorem dX8_falseShare_16 : decode cX8_falseShare 16 = .ok (.if_icmp .gt 36, 3) := by decide +kernel
theorem dX8_falseShare_19 : decode cX8_falseShare 19 = .ok (.lload 4, 2) := by decide +kernel
theorem dX8_falseShare_21 : decode cX8_falseShare 21 = .ok (.ldc2_w 81, 3) := by decide +kernel
theorem dX8_falseShare_24 : decode cX8_falseShare 24 = .ok (.lload 6, 2) := by decide +kernel
theorem dX8_falseShare_26 : decode cX8_falseShare 26 = .ok (.lmul, 1) := by decide +kernel
theorem dX8_falseShare_27 : decode cX8_falseShare 27 = .ok (.ladd, 1) := by decide +kernel
theorem dX8_falseShare_28 : decode cX8_falseShare 28 = .ok (.lstore 4, 2) := by decide +kernel
theorem dX8_falseShare_30 : decode cX8_falseShare 30 = .ok (.lload 6, 2) := by decide +kernel
theorem dX8_falseShare_32 : decode cX8_falseShare 32 = .ok (.iload_n 0, 1) := by decide +kernel
theorem dX8_falseShare_33 : decode cX8_falseShare 33 = .ok (.iload 8, 2) := by decide +kernel
theorem dX8_falseShare_35 : decode cX8_falseShare 35 = .ok (.isub, 1) := by decide +kernel
theorem dX8_falseShare_36 : decode cX8_falseShare 36 = .ok (.i2l, 1) := by decide +kernel
theorem dX8_falseShare_37 : decode cX8_falseShare 37 = .ok (.lmul, 1) := by decide +kernel
theorem dX8_falseShare_38 : decode cX8_falseShare 38 = .ok (.iload 8, 2) := by decide +kernel
theorem dX8_falseShare_40 : decode cX8_falseShare 40 = .ok (.iconst 1, 1) := by decide +kernel
theorem dX8_falseShare_41 : decode cX8_falseShare 41 = .ok (.iadd, 1) := by decide +kernel
theorem dX8_falseShare_42 : decode cX8_falseShare 42 = .ok (.i2l, 1) := by decide +kernel
theorem dX8_falseShare_43 : decode cX8_falseShare 43 = .ok (.ldiv, 1) := by decide +kernel
theorem dX8_falseShare_44 : decode cX8_falseShare 44 = .ok (.lstore 6, 2) := by decide +kernel
theorem dX8_falseShare_46 : decode cX8_falseShare 46 = .ok (.iinc 8 1, 3) := by decide +kernel
theorem dX8_falseShare_49 : decode cX8_falseShare 49 = .ok (.goto (-36), 3) := by decide +kernel
theorem dX8_falseShare_52 : decode cX8_falseShare 52 = .ok (.lload 4, 2) := by decide +kernel
theorem dX8_falseShare_54 : decode cX8_falseShare 54 = .ok (.lload_n 2, 1) := by decide +kernel
theorem dX8_falseShare_55 : decode cX8_falseShare 55 = .ok (.lcmp, 1) := by decide +kernel
theorem dX8_falseShare_56 : decode cX8_falseShare 56 = .ok (.ifCond .le 7, 3) := by decide +kernel
theorem dX8_falseShare_59 : decode cX8_falseShare 59 = .ok (.lload_n 2, 1) := by decide +kernel
theorem dX8_falseShare_60 : decode cX8_falseShare 60 = .ok (.goto 5, 3) := by decide +kernel
theorem dX8_falseShare_63 : decode cX8_falseShare 63 = .ok (.lload 4, 2) := by decide +kernel
theorem dX8_falseShare_65 : decode cX8_falseShare 65 = .ok (.lstore 4, 2) := by decide +kernel
theorem dX8_falseShare_67 : decode cX8_falseShare 67 = .ok (.lload 4, 2) := by decide +kernel
theorem dX8_falseShare_69 : decode cX8_falseShare 69 = .ok (.lload_n 2, 1) := by decide +kernel
theorem dX8_falseShare_70 : decode cX8_falseShare 70 = .ok (.ldiv, 1) := by decide +kernel
theorem dX8_falseShare_71 : decode cX8_falseShare 71 = .ok (.lstore 8, 2) := by decide +kernel
theorem dX8_falseShare_73 : decode cX8_falseShare 73 = .ok (.lload 4, 2) := by decide +kernel
theorem dX8_falseShare_75 : decode cX8_falseShare 75 = .ok (.lload_n 2, 1) := by decide +kernel
theorem dX8_falseShare_76 : decode cX8_falseShare 76 = .ok (.lrem, 1) := by decide +kernel
theorem dX8_falseShare_77 : decode cX8_falseShare 77 = .ok (.lstore 10, 2) := by decide +kernel
theorem dX8_falseShare_79 : decode cX8_falseShare 79 = .ok (.iconst 0, 1) := by decide +kernel
theorem dX8_falseShare_80 : decode cX8_falseShare 80 = .ok (.istore 12, 2) := by decide +kernel
theorem dX8_falseShare_82 : decode cX8_falseShare 82 = .ok (.iload 12, 2) := by decide +kernel
theorem dX8_falseShare_84 : decode cX8_falseShare 84 = .ok (.bipush 6, 2) := by decide +kernel
theorem dX8_falseShare_86 : decode cX8_falseShare 86 = .ok (.if_icmp .ge 36, 3) := by decide +kernel
theorem dX8_falseShare_89 : decode cX8_falseShare 89 = .ok (.ldc2_w 215, 3) := by decide +kernel
theorem dX8_falseShare_92 : decode cX8_falseShare 92 = .ok (.lload 10, 2) := by decide +kernel
theorem dX8_falseShare_94 : decode cX8_falseShare 94 = .ok (.lmul, 1) := by decide +kernel
theorem dX8_falseShare_95 : decode cX8_falseShare 95 = .ok (.lstore 10, 2) := by decide +kernel
theorem dX8_falseShare_97 : decode cX8_falseShare 97 = .ok (.ldc2_w 215, 3) := by decide +kernel
theorem dX8_falseShare_100 : decode cX8_falseShare 100 = .ok (.lload 8, 2) := by decide +kernel
theorem dX8_falseShare_102 : decode cX8_falseShare 102 = .ok (.lmul, 1) := by decide +kernel
theorem dX8_falseShare_103 : decode cX8_falseShare 103 = .ok (.lload 10, 2) := by decide +kernel
theorem dX8_falseShare_105 : decode cX8_falseShare 105 = .ok (.lload_n 2, 1) := by decide +kernel
theorem dX8_falseShare_106 : decode cX8_falseShare 106 = .ok (.ldiv, 1) := by decide +kernel
theorem dX8_falseShare_107 : decode cX8_falseShare 107 = .ok (.ladd, 1) := by decide +kernel
theorem dX8_falseShare_108 : decode cX8_falseShare 108 = .ok (.lstore 8, 2) := by decide +kernel
theorem dX8_falseShare_110 : decode cX8_falseShare 110 = .ok (.lload 10, 2) := by decide +kernel
theorem dX8_falseShare_112 : decode cX8_falseShare 112 = .ok (.lload_n 2, 1) := by decide +kernel
theorem dX8_falseShare_113 : decode cX8_falseShare 113 = .ok (.lrem, 1) := by decide +kernel
theorem dX8_falseShare_114 : decode cX8_falseShare 114 = .ok (.lstore 10, 2) := by decide +kernel
theorem dX8_falseShare_116 : decode cX8_falseShare 116 = .ok (.iinc 12 1, 3) := by decide +kernel
theorem dX8_falseShare_119 : decode cX8_falseShare 119 = .ok (.goto (-37), 3) := by decide +kernel
theorem dX8_falseShare_122 : decode cX8_falseShare 122 = .ok (.lload 8, 2) := by decide +kernel
theorem dX8_falseShare_124 : decode cX8_falseShare 124 = .ok (.l2i, 1) := by decide +kernel
theorem dX8_falseShare_125 : decode cX8_falseShare 125 = .ok (.ireturn, 1) := by decide +kernel
theorem dX8_drift_0 : decode cX8_drift 0 = .ok (.iload_n 1, 1) := by decide +kernel
theorem dX8_drift_1 : decode cX8_drift 1 = .ok (.invokestatic 217, 3) := by decide +kernel
theorem dX8_drift_4 : decode cX8_drift 4 = .ok (.ifCond .eq 25, 3) := by decide +kernel
theorem dX8_drift_7 : decode cX8_drift 7 = .ok (.iload_n 2, 1) := by decide +kernel
theorem dX8_drift_8 : decode cX8_drift 8 = .ok (.ifCond .lt 21, 3) := by decide +kernel
theorem dX8_drift_11 : decode cX8_drift 11 = .ok (.iload_n 2, 1) := by decide +kernel
theorem dX8_drift_12 : decode cX8_drift 12 = .ok (.iload_n 3, 1) := by decide +kernel
theorem dX8_drift_13 : decode cX8_drift 13 = .ok (.if_icmp .gt 16, 3) := by decide +kernel
theorem dX8_drift_16 : decode cX8_drift 16 = .ok (.iload 4, 2) := by decide +kernel
theorem dX8_drift_18 : decode cX8_drift 18 = .ok (.i2l, 1) := by decide +kernel
theorem dX8_drift_19 : decode cX8_drift 19 = .ok (.lconst 0, 1) := by decide +kernel
theorem dX8_drift_20 : decode cX8_drift 20 = .ok (.ldc2_w 81, 3) := by decide +kernel
theorem dX8_drift_23 : decode cX8_drift 23 = .ok (.invokestatic 70, 3) := by decide +kernel
theorem dX8_drift_26 : decode cX8_drift 26 = .ok (.ifCond .ne 6, 3) := by decide +kernel
theorem dX8_drift_29 : decode cX8_drift 29 = .ok (.bipush (-2), 2) := by decide +kernel
theorem dX8_drift_31 : decode cX8_drift 31 = .ok (.ireturn, 1) := by decide +kernel
theorem dX8_drift_32 : decode cX8_drift 32 = .ok (.aload_n 0, 1) := by decide +kernel
theorem dX8_drift_33 : decode cX8_drift 33 = .ok (.getfield 54, 3) := by decide +kernel
theorem dX8_drift_36 : decode cX8_drift 36 = .ok (.iload_n 1, 1) := by decide +kernel
theorem dX8_drift_37 : decode cX8_drift 37 = .ok (.iaload, 1) := by decide +kernel
theorem dX8_drift_38 : decode cX8_drift 38 = .ok (.ifCond .ge 9, 3) := by decide +kernel
theorem dX8_drift_41 : decode cX8_drift 41 = .ok (.aload_n 0, 1) := by decide +kernel
theorem dX8_drift_42 : decode cX8_drift 42 = .ok (.iconst 1, 1) := by decide +kernel
theorem dX8_drift_43 : decode cX8_drift 43 = .ok (.invokevirtual 220, 3) := by decide +kernel
theorem dX8_drift_46 : decode cX8_drift 46 = .ok (.ireturn, 1) := by decide +kernel
theorem dX8_drift_47 : decode cX8_drift 47 = .ok (.iload_n 3, 1) := by decide +kernel
theorem dX8_drift_48 : decode cX8_drift 48 = .ok (.aload_n 0, 1) := by decide +kernel
theorem dX8_drift_49 : decode cX8_drift 49 = .ok (.getfield 57, 3) := by decide +kernel
theorem dX8_drift_52 : decode cX8_drift 52 = .ok (.iload_n 1, 1) := by decide +kernel
theorem dX8_drift_53 : decode cX8_drift 53 = .ok (.iaload, 1) := by decide +kernel
theorem dX8_drift_54 : decode cX8_drift 54 = .ok (.if_icmp .lt 9, 3) := by decide +kernel
theorem dX8_drift_57 : decode cX8_drift 57 = .ok (.aload_n 0, 1) := by decide +kernel
theorem dX8_drift_58 : decode cX8_drift 58 = .ok (.iconst 2, 1) := by decide +kernel
theorem dX8_drift_59 : decode cX8_drift 59 = .ok (.invokevirtual 220, 3) := by decide +kernel
theorem dX8_drift_62 : decode cX8_drift 62 = .ok (.ireturn, 1) := by decide +kernel
theorem dX8_drift_63 : decode cX8_drift 63 = .ok (.iconst 0, 1) := by decide +kernel
theorem dX8_drift_64 : decode cX8_drift 64 = .ok (.istore 5, 2) := by decide +kernel
theorem dX8_drift_66 : decode cX8_drift 66 = .ok (.iconst 0, 1) := by decide +kernel
theorem dX8_drift_67 : decode cX8_drift 67 = .ok (.istore 6, 2) := by decide +kernel
theorem dX8_drift_69 : decode cX8_drift 69 = .ok (.iload_n 2, 1) := by decide +kernel
theorem dX8_drift_70 : decode cX8_drift 70 = .ok (.istore 7, 2) := by decide +kernel
theorem dX8_drift_72 : decode cX8_drift 72 = .ok (.iload 7, 2) := by decide +kernel
theorem dX8_drift_74 : decode cX8_drift 74 = .ok (.iload_n 3, 1) := by decide +kernel
theorem dX8_drift_75 : decode cX8_drift 75 = .ok (.if_icmp .gt 66, 3) := by decide +kernel
theorem dX8_drift_78 : decode cX8_drift 78 = .ok (.iload 5, 2) := by decide +kernel
theorem dX8_drift_80 : decode cX8_drift 80 = .ok (.bipush 50, 2) := by decide +kernel
theorem dX8_drift_82 : decode cX8_drift 82 = .ok (.if_icmp .ge 59, 3) := by decide +kernel
theorem dX8_drift_85 : decode cX8_drift 85 = .ok (.iload 5, 2) := by decide +kernel
theorem dX8_drift_87 : decode cX8_drift 87 = .ok (.aload_n 0, 1) := by decide +kernel
theorem dX8_drift_88 : decode cX8_drift 88 = .ok (.getfield 60, 3) := by decide +kernel
theorem dX8_drift_91 : decode cX8_drift 91 = .ok (.bipush 100, 2) := by decide +kernel
theorem dX8_drift_93 : decode cX8_drift 93 = .ok (.iload_n 1, 1) := by decide +kernel
theorem dX8_drift_94 : decode cX8_drift 94 = .ok (.imul, 1) := by decide +kernel
theorem dX8_drift_95 : decode cX8_drift 95 = .ok (.iload 7, 2) := by decide +kernel
theorem dX8_drift_97 : decode cX8_drift 97 = .ok (.iadd, 1) := by decide +kernel
theorem dX8_drift_98 : decode cX8_drift 98 = .ok (.iaload, 1) := by decide +kernel
theorem dX8_drift_99 : decode cX8_drift 99 = .ok (.ifCond .eq 7, 3) := by decide +kernel
theorem dX8_drift_102 : decode cX8_drift 102 = .ok (.iconst 1, 1) := by decide +kernel
theorem dX8_drift_103 : decode cX8_drift 103 = .ok (.goto 4, 3) := by decide +kernel
theorem dX8_drift_106 : decode cX8_drift 106 = .ok (.iconst 0, 1) := by decide +kernel
theorem dX8_drift_107 : decode cX8_drift 107 = .ok (.iadd, 1) := by decide +kernel
theorem dX8_drift_108 : decode cX8_drift 108 = .ok (.istore 5, 2) := by decide +kernel
theorem dX8_drift_110 : decode cX8_drift 110 = .ok (.iload 6, 2) := by decide +kernel
theorem dX8_drift_112 : decode cX8_drift 112 = .ok (.aload_n 0, 1) := by decide +kernel
theorem dX8_drift_113 : decode cX8_drift 113 = .ok (.getfield 60, 3) := by decide +kernel
theorem dX8_drift_116 : decode cX8_drift 116 = .ok (.bipush 100, 2) := by decide +kernel
theorem dX8_drift_118 : decode cX8_drift 118 = .ok (.iload_n 1, 1) := by decide +kernel
theorem dX8_drift_119 : decode cX8_drift 119 = .ok (.imul, 1) := by decide +kernel
theorem dX8_drift_120 : decode cX8_drift 120 = .ok (.iload 7, 2) := by decide +kernel
theorem dX8_drift_122 : decode cX8_drift 122 = .ok (.iadd, 1) := by decide +kernel
theorem dX8_drift_123 : decode cX8_drift 123 = .ok (.iaload, 1) := by decide +kernel
theorem dX8_drift_124 : decode cX8_drift 124 = .ok (.ifCond .le 7, 3) := by decide +kernel
theorem dX8_drift_127 : decode cX8_drift 127 = .ok (.iconst 1, 1) := by decide +kernel
theorem dX8_drift_128 : decode cX8_drift 128 = .ok (.goto 4, 3) := by decide +kernel
theorem dX8_drift_131 : decode cX8_drift 131 = .ok (.iconst 0, 1) := by decide +kernel
theorem dX8_drift_132 : decode cX8_drift 132 = .ok (.iadd, 1) := by decide +kernel
theorem dX8_drift_133 : decode cX8_drift 133 = .ok (.istore 6, 2) := by decide +kernel
theorem dX8_drift_135 : decode cX8_drift 135 = .ok (.iinc 7 1, 3) := by decide +kernel
theorem dX8_drift_138 : decode cX8_drift 138 = .ok (.goto (-66), 3) := by decide +kernel
theorem dX8_drift_141 : decode cX8_drift 141 = .ok (.iload 4, 2) := by decide +kernel
theorem dX8_drift_143 : decode cX8_drift 143 = .ok (.ifCond .ne 8, 3) := by decide +kernel
theorem dX8_drift_146 : decode cX8_drift 146 = .ok (.iload 5, 2) := by decide +kernel
theorem dX8_drift_148 : decode cX8_drift 148 = .ok (.goto 39, 3) := by decide +kernel
theorem dX8_drift_151 : decode cX8_drift 151 = .ok (.iload 4, 2) := by decide +kernel
theorem dX8_drift_153 : decode cX8_drift 153 = .ok (.iconst 1, 1) := by decide +kernel
theorem dX8_drift_154 : decode cX8_drift 154 = .ok (.if_icmp .ne 8, 3) := by decide +kernel
