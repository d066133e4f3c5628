theorem dX0_init_0 : decode cX0_init 0 = .ok (.aload_n 0, 1) := by decide +kernel
theorem dX0_init_1 : decode cX0_init 1 = .ok (.invokespecial 1, 3) := by decide +kernel
theorem dX0_init_4 : decode cX0_init 4 = .ok (.aload_n 0, 1) := by decide +kernel
theorem dX0_init_5 : decode cX0_init 5 = .ok (.iconst 3, 1) := by decide +kernel
theorem dX0_init_6 : decode cX0_init 6 = .ok (.newarray .int, 2) := by decide +kernel
theorem dX0_init_8 : decode cX0_init 8 = .ok (.dup, 1) := by decide +kernel
theorem dX0_init_9 : decode cX0_init 9 = .ok (.iconst 0, 1) := by decide +kernel
theorem dX0_init_10 : decode cX0_init 10 = .ok (.bipush 100, 2) := by decide +kernel
theorem dX0_init_12 : decode cX0_init 12 = .ok (.iastore, 1) := by decide +kernel
theorem dX0_init_13 : decode cX0_init 13 = .ok (.dup, 1) := by decide +kernel
theorem dX0_init_14 : decode cX0_init 14 = .ok (.iconst 1, 1) := by decide +kernel
theorem dX0_init_15 : decode cX0_init 15 = .ok (.bipush 100, 2) := by decide +kernel
theorem dX0_init_17 : decode cX0_init 17 = .ok (.iastore, 1) := by decide +kernel
theorem dX0_init_18 : decode cX0_init 18 = .ok (.dup, 1) := by decide +kernel
theorem dX0_init_19 : decode cX0_init 19 = .ok (.iconst 2, 1) := by decide +kernel
theorem dX0_init_20 : decode cX0_init 20 = .ok (.bipush 100, 2) := by decide +kernel
theorem dX0_init_22 : decode cX0_init 22 = .ok (.iastore, 1) := by decide +kernel
theorem dX0_init_23 : decode cX0_init 23 = .ok (.putfield 7, 3) := by decide +kernel
theorem dX0_init_26 : decode cX0_init 26 = .ok (.aload_n 0, 1) := by decide +kernel
theorem dX0_init_27 : decode cX0_init 27 = .ok (.bipush 60, 2) := by decide +kernel
theorem dX0_init_29 : decode cX0_init 29 = .ok (.newarray .int, 2) := by decide +kernel
theorem dX0_init_31 : decode cX0_init 31 = .ok (.putfield 13, 3) := by decide +kernel
theorem dX0_init_34 : decode cX0_init 34 = .ok (.aload_n 0, 1) := by decide +kernel
theorem dX0_init_35 : decode cX0_init 35 = .ok (.sipush 180, 3) := by decide +kernel
theorem dX0_init_38 : decode cX0_init 38 = .ok (.newarray .int, 2) := by decide +kernel
theorem dX0_init_40 : decode cX0_init 40 = .ok (.putfield 16, 3) := by decide +kernel
theorem dX0_init_43 : decode cX0_init 43 = .ok (.aload_n 0, 1) := by decide +kernel
theorem dX0_init_44 : decode cX0_init 44 = .ok (.iconst 0, 1) := by decide +kernel
theorem dX0_init_45 : decode cX0_init 45 = .ok (.putfield 19, 3) := by decide +kernel
theorem dX0_init_48 : decode cX0_init 48 = .ok (.return_, 1) := by decide +kernel
theorem dX0_stand_0 : decode cX0_stand 0 = .ok (.aload_n 0, 1) := by decide +kernel
theorem dX0_stand_1 : decode cX0_stand 1 = .ok (.getfield 19, 3) := by decide +kernel
theorem dX0_stand_4 : decode cX0_stand 4 = .ok (.istore 4, 2) := by decide +kernel
theorem dX0_stand_6 : decode cX0_stand 6 = .ok (.aload_n 0, 1) := by decide +kernel
theorem dX0_stand_7 : decode cX0_stand 7 = .ok (.getfield 13, 3) := by decide +kernel
theorem dX0_stand_10 : decode cX0_stand 10 = .ok (.iconst 3, 1) := by decide +kernel
theorem dX0_stand_11 : decode cX0_stand 11 = .ok (.iload 4, 2) := by decide +kernel
theorem dX0_stand_13 : decode cX0_stand 13 = .ok (.imul, 1) := by decide +kernel
theorem dX0_stand_14 : decode cX0_stand 14 = .ok (.iload_n 1, 1) := by decide +kernel
theorem dX0_stand_15 : decode cX0_stand 15 = .ok (.iastore, 1) := by decide +kernel
theorem dX0_stand_16 : decode cX0_stand 16 = .ok (.aload_n 0, 1) := by decide +kernel
theorem dX0_stand_17 : decode cX0_stand 17 = .ok (.getfield 13, 3) := by decide +kernel
theorem dX0_stand_20 : decode cX0_stand 20 = .ok (.iconst 3, 1) := by decide +kernel
theorem dX0_stand_21 : decode cX0_stand 21 = .ok (.iload 4, 2) := by decide +kernel
theorem dX0_stand_23 : decode cX0_stand 23 = .ok (.imul, 1) := by decide +kernel
theorem dX0_stand_24 : decode cX0_stand 24 = .ok (.iconst 1, 1) := by decide +kernel
theorem dX0_stand_25 : decode cX0_stand 25 = .ok (.iadd, 1) := by decide +kernel
theorem dX0_stand_26 : decode cX0_stand 26 = .ok (.iload_n 1, 1) := by decide +kernel
theorem dX0_stand_27 : decode cX0_stand 27 = .ok (.iload_n 2, 1) := by decide +kernel
theorem dX0_stand_28 : decode cX0_stand 28 = .ok (.iadd, 1) := by decide +kernel
theorem dX0_stand_29 : decode cX0_stand 29 = .ok (.invokestatic 23, 3) := by decide +kernel
theorem dX0_stand_32 : decode cX0_stand 32 = .ok (.iastore, 1) := by decide +kernel
theorem dX0_stand_33 : decode cX0_stand 33 = .ok (.aload_n 0, 1) := by decide +kernel
theorem dX0_stand_34 : decode cX0_stand 34 = .ok (.getfield 13, 3) := by decide +kernel
theorem dX0_stand_37 : decode cX0_stand 37 = .ok (.iconst 3, 1) := by decide +kernel
theorem dX0_stand_38 : decode cX0_stand 38 = .ok (.iload 4, 2) := by decide +kernel
theorem dX0_stand_40 : decode cX0_stand 40 = .ok (.imul, 1) := by decide +kernel
theorem dX0_stand_41 : decode cX0_stand 41 = .ok (.iconst 2, 1) := by decide +kernel
theorem dX0_stand_42 : decode cX0_stand 42 = .ok (.iadd, 1) := by decide +kernel
theorem dX0_stand_43 : decode cX0_stand 43 = .ok (.iload_n 1, 1) := by decide +kernel
theorem dX0_stand_44 : decode cX0_stand 44 = .ok (.iload_n 2, 1) := by decide +kernel
theorem dX0_stand_45 : decode cX0_stand 45 = .ok (.iadd, 1) := by decide +kernel
theorem dX0_stand_46 : decode cX0_stand 46 = .ok (.iload_n 3, 1) := by decide +kernel
theorem dX0_stand_47 : decode cX0_stand 47 = .ok (.iadd, 1) := by decide +kernel
theorem dX0_stand_48 : decode cX0_stand 48 = .ok (.invokestatic 23, 3) := by decide +kernel
theorem dX0_stand_51 : decode cX0_stand 51 = .ok (.iastore, 1) := by decide +kernel
theorem dX0_stand_52 : decode cX0_stand 52 = .ok (.iconst 0, 1) := by decide +kernel
theorem dX0_stand_53 : decode cX0_stand 53 = .ok (.istore 5, 2) := by decide +kernel
theorem dX0_stand_55 : decode cX0_stand 55 = .ok (.iload 5, 2) := by decide +kernel
theorem dX0_stand_57 : decode cX0_stand 57 = .ok (.iconst 3, 1) := by decide +kernel
theorem dX0_stand_58 : decode cX0_stand 58 = .ok (.if_icmp .ge 69, 3) := by decide +kernel
theorem dX0_stand_61 : decode cX0_stand 61 = .ok (.iconst 0, 1) := by decide +kernel
theorem dX0_stand_62 : decode cX0_stand 62 = .ok (.istore 6, 2) := by decide +kernel
theorem dX0_stand_64 : decode cX0_stand 64 = .ok (.iload 6, 2) := by decide +kernel
theorem dX0_stand_66 : decode cX0_stand 66 = .ok (.iconst 3, 1) := by decide +kernel
theorem dX0_stand_67 : decode cX0_stand 67 = .ok (.if_icmp .ge 54, 3) := by decide +kernel
theorem dX0_stand_70 : decode cX0_stand 70 = .ok (.aload_n 0, 1) := by decide +kernel
theorem dX0_stand_71 : decode cX0_stand 71 = .ok (.getfield 16, 3) := by decide +kernel
theorem dX0_stand_74 : decode cX0_stand 74 = .ok (.bipush 9, 2) := by decide +kernel
theorem dX0_stand_76 : decode cX0_stand 76 = .ok (.iload 4, 2) := by decide +kernel
theorem dX0_stand_78 : decode cX0_stand 78 = .ok (.imul, 1) := by decide +kernel
theorem dX0_stand_79 : decode cX0_stand 79 = .ok (.iconst 3, 1) := by decide +kernel
theorem dX0_stand_80 : decode cX0_stand 80 = .ok (.iload 5, 2) := by decide +kernel
theorem dX0_stand_82 : decode cX0_stand 82 = .ok (.imul, 1) := by decide +kernel
theorem dX0_stand_83 : decode cX0_stand 83 = .ok (.iadd, 1) := by decide +kernel
theorem dX0_stand_84 : decode cX0_stand 84 = .ok (.iload 6, 2) := by decide +kernel
theorem dX0_stand_86 : decode cX0_stand 86 = .ok (.iadd, 1) := by decide +kernel
theorem dX0_stand_87 : decode cX0_stand 87 = .ok (.aload_n 0, 1) := by decide +kernel
theorem dX0_stand_88 : decode cX0_stand 88 = .ok (.getfield 13, 3) := by decide +kernel
theorem dX0_stand_91 : decode cX0_stand 91 = .ok (.iconst 3, 1) := by decide +kernel
theorem dX0_stand_92 : decode cX0_stand 92 = .ok (.iload 4, 2) := by decide +kernel
theorem dX0_stand_94 : decode cX0_stand 94 = .ok (.imul, 1) := by decide +kernel
theorem dX0_stand_95 : decode cX0_stand 95 = .ok (.iload 5, 2) := by decide +kernel
theorem dX0_stand_97 : decode cX0_stand 97 = .ok (.iadd, 1) := by decide +kernel
theorem dX0_stand_98 : decode cX0_stand 98 = .ok (.iaload, 1) := by decide +kernel
theorem dX0_stand_99 : decode cX0_stand 99 = .ok (.aload_n 0, 1) := by decide +kernel
theorem dX0_stand_100 : decode cX0_stand 100 = .ok (.getfield 13, 3) := by decide +kernel
theorem dX0_stand_103 : decode cX0_stand 103 = .ok (.iconst 3, 1) := by decide +kernel
theorem dX0_stand_104 : decode cX0_stand 104 = .ok (.iload 4, 2) := by decide +kernel
theorem dX0_stand_106 : decode cX0_stand 106 = .ok (.imul, 1) := by decide +kernel
theorem dX0_stand_107 : decode cX0_stand 107 = .ok (.iload 6, 2) := by decide +kernel
theorem dX0_stand_109 : decode cX0_stand 109 = .ok (.iadd, 1) := by decide +kernel
theorem dX0_stand_110 : decode cX0_stand 110 = .ok (.iaload, 1) := by decide +kernel
theorem dX0_stand_111 : decode cX0_stand 111 = .ok (.invokestatic 29, 3) := by decide +kernel
theorem dX0_stand_114 : decode cX0_stand 114 = .ok (.iastore, 1) := by decide +kernel
theorem dX0_stand_115 : decode cX0_stand 115 = .ok (.iinc 6 1, 3) := by decide +kernel
theorem dX0_stand_118 : decode cX0_stand 118 = .ok (.goto (-54), 3) := by decide +kernel
theorem dX0_stand_121 : decode cX0_stand 121 = .ok (.iinc 5 1, 3) := by decide +kernel
theorem dX0_stand_124 : decode cX0_stand 124 = .ok (.goto (-69), 3) := by decide +kernel
theorem dX0_stand_127 : decode cX0_stand 127 = .ok (.aload_n 0, 1) := by decide +kernel
theorem dX0_stand_128 : decode cX0_stand 128 = .ok (.dup, 1) := by decide +kernel
theorem dX0_stand_129 : decode cX0_stand 129 = .ok (.getfield 19, 3) := by decide +kernel
theorem dX0_stand_132 : decode cX0_stand 132 = .ok (.iconst 1, 1) := by decide +kernel
theorem dX0_stand_133 : decode cX0_stand 133 = .ok (.iadd, 1) := by decide +kernel
theorem dX0_stand_134 : decode cX0_stand 134 = .ok (.putfield 19, 3) := by decide +kernel
theorem dX0_stand_137 : decode cX0_stand 137 = .ok (.iload 4, 2) := by decide +kernel
theorem dX0_stand_139 : decode cX0_stand 139 = .ok (.ireturn, 1) := by decide +kernel
theorem dX0_productOf_0 : decode cX0_productOf 0 = .ok (.iload_n 0, 1) := by decide +kernel
theorem dX0_productOf_1 : decode cX0_productOf 1 = .ok (.invokestatic 33, 3) := by decide +kernel
theorem dX0_productOf_4 : decode cX0_productOf 4 = .ok (.iload_n 1, 1) := by decide +kernel
theorem dX0_productOf_5 : decode cX0_productOf 5 = .ok (.invokestatic 33, 3) := by decide +kernel
theorem dX0_productOf_8 : decode cX0_productOf 8 = .ok (.imul, 1) := by decide +kernel
theorem dX0_productOf_9 : decode cX0_productOf 9 = .ok (.iload_n 0, 1) := by decide +kernel
theorem dX0_productOf_10 : decode cX0_productOf 10 = .ok (.invokestatic 36, 3) := by decide +kernel
theorem dX0_productOf_13 : decode cX0_productOf 13 = .ok (.iload_n 1, 1) := by decide +kernel
theorem dX0_productOf_14 : decode cX0_productOf 14 = .ok (.invokestatic 36, 3) := by decide +kernel
theorem dX0_productOf_17 : decode cX0_productOf 17 = .ok (.imul, 1) := by decide +kernel
theorem dX0_productOf_18 : decode cX0_productOf 18 = .ok (.iadd, 1) := by decide +kernel
theorem dX0_productOf_19 : decode cX0_productOf 19 = .ok (.ireturn, 1) := by decide +kernel
theorem dX0_reached_0 : decode cX0_reached 0 = .ok (.iconst 0, 1) := by decide +kernel
theorem dX0_reached_1 : decode cX0_reached 1 = .ok (.istore_n 3, 1) := by decide +kernel
theorem dX0_reached_2 : decode cX0_reached 2 = .ok (.iconst 0, 1) := by decide +kernel
theorem dX0_reached_3 : decode cX0_reached 3 = .ok (.istore 4, 2) := by decide +kernel
theorem dX0_reached_5 : decode cX0_reached 5 = .ok (.iload 4, 2) := by decide +kernel
theorem dX0_reached_7 : decode cX0_reached 7 = .ok (.iconst 3, 1) := by decide +kernel
theorem dX0_reached_8 : decode cX0_reached 8 = .ok (.if_icmp .ge 35, 3) := by decide +kernel
theorem dX0_reached_11 : decode cX0_reached 11 = .ok (.iload_n 3, 1) := by decide +kernel
theorem dX0_reached_12 : decode cX0_reached 12 = .ok (.aload_n 0, 1) := by decide +kernel
theorem dX0_reached_13 : decode cX0_reached 13 = .ok (.getfield 7, 3) := by decide +kernel
theorem dX0_reached_16 : decode cX0_reached 16 = .ok (.iload 4, 2) := by decide +kernel
theorem dX0_reached_18 : decode cX0_reached 18 = .ok (.iaload, 1) := by decide +kernel
theorem dX0_reached_19 : decode cX0_reached 19 = .ok (.aload_n 0, 1) := by decide +kernel
theorem dX0_reached_20 : decode cX0_reached 20 = .ok (.getfield 13, 3) := by decide +kernel
theorem dX0_reached_23 : decode cX0_reached 23 = .ok (.iconst 3, 1) := by decide +kernel
theorem dX0_reached_24 : decode cX0_reached 24 = .ok (.iload_n 1, 1) := by decide +kernel
theorem dX0_reached_25 : decode cX0_reached 25 = .ok (.imul, 1) := by decide +kernel
theorem dX0_reached_26 : decode cX0_reached 26 = .ok (.iload 4, 2) := by decide +kernel
theorem dX0_reached_28 : decode cX0_reached 28 = .ok (.iadd, 1) := by decide +kernel
theorem dX0_reached_29 : decode cX0_reached 29 = .ok (.iaload, 1) := by decide +kernel
theorem dX0_reached_30 : decode cX0_reached 30 = .ok (.iload_n 2, 1) := by decide +kernel
theorem dX0_reached_31 : decode cX0_reached 31 = .ok (.invokestatic 39, 3) := by decide +kernel
theorem dX0_reached_34 : decode cX0_reached 34 = .ok (.imul, 1) := by decide +kernel
theorem dX0_reached_35 : decode cX0_reached 35 = .ok (.iadd, 1) := by decide +kernel
theorem dX0_reached_36 : decode cX0_reached 36 = .ok (.istore_n 3, 1) := by decide +kernel
theorem dX0_reached_37 : decode cX0_reached 37 = .ok (.iinc 4 1, 3) := by decide +kernel
theorem dX0_reached_40 : decode cX0_reached 40 = .ok (.goto (-35), 3) := by decide +kernel
theorem dX0_reached_43 : decode cX0_reached 43 = .ok (.iload_n 3, 1) := by decide +kernel
theorem dX0_reached_44 : decode cX0_reached 44 = .ok (.ireturn, 1) := by decide +kernel
theorem dX1_init_0 : decode cX1_init 0 = .ok (.aload_n 0, 1) := by decide +kernel
theorem dX1_init_1 : decode cX1_init 1 = .ok (.invokespecial 3, 3) := by decide +kernel
theorem dX1_init_4 : decode cX1_init 4 = .ok (.aload_n 0, 1) := by decide +kernel
theorem dX1_init_5 : decode cX1_init 5 = .ok (.bipush 20, 2) := by decide +kernel
theorem dX1_init_7 : decode cX1_init 7 = .ok (.newarray .int, 2) := by decide +kernel
theorem dX1_init_9 : decode cX1_init 9 = .ok (.putfield 11, 3) := by decide +kernel
theorem dX1_init_12 : decode cX1_init 12 = .ok (.aload_n 0, 1) := by decide +kernel
theorem dX1_init_13 : decode cX1_init 13 = .ok (.bipush 20, 2) := by decide +kernel
theorem dX1_init_15 : decode cX1_init 15 = .ok (.newarray .int, 2) := by decide +kernel
theorem dX1_init_17 : decode cX1_init 17 = .ok (.putfield 15, 3) := by decide +kernel
theorem dX1_init_20 : decode cX1_init 20 = .ok (.aload_n 0, 1) := by decide +kernel
theorem dX1_init_21 : decode cX1_init 21 = .ok (.bipush 20, 2) := by decide +kernel
theorem dX1_init_23 : decode cX1_init 23 = .ok (.newarray .int, 2) := by decide +kernel
theorem dX1_init_25 : decode cX1_init 25 = .ok (.putfield 18, 3) := by decide +kernel
theorem dX1_init_28 : decode cX1_init 28 = .ok (.aload_n 0, 1) := by decide +kernel
theorem dX1_init_29 : decode cX1_init 29 = .ok (.bipush 20, 2) := by decide +kernel
theorem dX1_init_31 : decode cX1_init 31 = .ok (.newarray .int, 2) := by decide +kernel
theorem dX1_init_33 : decode cX1_init 33 = .ok (.putfield 21, 3) := by decide +kernel
theorem dX1_init_36 : decode cX1_init 36 = .ok (.aload_n 0, 1) := by decide +kernel
theorem dX1_init_37 : decode cX1_init 37 = .ok (.iconst 0, 1) := by decide +kernel
theorem dX1_init_38 : decode cX1_init 38 = .ok (.putfield 24, 3) := by decide +kernel
theorem dX1_init_41 : decode cX1_init 41 = .ok (.return_, 1) := by decide +kernel
theorem dX1_mayBe_0 : decode cX1_mayBe 0 = .ok (.iload_n 0, 1) := by decide +kernel
theorem dX1_mayBe_1 : decode cX1_mayBe 1 = .ok (.sipush (-1000), 3) := by decide +kernel
theorem dX1_mayBe_4 : decode cX1_mayBe 4 = .ok (.if_icmp .lt 14, 3) := by decide +kernel
theorem dX1_mayBe_7 : decode cX1_mayBe 7 = .ok (.iload_n 0, 1) := by decide +kernel
theorem dX1_mayBe_8 : decode cX1_mayBe 8 = .ok (.sipush 1000, 3) := by decide +kernel
theorem dX1_mayBe_11 : decode cX1_mayBe 11 = .ok (.if_icmp .gt 7, 3) := by decide +kernel
theorem dX1_mayBe_14 : decode cX1_mayBe 14 = .ok (.iconst 1, 1) := by decide +kernel
theorem dX1_mayBe_15 : decode cX1_mayBe 15 = .ok (.goto 4, 3) := by decide +kernel
theorem dX1_mayBe_18 : decode cX1_mayBe 18 = .ok (.iconst 0, 1) := by decide +kernel
theorem dX1_mayBe_19 : decode cX1_mayBe 19 = .ok (.ireturn, 1) := by decide +kernel
theorem dX1_see_0 : decode cX1_see 0 = .ok (.aload_n 0, 1) := by decide +kernel
theorem dX1_see_1 : decode cX1_see 1 = .ok (.getfield 11, 3) := by decide +kernel
theorem dX1_see_4 : decode cX1_see 4 = .ok (.aload_n 0, 1) := by decide +kernel
theorem dX1_see_5 : decode cX1_see 5 = .ok (.getfield 24, 3) := by decide +kernel
theorem dX1_see_8 : decode cX1_see 8 = .ok (.iload_n 1, 1) := by decide +kernel
theorem dX1_see_9 : decode cX1_see 9 = .ok (.iastore, 1) := by decide +kernel
theorem dX1_see_10 : decode cX1_see 10 = .ok (.aload_n 0, 1) := by decide +kernel
theorem dX1_see_11 : decode cX1_see 11 = .ok (.getfield 15, 3) := by decide +kernel
theorem dX1_see_14 : decode cX1_see 14 = .ok (.aload_n 0, 1) := by decide +kernel
theorem dX1_see_15 : decode cX1_see 15 = .ok (.getfield 24, 3) := by decide +kernel
theorem dX1_see_18 : decode cX1_see 18 = .ok (.iload_n 2, 1) := by decide +kernel
theorem dX1_see_19 : decode cX1_see 19 = .ok (.iastore, 1) := by decide +kernel
theorem dX1_see_20 : decode cX1_see 20 = .ok (.aload_n 0, 1) := by decide +kernel
theorem dX1_see_21 : decode cX1_see 21 = .ok (.getfield 18, 3) := by decide +kernel
theorem dX1_see_24 : decode cX1_see 24 = .ok (.aload_n 0, 1) := by decide +kernel
theorem dX1_see_25 : decode cX1_see 25 = .ok (.getfield 24, 3) := by decide +kernel
theorem dX1_see_28 : decode cX1_see 28 = .ok (.iload_n 3, 1) := by decide +kernel
theorem dX1_see_29 : decode cX1_see 29 = .ok (.iastore, 1) := by decide +kernel
theorem dX1_see_30 : decode cX1_see 30 = .ok (.aload_n 0, 1) := by decide +kernel
theorem dX1_see_31 : decode cX1_see 31 = .ok (.getfield 21, 3) := by decide +kernel
theorem dX1_see_34 : decode cX1_see 34 = .ok (.aload_n 0, 1) := by decide +kernel
theorem dX1_see_35 : decode cX1_see 35 = .ok (.getfield 24, 3) := by decide +kernel
theorem dX1_see_38 : decode cX1_see 38 = .ok (.iload 4, 2) := by decide +kernel
theorem dX1_see_40 : decode cX1_see 40 = .ok (.iastore, 1) := by decide +kernel
theorem dX1_see_41 : decode cX1_see 41 = .ok (.aload_n 0, 1) := by decide +kernel
theorem dX1_see_42 : decode cX1_see 42 = .ok (.dup, 1) := by decide +kernel
theorem dX1_see_43 : decode cX1_see 43 = .ok (.getfield 24, 3) := by decide +kernel
theorem dX1_see_46 : decode cX1_see 46 = .ok (.iconst 1, 1) := by decide +kernel
theorem dX1_see_47 : decode cX1_see 47 = .ok (.iadd, 1) := by decide +kernel
theorem dX1_see_48 : decode cX1_see 48 = .ok (.putfield 24, 3) := by decide +kernel
theorem dX1_see_51 : decode cX1_see 51 = .ok (.aload_n 0, 1) := by decide +kernel
theorem dX1_see_52 : decode cX1_see 52 = .ok (.getfield 24, 3) := by decide +kernel
theorem dX1_see_55 : decode cX1_see 55 = .ok (.ireturn, 1) := by decide +kernel
theorem dX1_shift_0 : decode cX1_shift 0 = .ok (.iload_n 1, 1) := by decide +kernel
theorem dX1_shift_1 : decode cX1_shift 1 = .ok (.invokestatic 28, 3) := by decide +kernel
theorem dX1_shift_4 : decode cX1_shift 4 = .ok (.istore 4, 2) := by decide +kernel
theorem dX1_shift_6 : decode cX1_shift 6 = .ok (.iload_n 1, 1) := by decide +kernel
theorem dX1_shift_7 : decode cX1_shift 7 = .ok (.invokestatic 34, 3) := by decide +kernel
theorem dX1_shift_10 : decode cX1_shift 10 = .ok (.istore 5, 2) := by decide +kernel
theorem dX1_shift_12 : decode cX1_shift 12 = .ok (.iload_n 3, 1) := by decide +kernel
theorem dX1_shift_13 : decode cX1_shift 13 = .ok (.ifCond .ne 33, 3) := by decide +kernel
theorem dX1_shift_16 : decode cX1_shift 16 = .ok (.bipush 65, 2) := by decide +kernel
theorem dX1_shift_18 : decode cX1_shift 18 = .ok (.aload_n 0, 1) := by decide +kernel
theorem dX1_shift_19 : decode cX1_shift 19 = .ok (.getfield 18, 3) := by decide +kernel
theorem dX1_shift_22 : decode cX1_shift 22 = .ok (.iload_n 2, 1) := by decide +kernel
theorem dX1_shift_23 : decode cX1_shift 23 = .ok (.iaload, 1) := by decide +kernel
theorem dX1_shift_24 : decode cX1_shift 24 = .ok (.imul, 1) := by decide +kernel
theorem dX1_shift_25 : decode cX1_shift 25 = .ok (.iload 4, 2) := by decide +kernel
theorem dX1_shift_27 : decode cX1_shift 27 = .ok (.aload_n 0, 1) := by decide +kernel
theorem dX1_shift_28 : decode cX1_shift 28 = .ok (.getfield 11, 3) := by decide +kernel
theorem dX1_shift_31 : decode cX1_shift 31 = .ok (.iload_n 2, 1) := by decide +kernel
theorem dX1_shift_32 : decode cX1_shift 32 = .ok (.iaload, 1) := by decide +kernel
theorem dX1_shift_33 : decode cX1_shift 33 = .ok (.imul, 1) := by decide +kernel
theorem dX1_shift_34 : decode cX1_shift 34 = .ok (.isub, 1) := by decide +kernel
theorem dX1_shift_35 : decode cX1_shift 35 = .ok (.iload 5, 2) := by decide +kernel
theorem dX1_shift_37 : decode cX1_shift 37 = .ok (.aload_n 0, 1) := by decide +kernel
theorem dX1_shift_38 : decode cX1_shift 38 = .ok (.getfield 15, 3) := by decide +kernel
theorem dX1_shift_41 : decode cX1_shift 41 = .ok (.iload_n 2, 1) := by decide +kernel
theorem dX1_shift_42 : decode cX1_shift 42 = .ok (.iaload, 1) := by decide +kernel
theorem dX1_shift_43 : decode cX1_shift 43 = .ok (.imul, 1) := by decide +kernel
theorem dX1_shift_44 : decode cX1_shift 44 = .ok (.iadd, 1) := by decide +kernel
theorem dX1_shift_45 : decode cX1_shift 45 = .ok (.ireturn, 1) := by decide +kernel
theorem dX1_shift_46 : decode cX1_shift 46 = .ok (.bipush 65, 2) := by decide +kernel
theorem dX1_shift_48 : decode cX1_shift 48 = .ok (.aload_n 0, 1) := by decide +kernel
theorem dX1_shift_49 : decode cX1_shift 49 = .ok (.getfield 21, 3) := by decide +kernel
theorem dX1_shift_52 : decode cX1_shift 52 = .ok (.iload_n 2, 1) := by decide +kernel
theorem dX1_shift_53 : decode cX1_shift 53 = .ok (.iaload, 1) := by decide +kernel
theorem dX1_shift_54 : decode cX1_shift 54 = .ok (.imul, 1) := by decide +kernel
theorem dX1_shift_55 : decode cX1_shift 55 = .ok (.iload 5, 2) := by decide +kernel
theorem dX1_shift_57 : decode cX1_shift 57 = .ok (.aload_n 0, 1) := by decide +kernel
theorem dX1_shift_58 : decode cX1_shift 58 = .ok (.getfield 11, 3) := by decide +kernel
theorem dX1_shift_61 : decode cX1_shift 61 = .ok (.iload_n 2, 1) := by decide +kernel
theorem dX1_shift_62 : decode cX1_shift 62 = .ok (.iaload, 1) := by decide +kernel
theorem dX1_shift_63 : decode cX1_shift 63 = .ok (.imul, 1) := by decide +kernel
theorem dX1_shift_64 : decode cX1_shift 64 = .ok (.isub, 1) := by decide +kernel
theorem dX1_shift_65 : decode cX1_shift 65 = .ok (.iload 4, 2) := by decide +kernel
theorem dX1_shift_67 : decode cX1_shift 67 = .ok (.aload_n 0, 1) := by decide +kernel
theorem dX1_shift_68 : decode cX1_shift 68 = .ok (.getfield 15, 3) := by decide +kernel
theorem dX1_shift_71 : decode cX1_shift 71 = .ok (.iload_n 2, 1) := by decide +kernel
theorem dX1_shift_72 : decode cX1_shift 72 = .ok (.iaload, 1) := by decide +kernel
theorem dX1_shift_73 : decode cX1_shift 73 = .ok (.imul, 1) := by decide +kernel
theorem dX1_shift_74 : decode cX1_shift 74 = .ok (.isub, 1) := by decide +kernel
theorem dX1_shift_75 : decode cX1_shift 75 = .ok (.ireturn, 1) := by decide +kernel
theorem dX1_isAnswer_0 : decode cX1_isAnswer 0 = .ok (.iconst 1, 1) := by decide +kernel
theorem dX1_isAnswer_1 : decode cX1_isAnswer 1 = .ok (.istore_n 2, 1) := by decide +kernel
theorem dX1_isAnswer_2 : decode cX1_isAnswer 2 = .ok (.iload_n 2, 1) := by decide +kernel
theorem dX1_isAnswer_3 : decode cX1_isAnswer 3 = .ok (.aload_n 0, 1) := by decide +kernel
theorem dX1_isAnswer_4 : decode cX1_isAnswer 4 = .ok (.getfield 24, 3) := by decide +kernel
theorem dX1_isAnswer_7 : decode cX1_isAnswer 7 = .ok (.if_icmp .ge 45, 3) := by decide +kernel
theorem dX1_isAnswer_10 : decode cX1_isAnswer 10 = .ok (.aload_n 0, 1) := by decide +kernel
theorem dX1_isAnswer_11 : decode cX1_isAnswer 11 = .ok (.iload_n 1, 1) := by decide +kernel
theorem dX1_isAnswer_12 : decode cX1_isAnswer 12 = .ok (.iload_n 2, 1) := by decide +kernel
theorem dX1_isAnswer_13 : decode cX1_isAnswer 13 = .ok (.iconst 0, 1) := by decide +kernel
theorem dX1_isAnswer_14 : decode cX1_isAnswer 14 = .ok (.invokevirtual 37, 3) := by decide +kernel
theorem dX1_isAnswer_17 : decode cX1_isAnswer 17 = .ok (.aload_n 0, 1) := by decide +kernel
theorem dX1_isAnswer_18 : decode cX1_isAnswer 18 = .ok (.iload_n 1, 1) := by decide +kernel
theorem dX1_isAnswer_19 : decode cX1_isAnswer 19 = .ok (.iconst 0, 1) := by decide +kernel
theorem dX1_isAnswer_20 : decode cX1_isAnswer 20 = .ok (.iconst 0, 1) := by decide +kernel
theorem dX1_isAnswer_21 : decode cX1_isAnswer 21 = .ok (.invokevirtual 37, 3) := by decide +kernel
theorem dX1_isAnswer_24 : decode cX1_isAnswer 24 = .ok (.if_icmp .ne 20, 3) := by decide +kernel
theorem dX1_isAnswer_27 : decode cX1_isAnswer 27 = .ok (.aload_n 0, 1) := by decide +kernel
theorem dX1_isAnswer_28 : decode cX1_isAnswer 28 = .ok (.iload_n 1, 1) := by decide +kernel
theorem dX1_isAnswer_29 : decode cX1_isAnswer 29 = .ok (.iload_n 2, 1) := by decide +kernel
theorem dX1_isAnswer_30 : decode cX1_isAnswer 30 = .ok (.iconst 1, 1) := by decide +kernel
theorem dX1_isAnswer_31 : decode cX1_isAnswer 31 = .ok (.invokevirtual 37, 3) := by decide +kernel
theorem dX1_isAnswer_34 : decode cX1_isAnswer 34 = .ok (.aload_n 0, 1) := by decide +kernel
theorem dX1_isAnswer_35 : decode cX1_isAnswer 35 = .ok (.iload_n 1, 1) := by decide +kernel
theorem dX1_isAnswer_36 : decode cX1_isAnswer 36 = .ok (.iconst 0, 1) := by decide +kernel
theorem dX1_isAnswer_37 : decode cX1_isAnswer 37 = .ok (.iconst 1, 1) := by decide +kernel
theorem dX1_isAnswer_38 : decode cX1_isAnswer 38 = .ok (.invokevirtual 37, 3) := by decide +kernel
theorem dX1_isAnswer_41 : decode cX1_isAnswer 41 = .ok (.if_icmp .eq 5, 3) := by decide +kernel
theorem dX1_isAnswer_44 : decode cX1_isAnswer 44 = .ok (.iconst 0, 1) := by decide +kernel
theorem dX1_isAnswer_45 : decode cX1_isAnswer 45 = .ok (.ireturn, 1) := by decide +kernel
theorem dX1_isAnswer_46 : decode cX1_isAnswer 46 = .ok (.iinc 2 1, 3) := by decide +kernel
theorem dX1_isAnswer_49 : decode cX1_isAnswer 49 = .ok (.goto (-47), 3) := by decide +kernel
theorem dX1_isAnswer_52 : decode cX1_isAnswer 52 = .ok (.iconst 1, 1) := by decide +kernel
theorem dX1_isAnswer_53 : decode cX1_isAnswer 53 = .ok (.ireturn, 1) := by decide +kernel
theorem dX1_headingsThatAnswer_0 : decode cX1_headingsThatAnswer 0 = .ok (.iconst 0, 1) := by decide +kernel
theorem dX1_headingsThatAnswer_1 : decode cX1_headingsThatAnswer 1 = .ok (.istore_n 1, 1) := by decide +kernel
theorem dX1_headingsThatAnswer_2 : decode cX1_headingsThatAnswer 2 = .ok (.iconst 0, 1) := by decide +kernel
theorem dX1_headingsThatAnswer_3 : decode cX1_headingsThatAnswer 3 = .ok (.istore_n 2, 1) := by decide +kernel
theorem dX1_headingsThatAnswer_4 : decode cX1_headingsThatAnswer 4 = .ok (.iload_n 2, 1) := by decide +kernel
theorem dX1_headingsThatAnswer_5 : decode cX1_headingsThatAnswer 5 = .ok (.bipush 36, 2) := by decide +kernel
theorem dX1_headingsThatAnswer_7 : decode cX1_headingsThatAnswer 7 = .ok (.if_icmp .ge 20, 3) := by decide +kernel
theorem dX1_headingsThatAnswer_10 : decode cX1_headingsThatAnswer 10 = .ok (.aload_n 0, 1) := by decide +kernel
theorem dX1_headingsThatAnswer_11 : decode cX1_headingsThatAnswer 11 = .ok (.iload_n 2, 1) := by decide +kernel
theorem dX1_headingsThatAnswer_12 : decode cX1_headingsThatAnswer 12 = .ok (.invokevirtual 41, 3) := by decide +kernel
theorem dX1_headingsThatAnswer_15 : decode cX1_headingsThatAnswer 15 = .ok (.ifCond .eq 6, 3) := by decide +kernel
theorem dX1_headingsThatAnswer_18 : decode cX1_headingsThatAnswer 18 = .ok (.iinc 1 1, 3) := by decide +kernel
theorem dX1_headingsThatAnswer_21 : decode cX1_headingsThatAnswer 21 = .ok (.iinc 2 1, 3) := by decide +kernel
theorem dX1_headingsThatAnswer_24 : decode cX1_headingsThatAnswer 24 = .ok (.goto (-20), 3) := by decide +kernel
theorem dX1_headingsThatAnswer_27 : decode cX1_headingsThatAnswer 27 = .ok (.iload_n 1, 1) := by decide +kernel
theorem dX1_headingsThatAnswer_28 : decode cX1_headingsThatAnswer 28 = .ok (.ireturn, 1) := by decide +kernel
theorem dX1_headingOfAnswer_0 : decode cX1_headingOfAnswer 0 = .ok (.iconst 0, 1) := by decide +kernel
theorem dX1_headingOfAnswer_1 : decode cX1_headingOfAnswer 1 = .ok (.istore_n 2, 1) := by decide +kernel
theorem dX1_headingOfAnswer_2 : decode cX1_headingOfAnswer 2 = .ok (.iconst 0, 1) := by decide +kernel
theorem dX1_headingOfAnswer_3 : decode cX1_headingOfAnswer 3 = .ok (.istore_n 3, 1) := by decide +kernel
theorem dX1_headingOfAnswer_4 : decode cX1_headingOfAnswer 4 = .ok (.iload_n 3, 1) := by decide +kernel
theorem dX1_headingOfAnswer_5 : decode cX1_headingOfAnswer 5 = .ok (.bipush 36, 2) := by decide +kernel
theorem dX1_headingOfAnswer_7 : decode cX1_headingOfAnswer 7 = .ok (.if_icmp .ge 27, 3) := by decide +kernel
theorem dX1_headingOfAnswer_10 : decode cX1_headingOfAnswer 10 = .ok (.aload_n 0, 1) := by decide +kernel
theorem dX1_headingOfAnswer_11 : decode cX1_headingOfAnswer 11 = .ok (.iload_n 3, 1) := by decide +kernel
theorem dX1_headingOfAnswer_12 : decode cX1_headingOfAnswer 12 = .ok (.invokevirtual 41, 3) := by decide +kernel
theorem dX1_headingOfAnswer_15 : decode cX1_headingOfAnswer 15 = .ok (.ifCond .eq 13, 3) := by decide +kernel
theorem dX1_headingOfAnswer_18 : decode cX1_headingOfAnswer 18 = .ok (.iload_n 2, 1) := by decide +kernel
theorem dX1_headingOfAnswer_19 : decode cX1_headingOfAnswer 19 = .ok (.iload_n 1, 1) := by decide +kernel
theorem dX1_headingOfAnswer_20 : decode cX1_headingOfAnswer 20 = .ok (.if_icmp .ne 5, 3) := by decide +kernel
theorem dX1_headingOfAnswer_23 : decode cX1_headingOfAnswer 23 = .ok (.iload_n 3, 1) := by decide +kernel
theorem dX1_headingOfAnswer_24 : decode cX1_headingOfAnswer 24 = .ok (.ireturn, 1) := by decide +kernel
theorem dX1_headingOfAnswer_25 : decode cX1_headingOfAnswer 25 = .ok (.iinc 2 1, 3) := by decide +kernel
theorem dX1_headingOfAnswer_28 : decode cX1_headingOfAnswer 28 = .ok (.iinc 3 1, 3) := by decide +kernel
theorem dX1_headingOfAnswer_31 : decode cX1_headingOfAnswer 31 = .ok (.goto (-27), 3) := by decide +kernel
theorem dX1_headingOfAnswer_34 : decode cX1_headingOfAnswer 34 = .ok (.iconst (-1), 1) := by decide +kernel
theorem dX1_headingOfAnswer_35 : decode cX1_headingOfAnswer 35 = .ok (.ireturn, 1) := by decide +kernel
theorem dX2_init_0 : decode cX2_init 0 = .ok (.aload_n 0, 1) := by decide +kernel
theorem dX2_init_1 : decode cX2_init 1 = .ok (.invokespecial 1, 3) := by decide +kernel
theorem dX2_init_4 : decode cX2_init 4 = .ok (.aload_n 0, 1) := by decide +kernel
theorem dX2_init_5 : decode cX2_init 5 = .ok (.bipush 108, 2) := by decide +kernel
theorem dX2_init_7 : decode cX2_init 7 = .ok (.newarray .boolean, 2) := by decide +kernel
theorem dX2_init_9 : decode cX2_init 9 = .ok (.putfield 9, 3) := by decide +kernel
theorem dX2_init_12 : decode cX2_init 12 = .ok (.aload_n 0, 1) := by decide +kernel
theorem dX2_init_13 : decode cX2_init 13 = .ok (.iconst 0, 1) := by decide +kernel
theorem dX2_init_14 : decode cX2_init 14 = .ok (.putfield 15, 3) := by decide +kernel
theorem dX2_init_17 : decode cX2_init 17 = .ok (.aload_n 0, 1) := by decide +kernel
theorem dX2_init_18 : decode cX2_init 18 = .ok (.iconst 0, 1) := by decide +kernel
theorem dX2_init_19 : decode cX2_init 19 = .ok (.putfield 19, 3) := by decide +kernel
theorem dX2_init_22 : decode cX2_init 22 = .ok (.aload_n 0, 1) := by decide +kernel
theorem dX2_init_23 : decode cX2_init 23 = .ok (.lconst 0, 1) := by decide +kernel
theorem dX2_init_24 : decode cX2_init 24 = .ok (.putfield 22, 3) := by decide +kernel
theorem dX2_init_27 : decode cX2_init 27 = .ok (.iconst 0, 1) := by decide +kernel
theorem dX2_init_28 : decode cX2_init 28 = .ok (.istore_n 1, 1) := by decide +kernel
theorem dX2_init_29 : decode cX2_init 29 = .ok (.iload_n 1, 1) := by decide +kernel
theorem dX2_init_30 : decode cX2_init 30 = .ok (.aload_n 0, 1) := by decide +kernel
theorem dX2_init_31 : decode cX2_init 31 = .ok (.getfield 9, 3) := by decide +kernel
theorem dX2_init_34 : decode cX2_init 34 = .ok (.arraylength, 1) := by decide +kernel
theorem dX2_init_35 : decode cX2_init 35 = .ok (.if_icmp .ge 16, 3) := by decide +kernel
theorem dX2_init_38 : decode cX2_init 38 = .ok (.aload_n 0, 1) := by decide +kernel
theorem dX2_init_39 : decode cX2_init 39 = .ok (.getfield 9, 3) := by decide +kernel
theorem dX2_init_42 : decode cX2_init 42 = .ok (.iload_n 1, 1) := by decide +kernel
theorem dX2_init_43 : decode cX2_init 43 = .ok (.iconst 1, 1) := by decide +kernel
theorem dX2_init_44 : decode cX2_init 44 = .ok (.bastore, 1) := by decide +kernel
theorem dX2_init_45 : decode cX2_init 45 = .ok (.iinc 1 1, 3) := by decide +kernel
theorem dX2_init_48 : decode cX2_init 48 = .ok (.goto (-19), 3) := by decide +kernel
theorem dX2_init_51 : decode cX2_init 51 = .ok (.return_, 1) := by decide +kernel
theorem dX2_isPlace_0 : decode cX2_isPlace 0 = .ok (.iload_n 0, 1) := by decide +kernel
theorem dX2_isPlace_1 : decode cX2_isPlace 1 = .ok (.sipush (-3000), 3) := by decide +kernel
theorem dX2_isPlace_4 : decode cX2_isPlace 4 = .ok (.if_icmp .lt 28, 3) := by decide +kernel
theorem dX2_isPlace_7 : decode cX2_isPlace 7 = .ok (.iload_n 0, 1) := by decide +kernel
theorem dX2_isPlace_8 : decode cX2_isPlace 8 = .ok (.sipush 3000, 3) := by decide +kernel
theorem dX2_isPlace_11 : decode cX2_isPlace 11 = .ok (.if_icmp .gt 21, 3) := by decide +kernel
theorem dX2_isPlace_14 : decode cX2_isPlace 14 = .ok (.iload_n 1, 1) := by decide +kernel
theorem dX2_isPlace_15 : decode cX2_isPlace 15 = .ok (.sipush (-3000), 3) := by decide +kernel
theorem dX2_isPlace_18 : decode cX2_isPlace 18 = .ok (.if_icmp .lt 14, 3) := by decide +kernel
theorem dX2_isPlace_21 : decode cX2_isPlace 21 = .ok (.iload_n 1, 1) := by decide +kernel
theorem dX2_isPlace_22 : decode cX2_isPlace 22 = .ok (.sipush 3000, 3) := by decide +kernel
theorem dX2_isPlace_25 : decode cX2_isPlace 25 = .ok (.if_icmp .gt 7, 3) := by decide +kernel
theorem dX2_isPlace_28 : decode cX2_isPlace 28 = .ok (.iconst 1, 1) := by decide +kernel
theorem dX2_isPlace_29 : decode cX2_isPlace 29 = .ok (.goto 4, 3) := by decide +kernel
theorem dX2_isPlace_32 : decode cX2_isPlace 32 = .ok (.iconst 0, 1) := by decide +kernel
theorem dX2_isPlace_33 : decode cX2_isPlace 33 = .ok (.ireturn, 1) := by decide +kernel
theorem dX2_keepWithin_0 : decode cX2_keepWithin 0 = .ok (.iconst 0, 1) := by decide +kernel
theorem dX2_keepWithin_1 : decode cX2_keepWithin 1 = .ok (.istore 4, 2) := by decide +kernel
theorem dX2_keepWithin_3 : decode cX2_keepWithin 3 = .ok (.iload 4, 2) := by decide +kernel
theorem dX2_keepWithin_5 : decode cX2_keepWithin 5 = .ok (.bipush 36, 2) := by decide +kernel
theorem dX2_keepWithin_7 : decode cX2_keepWithin 7 = .ok (.if_icmp .ge 40, 3) := by decide +kernel
theorem dX2_keepWithin_10 : decode cX2_keepWithin 10 = .ok (.aload_n 0, 1) := by decide +kernel
theorem dX2_keepWithin_11 : decode cX2_keepWithin 11 = .ok (.getfield 9, 3) := by decide +kernel
theorem dX2_keepWithin_14 : decode cX2_keepWithin 14 = .ok (.bipush 36, 2) := by decide +kernel
theorem dX2_keepWithin_16 : decode cX2_keepWithin 16 = .ok (.iload_n 1, 1) := by decide +kernel
theorem dX2_keepWithin_17 : decode cX2_keepWithin 17 = .ok (.imul, 1) := by decide +kernel
theorem dX2_keepWithin_18 : decode cX2_keepWithin 18 = .ok (.iload 4, 2) := by decide +kernel
theorem dX2_keepWithin_20 : decode cX2_keepWithin 20 = .ok (.iadd, 1) := by decide +kernel
theorem dX2_keepWithin_21 : decode cX2_keepWithin 21 = .ok (.iload 4, 2) := by decide +kernel
theorem dX2_keepWithin_23 : decode cX2_keepWithin 23 = .ok (.bipush 36, 2) := by decide +kernel
theorem dX2_keepWithin_25 : decode cX2_keepWithin 25 = .ok (.iadd, 1) := by decide +kernel
theorem dX2_keepWithin_26 : decode cX2_keepWithin 26 = .ok (.iload_n 2, 1) := by decide +kernel
theorem dX2_keepWithin_27 : decode cX2_keepWithin 27 = .ok (.isub, 1) := by decide +kernel
theorem dX2_keepWithin_28 : decode cX2_keepWithin 28 = .ok (.invokestatic 26, 3) := by decide +kernel
theorem dX2_keepWithin_31 : decode cX2_keepWithin 31 = .ok (.iload_n 3, 1) := by decide +kernel
theorem dX2_keepWithin_32 : decode cX2_keepWithin 32 = .ok (.if_icmp .gt 7, 3) := by decide +kernel
theorem dX2_keepWithin_35 : decode cX2_keepWithin 35 = .ok (.iconst 1, 1) := by decide +kernel
theorem dX2_keepWithin_36 : decode cX2_keepWithin 36 = .ok (.goto 4, 3) := by decide +kernel
theorem dX2_keepWithin_39 : decode cX2_keepWithin 39 = .ok (.iconst 0, 1) := by decide +kernel
theorem dX2_keepWithin_40 : decode cX2_keepWithin 40 = .ok (.bastore, 1) := by decide +kernel
theorem dX2_keepWithin_41 : decode cX2_keepWithin 41 = .ok (.iinc 4 1, 3) := by decide +kernel
theorem dX2_keepWithin_44 : decode cX2_keepWithin 44 = .ok (.goto (-41), 3) := by decide +kernel
theorem dX2_keepWithin_47 : decode cX2_keepWithin 47 = .ok (.return_, 1) := by decide +kernel
theorem dX2_seek_0 : decode cX2_seek 0 = .ok (.aload_n 0, 1) := by decide +kernel
theorem dX2_seek_1 : decode cX2_seek 1 = .ok (.ldc2_w 30, 3) := by decide +kernel
theorem dX2_seek_4 : decode cX2_seek 4 = .ok (.putfield 22, 3) := by decide +kernel
theorem dX2_seek_7 : decode cX2_seek 7 = .ok (.aload_n 0, 1) := by decide +kernel
theorem dX2_seek_8 : decode cX2_seek 8 = .ok (.aload_n 1, 1) := by decide +kernel
theorem dX2_seek_9 : decode cX2_seek 9 = .ok (.iconst 2, 1) := by decide +kernel
theorem dX2_seek_10 : decode cX2_seek 10 = .ok (.iaload, 1) := by decide +kernel
theorem dX2_seek_11 : decode cX2_seek 11 = .ok (.putfield 15, 3) := by decide +kernel
theorem dX2_seek_14 : decode cX2_seek 14 = .ok (.iconst 0, 1) := by decide +kernel
theorem dX2_seek_15 : decode cX2_seek 15 = .ok (.istore 4, 2) := by decide +kernel
theorem dX2_seek_17 : decode cX2_seek 17 = .ok (.iload 4, 2) := by decide +kernel
theorem dX2_seek_19 : decode cX2_seek 19 = .ok (.bipush 36, 2) := by decide +kernel
theorem dX2_seek_21 : decode cX2_seek 21 = .ok (.if_icmp .ge 64, 3) := by decide +kernel
theorem dX2_seek_24 : decode cX2_seek 24 = .ok (.aload_n 0, 1) := by decide +kernel
theorem dX2_seek_25 : decode cX2_seek 25 = .ok (.getfield 9, 3) := by decide +kernel
theorem dX2_seek_28 : decode cX2_seek 28 = .ok (.iload 4, 2) := by decide +kernel
theorem dX2_seek_30 : decode cX2_seek 30 = .ok (.baload, 1) := by decide +kernel
theorem dX2_seek_31 : decode cX2_seek 31 = .ok (.ifCond .eq 48, 3) := by decide +kernel
theorem dX2_seek_34 : decode cX2_seek 34 = .ok (.bipush 65, 2) := by decide +kernel
theorem dX2_seek_36 : decode cX2_seek 36 = .ok (.iload_n 2, 1) := by decide +kernel
theorem dX2_seek_37 : decode cX2_seek 37 = .ok (.imul, 1) := by decide +kernel
theorem dX2_seek_38 : decode cX2_seek 38 = .ok (.aload_n 1, 1) := by decide +kernel
theorem dX2_seek_39 : decode cX2_seek 39 = .ok (.iconst 0, 1) := by decide +kernel
theorem dX2_seek_40 : decode cX2_seek 40 = .ok (.iaload, 1) := by decide +kernel
theorem dX2_seek_41 : decode cX2_seek 41 = .ok (.iload 4, 2) := by decide +kernel
theorem dX2_seek_43 : decode cX2_seek 43 = .ok (.invokestatic 32, 3) := by decide +kernel
theorem dX2_seek_46 : decode cX2_seek 46 = .ok (.imul, 1) := by decide +kernel
theorem dX2_seek_47 : decode cX2_seek 47 = .ok (.isub, 1) := by decide +kernel
theorem dX2_seek_48 : decode cX2_seek 48 = .ok (.istore 5, 2) := by decide +kernel
theorem dX2_seek_50 : decode cX2_seek 50 = .ok (.bipush 65, 2) := by decide +kernel
theorem dX2_seek_52 : decode cX2_seek 52 = .ok (.iload_n 3, 1) := by decide +kernel
theorem dX2_seek_53 : decode cX2_seek 53 = .ok (.imul, 1) := by decide +kernel
theorem dX2_seek_54 : decode cX2_seek 54 = .ok (.aload_n 1, 1) := by decide +kernel
theorem dX2_seek_55 : decode cX2_seek 55 = .ok (.iconst 0, 1) := by decide +kernel
theorem dX2_seek_56 : decode cX2_seek 56 = .ok (.iaload, 1) := by decide +kernel
theorem dX2_seek_57 : decode cX2_seek 57 = .ok (.iload 4, 2) := by decide +kernel
theorem dX2_seek_59 : decode cX2_seek 59 = .ok (.invokestatic 35, 3) := by decide +kernel
theorem dX2_seek_62 : decode cX2_seek 62 = .ok (.imul, 1) := by decide +kernel
theorem dX2_seek_63 : decode cX2_seek 63 = .ok (.isub, 1) := by decide +kernel
theorem dX2_seek_64 : decode cX2_seek 64 = .ok (.istore 6, 2) := by decide +kernel
theorem dX2_seek_66 : decode cX2_seek 66 = .ok (.aload_n 0, 1) := by decide +kernel
theorem dX2_seek_67 : decode cX2_seek 67 = .ok (.iload 4, 2) := by decide +kernel
theorem dX2_seek_69 : decode cX2_seek 69 = .ok (.aload_n 1, 1) := by decide +kernel
theorem dX2_seek_70 : decode cX2_seek 70 = .ok (.iconst 1, 1) := by decide +kernel
theorem dX2_seek_71 : decode cX2_seek 71 = .ok (.iaload, 1) := by decide +kernel
theorem dX2_seek_72 : decode cX2_seek 72 = .ok (.iload 5, 2) := by decide +kernel
theorem dX2_seek_74 : decode cX2_seek 74 = .ok (.iload 6, 2) := by decide +kernel
theorem dX2_seek_76 : decode cX2_seek 76 = .ok (.invokevirtual 38, 3) := by decide +kernel
theorem dX2_seek_79 : decode cX2_seek 79 = .ok (.iinc 4 1, 3) := by decide +kernel
theorem dX2_seek_82 : decode cX2_seek 82 = .ok (.goto (-65), 3) := by decide +kernel
theorem dX2_seek_85 : decode cX2_seek 85 = .ok (.return_, 1) := by decide +kernel
theorem dX2_seekSecond_0 : decode cX2_seekSecond 0 = .ok (.iconst 0, 1) := by decide +kernel
theorem dX2_seekSecond_1 : decode cX2_seekSecond 1 = .ok (.istore 5, 2) := by decide +kernel
theorem dX2_seekSecond_3 : decode cX2_seekSecond 3 = .ok (.iload 5, 2) := by decide +kernel
theorem dX2_seekSecond_5 : decode cX2_seekSecond 5 = .ok (.bipush 36, 2) := by decide +kernel
theorem dX2_seekSecond_7 : decode cX2_seekSecond 7 = .ok (.if_icmp .ge 90, 3) := by decide +kernel
theorem dX2_seekSecond_10 : decode cX2_seekSecond 10 = .ok (.aload_n 0, 1) := by decide +kernel
theorem dX2_seekSecond_11 : decode cX2_seekSecond 11 = .ok (.getfield 9, 3) := by decide +kernel
theorem dX2_seekSecond_14 : decode cX2_seekSecond 14 = .ok (.bipush 36, 2) := by decide +kernel
theorem dX2_seekSecond_16 : decode cX2_seekSecond 16 = .ok (.iload 5, 2) := by decide +kernel
theorem dX2_seekSecond_18 : decode cX2_seekSecond 18 = .ok (.iadd, 1) := by decide +kernel
theorem dX2_seekSecond_19 : decode cX2_seekSecond 19 = .ok (.baload, 1) := by decide +kernel
theorem dX2_seekSecond_20 : decode cX2_seekSecond 20 = .ok (.ifCond .eq 71, 3) := by decide +kernel
theorem dX2_seekSecond_23 : decode cX2_seekSecond 23 = .ok (.iload_n 1, 1) := by decide +kernel
theorem dX2_seekSecond_24 : decode cX2_seekSecond 24 = .ok (.iload 5, 2) := by decide +kernel
theorem dX2_seekSecond_26 : decode cX2_seekSecond 26 = .ok (.iadd, 1) := by decide +kernel
theorem dX2_seekSecond_27 : decode cX2_seekSecond 27 = .ok (.invokestatic 26, 3) := by decide +kernel
theorem dX2_seekSecond_30 : decode cX2_seekSecond 30 = .ok (.istore 6, 2) := by decide +kernel
theorem dX2_seekSecond_32 : decode cX2_seekSecond 32 = .ok (.iload_n 3, 1) := by decide +kernel
theorem dX2_seekSecond_33 : decode cX2_seekSecond 33 = .ok (.iload_n 2, 1) := by decide +kernel
theorem dX2_seekSecond_34 : decode cX2_seekSecond 34 = .ok (.iload 6, 2) := by decide +kernel
theorem dX2_seekSecond_36 : decode cX2_seekSecond 36 = .ok (.invokestatic 32, 3) := by decide +kernel
theorem dX2_seekSecond_39 : decode cX2_seekSecond 39 = .ok (.imul, 1) := by decide +kernel
theorem dX2_seekSecond_40 : decode cX2_seekSecond 40 = .ok (.isub, 1) := by decide +kernel
theorem dX2_seekSecond_41 : decode cX2_seekSecond 41 = .ok (.istore 7, 2) := by decide +kernel
theorem dX2_seekSecond_43 : decode cX2_seekSecond 43 = .ok (.iload 4, 2) := by decide +kernel
theorem dX2_seekSecond_45 : decode cX2_seekSecond 45 = .ok (.iload_n 2, 1) := by decide +kernel
theorem dX2_seekSecond_46 : decode cX2_seekSecond 46 = .ok (.iload 6, 2) := by decide +kernel
theorem dX2_seekSecond_48 : decode cX2_seekSecond 48 = .ok (.invokestatic 35, 3) := by decide +kernel
theorem dX2_seekSecond_51 : decode cX2_seekSecond 51 = .ok (.imul, 1) := by decide +kernel
theorem dX2_seekSecond_52 : decode cX2_seekSecond 52 = .ok (.isub, 1) := by decide +kernel
theorem dX2_seekSecond_53 : decode cX2_seekSecond 53 = .ok (.istore 8, 2) := by decide +kernel
theorem dX2_seekSecond_55 : decode cX2_seekSecond 55 = .ok (.aload_n 0, 1) := by decide +kernel
theorem dX2_seekSecond_56 : decode cX2_seekSecond 56 = .ok (.iload 7, 2) := by decide +kernel
theorem dX2_seekSecond_58 : decode cX2_seekSecond 58 = .ok (.iload 8, 2) := by decide +kernel
theorem dX2_seekSecond_60 : decode cX2_seekSecond 60 = .ok (.invokevirtual 42, 3) := by decide +kernel
theorem dX2_seekSecond_63 : decode cX2_seekSecond 63 = .ok (.aload_n 0, 1) := by decide +kernel
theorem dX2_seekSecond_64 : decode cX2_seekSecond 64 = .ok (.getfield 22, 3) := by decide +kernel
theorem dX2_seekSecond_67 : decode cX2_seekSecond 67 = .ok (.lcmp, 1) := by decide +kernel
theorem dX2_seekSecond_68 : decode cX2_seekSecond 68 = .ok (.ifCond .ge 23, 3) := by decide +kernel
theorem dX2_seekSecond_71 : decode cX2_seekSecond 71 = .ok (.aload_n 0, 1) := by decide +kernel
theorem dX2_seekSecond_72 : decode cX2_seekSecond 72 = .ok (.bipush 100, 2) := by decide +kernel
theorem dX2_seekSecond_74 : decode cX2_seekSecond 74 = .ok (.bipush 100, 2) := by decide +kernel
theorem dX2_seekSecond_76 : decode cX2_seekSecond 76 = .ok (.iload_n 1, 1) := by decide +kernel
theorem dX2_seekSecond_77 : decode cX2_seekSecond 77 = .ok (.imul, 1) := by decide +kernel
theorem dX2_seekSecond_78 : decode cX2_seekSecond 78 = .ok (.iload 5, 2) := by decide +kernel
theorem dX2_seekSecond_80 : decode cX2_seekSecond 80 = .ok (.iadd, 1) := by decide +kernel
theorem dX2_seekSecond_81 : decode cX2_seekSecond 81 = .ok (.imul, 1) := by decide +kernel
theorem dX2_seekSecond_82 : decode cX2_seekSecond 82 = .ok (.iload 6, 2) := by decide +kernel
theorem dX2_seekSecond_84 : decode cX2_seekSecond 84 = .ok (.iload 7, 2) := by decide +kernel
theorem dX2_seekSecond_86 : decode cX2_seekSecond 86 = .ok (.iload 8, 2) := by decide +kernel
theorem dX2_seekSecond_88 : decode cX2_seekSecond 88 = .ok (.invokevirtual 46, 3) := by decide +kernel
theorem dX2_seekSecond_91 : decode cX2_seekSecond 91 = .ok (.iinc 5 1, 3) := by decide +kernel
theorem dX2_seekSecond_94 : decode cX2_seekSecond 94 = .ok (.goto (-91), 3) := by decide +kernel
theorem dX2_seekSecond_97 : decode cX2_seekSecond 97 = .ok (.return_, 1) := by decide +kernel
theorem dX2_seekThird_0 : decode cX2_seekThird 0 = .ok (.iconst 0, 1) := by decide +kernel
theorem dX2_seekThird_1 : decode cX2_seekThird 1 = .ok (.istore 5, 2) := by decide +kernel
theorem dX2_seekThird_3 : decode cX2_seekThird 3 = .ok (.iload 5, 2) := by decide +kernel
theorem dX2_seekThird_5 : decode cX2_seekThird 5 = .ok (.bipush 36, 2) := by decide +kernel
theorem dX2_seekThird_7 : decode cX2_seekThird 7 = .ok (.if_icmp .ge 99, 3) := by decide +kernel
theorem dX2_seekThird_10 : decode cX2_seekThird 10 = .ok (.aload_n 0, 1) := by decide +kernel
theorem dX2_seekThird_11 : decode cX2_seekThird 11 = .ok (.getfield 9, 3) := by decide +kernel
theorem dX2_seekThird_14 : decode cX2_seekThird 14 = .ok (.bipush 72, 2) := by decide +kernel
theorem dX2_seekThird_16 : decode cX2_seekThird 16 = .ok (.iload 5, 2) := by decide +kernel
theorem dX2_seekThird_18 : decode cX2_seekThird 18 = .ok (.iadd, 1) := by decide +kernel
theorem dX2_seekThird_19 : decode cX2_seekThird 19 = .ok (.baload, 1) := by decide +kernel
theorem dX2_seekThird_20 : decode cX2_seekThird 20 = .ok (.ifCond .eq 80, 3) := by decide +kernel
theorem dX2_seekThird_23 : decode cX2_seekThird 23 = .ok (.iload_n 2, 1) := by decide +kernel
theorem dX2_seekThird_24 : decode cX2_seekThird 24 = .ok (.iload 5, 2) := by decide +kernel
theorem dX2_seekThird_26 : decode cX2_seekThird 26 = .ok (.iadd, 1) := by decide +kernel
theorem dX2_seekThird_27 : decode cX2_seekThird 27 = .ok (.invokestatic 26, 3) := by decide +kernel
theorem dX2_seekThird_30 : decode cX2_seekThird 30 = .ok (.istore 6, 2) := by decide +kernel
theorem dX2_seekThird_32 : decode cX2_seekThird 32 = .ok (.iload_n 3, 1) := by decide +kernel
theorem dX2_seekThird_33 : decode cX2_seekThird 33 = .ok (.aload_n 0, 1) := by decide +kernel
theorem dX2_seekThird_34 : decode cX2_seekThird 34 = .ok (.getfield 15, 3) := by decide +kernel
theorem dX2_seekThird_37 : decode cX2_seekThird 37 = .ok (.iload 6, 2) := by decide +kernel
theorem dX2_seekThird_39 : decode cX2_seekThird 39 = .ok (.invokestatic 32, 3) := by decide +kernel
theorem dX2_seekThird_42 : decode cX2_seekThird 42 = .ok (.imul, 1) := by decide +kernel
theorem dX2_seekThird_43 : decode cX2_seekThird 43 = .ok (.isub, 1) := by decide +kernel
theorem dX2_seekThird_44 : decode cX2_seekThird 44 = .ok (.i2l, 1) := by decide +kernel
theorem dX2_seekThird_45 : decode cX2_seekThird 45 = .ok (.lstore 7, 2) := by decide +kernel
theorem dX2_seekThird_47 : decode cX2_seekThird 47 = .ok (.iload 4, 2) := by decide +kernel
theorem dX2_seekThird_49 : decode cX2_seekThird 49 = .ok (.aload_n 0, 1) := by decide +kernel
theorem dX2_seekThird_50 : decode cX2_seekThird 50 = .ok (.getfield 15, 3) := by decide +kernel
theorem dX2_seekThird_53 : decode cX2_seekThird 53 = .ok (.iload 6, 2) := by decide +kernel
theorem dX2_seekThird_55 : decode cX2_seekThird 55 = .ok (.invokestatic 35, 3) := by decide +kernel
theorem dX2_seekThird_58 : decode cX2_seekThird 58 = .ok (.imul, 1) := by decide +kernel
theorem dX2_seekThird_59 : decode cX2_seekThird 59 = .ok (.isub, 1) := by decide +kernel
theorem dX2_seekThird_60 : decode cX2_seekThird 60 = .ok (.i2l, 1) := by decide +kernel
theorem dX2_seekThird_61 : decode cX2_seekThird 61 = .ok (.lstore 9, 2) := by decide +kernel
theorem dX2_seekThird_63 : decode cX2_seekThird 63 = .ok (.lload 7, 2) := by decide +kernel
theorem dX2_seekThird_65 : decode cX2_seekThird 65 = .ok (.lload 7, 2) := by decide +kernel
theorem dX2_seekThird_67 : decode cX2_seekThird 67 = .ok (.lmul, 1) := by decide +kernel
theorem dX2_seekThird_68 : decode cX2_seekThird 68 = .ok (.lload 9, 2) := by decide +kernel
theorem dX2_seekThird_70 : decode cX2_seekThird 70 = .ok (.lload 9, 2) := by decide +kernel
theorem dX2_seekThird_72 : decode cX2_seekThird 72 = .ok (.lmul, 1) := by decide +kernel
theorem dX2_seekThird_73 : decode cX2_seekThird 73 = .ok (.ladd, 1) := by decide +kernel
theorem dX2_seekThird_74 : decode cX2_seekThird 74 = .ok (.lstore 11, 2) := by decide +kernel
theorem dX2_seekThird_76 : decode cX2_seekThird 76 = .ok (.lload 11, 2) := by decide +kernel
theorem dX2_seekThird_78 : decode cX2_seekThird 78 = .ok (.aload_n 0, 1) := by decide +kernel
theorem dX2_seekThird_79 : decode cX2_seekThird 79 = .ok (.getfield 22, 3) := by decide +kernel
theorem dX2_seekThird_82 : decode cX2_seekThird 82 = .ok (.lcmp, 1) := by decide +kernel
theorem dX2_seekThird_83 : decode cX2_seekThird 83 = .ok (.ifCond .ge 17, 3) := by decide +kernel
theorem dX2_seekThird_86 : decode cX2_seekThird 86 = .ok (.aload_n 0, 1) := by decide +kernel
theorem dX2_seekThird_87 : decode cX2_seekThird 87 = .ok (.lload 11, 2) := by decide +kernel
theorem dX2_seekThird_89 : decode cX2_seekThird 89 = .ok (.putfield 22, 3) := by decide +kernel
theorem dX2_seekThird_92 : decode cX2_seekThird 92 = .ok (.aload_n 0, 1) := by decide +kernel
theorem dX2_seekThird_93 : decode cX2_seekThird 93 = .ok (.iload_n 1, 1) := by decide +kernel
theorem dX2_seekThird_94 : decode cX2_seekThird 94 = .ok (.iload 5, 2) := by decide +kernel
theorem dX2_seekThird_96 : decode cX2_seekThird 96 = .ok (.iadd, 1) := by decide +kernel
theorem dX2_seekThird_97 : decode cX2_seekThird 97 = .ok (.putfield 19, 3) := by decide +kernel
theorem dX2_seekThird_100 : decode cX2_seekThird 100 = .ok (.iinc 5 1, 3) := by decide +kernel
theorem dX2_seekThird_103 : decode cX2_seekThird 103 = .ok (.goto (-100), 3) := by decide +kernel
theorem dX2_seekThird_106 : decode cX2_seekThird 106 = .ok (.return_, 1) := by decide +kernel
theorem dX2_atLeastLeft_0 : decode cX2_atLeastLeft 0 = .ok (.iload_n 1, 1) := by decide +kernel
theorem dX2_atLeastLeft_1 : decode cX2_atLeastLeft 1 = .ok (.invokestatic 49, 3) := by decide +kernel
theorem dX2_atLeastLeft_4 : decode cX2_atLeastLeft 4 = .ok (.iload_n 2, 1) := by decide +kernel
theorem dX2_atLeastLeft_5 : decode cX2_atLeastLeft 5 = .ok (.invokestatic 49, 3) := by decide +kernel
theorem dX2_atLeastLeft_8 : decode cX2_atLeastLeft 8 = .ok (.invokestatic 54, 3) := by decide +kernel
theorem dX2_atLeastLeft_11 : decode cX2_atLeastLeft 11 = .ok (.i2l, 1) := by decide +kernel
theorem dX2_atLeastLeft_12 : decode cX2_atLeastLeft 12 = .ok (.lstore_n 3, 1) := by decide +kernel
theorem dX2_atLeastLeft_13 : decode cX2_atLeastLeft 13 = .ok (.iload_n 1, 1) := by decide +kernel
theorem dX2_atLeastLeft_14 : decode cX2_atLeastLeft 14 = .ok (.invokestatic 49, 3) := by decide +kernel
theorem dX2_atLeastLeft_17 : decode cX2_atLeastLeft 17 = .ok (.iload_n 2, 1) := by decide +kernel
theorem dX2_atLeastLeft_18 : decode cX2_atLeastLeft 18 = .ok (.invokestatic 49, 3) := by decide +kernel
theorem dX2_atLeastLeft_21 : decode cX2_atLeastLeft 21 = .ok (.invokestatic 58, 3) := by decide +kernel
theorem dX2_atLeastLeft_24 : decode cX2_atLeastLeft 24 = .ok (.i2l, 1) := by decide +kernel
theorem dX2_atLeastLeft_25 : decode cX2_atLeastLeft 25 = .ok (.lstore 5, 2) := by decide +kernel
theorem dX2_atLeastLeft_27 : decode cX2_atLeastLeft 27 = .ok (.ldc2_w 61, 3) := by decide +kernel
theorem dX2_atLeastLeft_30 : decode cX2_atLeastLeft 30 = .ok (.aload_n 0, 1) := by decide +kernel
theorem dX2_atLeastLeft_31 : decode cX2_atLeastLeft 31 = .ok (.getfield 15, 3) := by decide +kernel
theorem dX2_atLeastLeft_34 : decode cX2_atLeastLeft 34 = .ok (.i2l, 1) := by decide +kernel
theorem dX2_atLeastLeft_35 : decode cX2_atLeastLeft 35 = .ok (.lmul, 1) := by decide +kernel
theorem dX2_atLeastLeft_36 : decode cX2_atLeastLeft 36 = .ok (.lstore 7, 2) := by decide +kernel
theorem dX2_atLeastLeft_38 : decode cX2_atLeastLeft 38 = .ok (.lload_n 3, 1) := by decide +kernel
theorem dX2_atLeastLeft_39 : decode cX2_atLeastLeft 39 = .ok (.lload_n 3, 1) := by decide +kernel
theorem dX2_atLeastLeft_40 : decode cX2_atLeastLeft 40 = .ok (.lmul, 1) := by decide +kernel
theorem dX2_atLeastLeft_41 : decode cX2_atLeastLeft 41 = .ok (.lload 5, 2) := by decide +kernel
theorem dX2_atLeastLeft_43 : decode cX2_atLeastLeft 43 = .ok (.lload 5, 2) := by decide +kernel
theorem dX2_atLeastLeft_45 : decode cX2_atLeastLeft 45 = .ok (.lmul, 1) := by decide +kernel
theorem dX2_atLeastLeft_46 : decode cX2_atLeastLeft 46 = .ok (.ladd, 1) := by decide +kernel
theorem dX2_atLeastLeft_47 : decode cX2_atLeastLeft 47 = .ok (.lload 7, 2) := by decide +kernel
theorem dX2_atLeastLeft_49 : decode cX2_atLeastLeft 49 = .ok (.lload 7, 2) := by decide +kernel
theorem dX2_atLeastLeft_51 : decode cX2_atLeastLeft 51 = .ok (.lmul, 1) := by decide +kernel
theorem dX2_atLeastLeft_52 : decode cX2_atLeastLeft 52 = .ok (.ladd, 1) := by decide +kernel
theorem dX2_atLeastLeft_53 : decode cX2_atLeastLeft 53 = .ok (.lload 7, 2) := by decide +kernel
theorem dX2_atLeastLeft_55 : decode cX2_atLeastLeft 55 = .ok (.ldc2_w 63, 3) := by decide +kernel
theorem dX2_atLeastLeft_58 : decode cX2_atLeastLeft 58 = .ok (.lload_n 3, 1) := by decide +kernel
theorem dX2_atLeastLeft_59 : decode cX2_atLeastLeft 59 = .ok (.lmul, 1) := by decide +kernel
theorem dX2_atLeastLeft_60 : decode cX2_atLeastLeft 60 = .ok (.lload 5, 2) := by decide +kernel
theorem dX2_atLeastLeft_62 : decode cX2_atLeastLeft 62 = .ok (.ladd, 1) := by decide +kernel
theorem dX2_atLeastLeft_63 : decode cX2_atLeastLeft 63 = .ok (.lmul, 1) := by decide +kernel
theorem dX2_atLeastLeft_64 : decode cX2_atLeastLeft 64 = .ok (.lsub, 1) := by decide +kernel
theorem dX2_atLeastLeft_65 : decode cX2_atLeastLeft 65 = .ok (.lreturn, 1) := by decide +kernel
theorem dX3_cOf_0 : decode cX3_cOf 0 = .ok (.getstatic 7, 3) := by decide +kernel
theorem dX3_cOf_3 : decode cX3_cOf 3 = .ok (.iload_n 0, 1) := by decide +kernel
theorem dX3_cOf_4 : decode cX3_cOf 4 = .ok (.iaload, 1) := by decide +kernel
theorem dX3_cOf_5 : decode cX3_cOf 5 = .ok (.ireturn, 1) := by decide +kernel
theorem dX3_sOf_0 : decode cX3_sOf 0 = .ok (.getstatic 7, 3) := by decide +kernel
theorem dX3_sOf_3 : decode cX3_sOf 3 = .ok (.iload_n 0, 1) := by decide +kernel
theorem dX3_sOf_4 : decode cX3_sOf 4 = .ok (.bipush 9, 2) := by decide +kernel
theorem dX3_sOf_6 : decode cX3_sOf 6 = .ok (.if_icmp .ge 10, 3) := by decide +kernel
theorem dX3_sOf_9 : decode cX3_sOf 9 = .ok (.iload_n 0, 1) := by decide +kernel
theorem dX3_sOf_10 : decode cX3_sOf 10 = .ok (.bipush 27, 2) := by decide +kernel
theorem dX3_sOf_12 : decode cX3_sOf 12 = .ok (.iadd, 1) := by decide +kernel
theorem dX3_sOf_13 : decode cX3_sOf 13 = .ok (.goto 7, 3) := by decide +kernel
theorem dX3_sOf_16 : decode cX3_sOf 16 = .ok (.iload_n 0, 1) := by decide +kernel
theorem dX3_sOf_17 : decode cX3_sOf 17 = .ok (.bipush 9, 2) := by decide +kernel
theorem dX3_sOf_19 : decode cX3_sOf 19 = .ok (.isub, 1) := by decide +kernel
theorem dX3_sOf_20 : decode cX3_sOf 20 = .ok (.iaload, 1) := by decide +kernel
theorem dX3_sOf_21 : decode cX3_sOf 21 = .ok (.ireturn, 1) := by decide +kernel
theorem dX3_part_0 : decode cX3_part 0 = .ok (.iload_n 1, 1) := by decide +kernel
theorem dX3_part_1 : decode cX3_part 1 = .ok (.ifCond .ne 10, 3) := by decide +kernel
theorem dX3_part_4 : decode cX3_part 4 = .ok (.iload_n 0, 1) := by decide +kernel
theorem dX3_part_5 : decode cX3_part 5 = .ok (.invokestatic 13, 3) := by decide +kernel
theorem dX3_part_8 : decode cX3_part 8 = .ok (.goto 7, 3) := by decide +kernel
theorem dX3_part_11 : decode cX3_part 11 = .ok (.iload_n 0, 1) := by decide +kernel
theorem dX3_part_12 : decode cX3_part 12 = .ok (.invokestatic 17, 3) := by decide +kernel
theorem dX3_part_15 : decode cX3_part 15 = .ok (.ireturn, 1) := by decide +kernel
theorem dX3_round_0 : decode cX3_round 0 = .ok (.iload_n 0, 1) := by decide +kernel
theorem dX3_round_1 : decode cX3_round 1 = .ok (.bipush 36, 2) := by decide +kernel
theorem dX3_round_3 : decode cX3_round 3 = .ok (.irem, 1) := by decide +kernel
theorem dX3_round_4 : decode cX3_round 4 = .ok (.ireturn, 1) := by decide +kernel
theorem dX4_init_0 : decode cX4_init 0 = .ok (.aload_n 0, 1) := by decide +kernel
theorem dX4_init_1 : decode cX4_init 1 = .ok (.invokespecial 1, 3) := by decide +kernel
theorem dX4_init_4 : decode cX4_init 4 = .ok (.aload_n 0, 1) := by decide +kernel
theorem dX4_init_5 : decode cX4_init 5 = .ok (.bipush 100, 2) := by decide +kernel
theorem dX4_init_7 : decode cX4_init 7 = .ok (.newarray .int, 2) := by decide +kernel
theorem dX4_init_9 : decode cX4_init 9 = .ok (.putfield 9, 3) := by decide +kernel
theorem dX4_init_12 : decode cX4_init 12 = .ok (.aload_n 0, 1) := by decide +kernel
theorem dX4_init_13 : decode cX4_init 13 = .ok (.iconst (-1), 1) := by decide +kernel
theorem dX4_init_14 : decode cX4_init 14 = .ok (.putfield 13, 3) := by decide +kernel
theorem dX4_init_17 : decode cX4_init 17 = .ok (.aload_n 0, 1) := by decide +kernel
theorem dX4_init_18 : decode cX4_init 18 = .ok (.iconst 0, 1) := by decide +kernel
theorem dX4_init_19 : decode cX4_init 19 = .ok (.putfield 17, 3) := by decide +kernel
theorem dX4_init_22 : decode cX4_init 22 = .ok (.return_, 1) := by decide +kernel
theorem dX4_isForm_0 : decode cX4_isForm 0 = .ok (.iload_n 0, 1) := by decide +kernel
theorem dX4_isForm_1 : decode cX4_isForm 1 = .ok (.ifCond .lt 12, 3) := by decide +kernel
theorem dX4_isForm_4 : decode cX4_isForm 4 = .ok (.iload_n 0, 1) := by decide +kernel
theorem dX4_isForm_5 : decode cX4_isForm 5 = .ok (.iconst 2, 1) := by decide +kernel
theorem dX4_isForm_6 : decode cX4_isForm 6 = .ok (.if_icmp .gt 7, 3) := by decide +kernel
theorem dX4_isForm_9 : decode cX4_isForm 9 = .ok (.iconst 1, 1) := by decide +kernel
theorem dX4_isForm_10 : decode cX4_isForm 10 = .ok (.goto 4, 3) := by decide +kernel
theorem dX4_isForm_13 : decode cX4_isForm 13 = .ok (.iconst 0, 1) := by decide +kernel
theorem dX4_isForm_14 : decode cX4_isForm 14 = .ok (.ireturn, 1) := by decide +kernel
theorem dX4_lowestBits_0 : decode cX4_lowestBits 0 = .ok (.iload_n 0, 1) := by decide +kernel
theorem dX4_lowestBits_1 : decode cX4_lowestBits 1 = .ok (.ifCond .ne 6, 3) := by decide +kernel
theorem dX4_lowestBits_4 : decode cX4_lowestBits 4 = .ok (.iload_n 1, 1) := by decide +kernel
theorem dX4_lowestBits_5 : decode cX4_lowestBits 5 = .ok (.i2b, 1) := by decide +kernel
theorem dX4_lowestBits_6 : decode cX4_lowestBits 6 = .ok (.ireturn, 1) := by decide +kernel
theorem dX4_lowestBits_7 : decode cX4_lowestBits 7 = .ok (.iload_n 0, 1) := by decide +kernel
theorem dX4_lowestBits_8 : decode cX4_lowestBits 8 = .ok (.iconst 1, 1) := by decide +kernel
theorem dX4_lowestBits_9 : decode cX4_lowestBits 9 = .ok (.if_icmp .ne 8, 3) := by decide +kernel
theorem dX4_lowestBits_12 : decode cX4_lowestBits 12 = .ok (.iload_n 1, 1) := by decide +kernel
theorem dX4_lowestBits_13 : decode cX4_lowestBits 13 = .ok (.i2s, 1) := by decide +kernel
theorem dX4_lowestBits_14 : decode cX4_lowestBits 14 = .ok (.goto 4, 3) := by decide +kernel
theorem dX4_lowestBits_17 : decode cX4_lowestBits 17 = .ok (.iload_n 1, 1) := by decide +kernel
theorem dX4_lowestBits_18 : decode cX4_lowestBits 18 = .ok (.ireturn, 1) := by decide +kernel
theorem dX4_isLost_0 : decode cX4_isLost 0 = .ok (.aload_n 0, 1) := by decide +kernel
theorem dX4_isLost_1 : decode cX4_isLost 1 = .ok (.getfield 13, 3) := by decide +kernel
theorem dX4_isLost_4 : decode cX4_isLost 4 = .ok (.iconst (-1), 1) := by decide +kernel
theorem dX4_isLost_5 : decode cX4_isLost 5 = .ok (.if_icmp .ne 7, 3) := by decide +kernel
theorem dX4_isLost_8 : decode cX4_isLost 8 = .ok (.iconst 1, 1) := by decide +kernel
theorem dX4_isLost_9 : decode cX4_isLost 9 = .ok (.goto 4, 3) := by decide +kernel
theorem dX4_isLost_12 : decode cX4_isLost 12 = .ok (.iconst 0, 1) := by decide +kernel
theorem dX4_isLost_13 : decode cX4_isLost 13 = .ok (.ireturn, 1) := by decide +kernel
theorem dX4_begin_0 : decode cX4_begin 0 = .ok (.aload_n 0, 1) := by decide +kernel
theorem dX4_begin_1 : decode cX4_begin 1 = .ok (.iload_n 1, 1) := by decide +kernel
theorem dX4_begin_2 : decode cX4_begin 2 = .ok (.putfield 13, 3) := by decide +kernel
theorem dX4_begin_5 : decode cX4_begin 5 = .ok (.aload_n 0, 1) := by decide +kernel
theorem dX4_begin_6 : decode cX4_begin 6 = .ok (.iload_n 2, 1) := by decide +kernel
theorem dX4_begin_7 : decode cX4_begin 7 = .ok (.putfield 17, 3) := by decide +kernel
theorem dX4_begin_10 : decode cX4_begin 10 = .ok (.aload_n 0, 1) := by decide +kernel
theorem dX4_begin_11 : decode cX4_begin 11 = .ok (.getfield 9, 3) := by decide +kernel
theorem dX4_begin_14 : decode cX4_begin 14 = .ok (.iconst 0, 1) := by decide +kernel
theorem dX4_begin_15 : decode cX4_begin 15 = .ok (.invokestatic 20, 3) := by decide +kernel
theorem dX4_begin_18 : decode cX4_begin 18 = .ok (.return_, 1) := by decide +kernel
theorem dX4_end_0 : decode cX4_end 0 = .ok (.aload_n 0, 1) := by decide +kernel
theorem dX4_end_1 : decode cX4_end 1 = .ok (.getfield 17, 3) := by decide +kernel
theorem dX4_end_4 : decode cX4_end 4 = .ok (.istore_n 1, 1) := by decide +kernel
theorem dX4_end_5 : decode cX4_end 5 = .ok (.aload_n 0, 1) := by decide +kernel
theorem dX4_end_6 : decode cX4_end 6 = .ok (.iconst (-1), 1) := by decide +kernel
theorem dX4_end_7 : decode cX4_end 7 = .ok (.putfield 13, 3) := by decide +kernel
theorem dX4_end_10 : decode cX4_end 10 = .ok (.aload_n 0, 1) := by decide +kernel
theorem dX4_end_11 : decode cX4_end 11 = .ok (.iconst 0, 1) := by decide +kernel
theorem dX4_end_12 : decode cX4_end 12 = .ok (.putfield 17, 3) := by decide +kernel
theorem dX4_end_15 : decode cX4_end 15 = .ok (.iload_n 1, 1) := by decide +kernel
theorem dX4_end_16 : decode cX4_end 16 = .ok (.ireturn, 1) := by decide +kernel
theorem dX4_has_0 : decode cX4_has 0 = .ok (.iload_n 1, 1) := by decide +kernel
theorem dX4_has_1 : decode cX4_has 1 = .ok (.ifCond .lt 15, 3) := by decide +kernel
theorem dX4_has_4 : decode cX4_has 4 = .ok (.iload_n 1, 1) := by decide +kernel
theorem dX4_has_5 : decode cX4_has 5 = .ok (.aload_n 0, 1) := by decide +kernel
theorem dX4_has_6 : decode cX4_has 6 = .ok (.getfield 17, 3) := by decide +kernel
theorem dX4_has_9 : decode cX4_has 9 = .ok (.if_icmp .ge 7, 3) := by decide +kernel
theorem dX4_has_12 : decode cX4_has 12 = .ok (.iconst 1, 1) := by decide +kernel
theorem dX4_has_13 : decode cX4_has 13 = .ok (.goto 4, 3) := by decide +kernel
theorem dX4_has_16 : decode cX4_has 16 = .ok (.iconst 0, 1) := by decide +kernel
theorem dX4_has_17 : decode cX4_has 17 = .ok (.ireturn, 1) := by decide +kernel
theorem dX4_hasRun_0 : decode cX4_hasRun 0 = .ok (.iload_n 1, 1) := by decide +kernel
theorem dX4_hasRun_1 : decode cX4_hasRun 1 = .ok (.ifCond .lt 21, 3) := by decide +kernel
theorem dX4_hasRun_4 : decode cX4_hasRun 4 = .ok (.iload_n 2, 1) := by decide +kernel
theorem dX4_hasRun_5 : decode cX4_hasRun 5 = .ok (.ifCond .lt 17, 3) := by decide +kernel
theorem dX4_hasRun_8 : decode cX4_hasRun 8 = .ok (.iload_n 2, 1) := by decide +kernel
theorem dX4_hasRun_9 : decode cX4_hasRun 9 = .ok (.aload_n 0, 1) := by decide +kernel
theorem dX4_hasRun_10 : decode cX4_hasRun 10 = .ok (.getfield 17, 3) := by decide +kernel
theorem dX4_hasRun_13 : decode cX4_hasRun 13 = .ok (.iload_n 1, 1) := by decide +kernel
theorem dX4_hasRun_14 : decode cX4_hasRun 14 = .ok (.isub, 1) := by decide +kernel
theorem dX4_hasRun_15 : decode cX4_hasRun 15 = .ok (.if_icmp .gt 7, 3) := by decide +kernel
theorem dX4_hasRun_18 : decode cX4_hasRun 18 = .ok (.iconst 1, 1) := by decide +kernel
theorem dX4_hasRun_19 : decode cX4_hasRun 19 = .ok (.goto 4, 3) := by decide +kernel
theorem dX4_hasRun_22 : decode cX4_hasRun 22 = .ok (.iconst 0, 1) := by decide +kernel
theorem dX4_hasRun_23 : decode cX4_hasRun 23 = .ok (.ireturn, 1) := by decide +kernel
theorem dX4_hasMeasureAt_0 : decode cX4_hasMeasureAt 0 = .ok (.aload_n 0, 1) := by decide +kernel
theorem dX4_hasMeasureAt_1 : decode cX4_hasMeasureAt 1 = .ok (.iload_n 1, 1) := by decide +kernel
theorem dX4_hasMeasureAt_2 : decode cX4_hasMeasureAt 2 = .ok (.invokevirtual 26, 3) := by decide +kernel
theorem dX4_hasMeasureAt_5 : decode cX4_hasMeasureAt 5 = .ok (.ifCond .eq 31, 3) := by decide +kernel
theorem dX4_hasMeasureAt_8 : decode cX4_hasMeasureAt 8 = .ok (.aload_n 0, 1) := by decide +kernel
theorem dX4_hasMeasureAt_9 : decode cX4_hasMeasureAt 9 = .ok (.getfield 9, 3) := by decide +kernel
theorem dX4_hasMeasureAt_12 : decode cX4_hasMeasureAt 12 = .ok (.iload_n 1, 1) := by decide +kernel
theorem dX4_hasMeasureAt_13 : decode cX4_hasMeasureAt 13 = .ok (.iaload, 1) := by decide +kernel
theorem dX4_hasMeasureAt_14 : decode cX4_hasMeasureAt 14 = .ok (.sipush (-9999), 3) := by decide +kernel
theorem dX4_hasMeasureAt_17 : decode cX4_hasMeasureAt 17 = .ok (.if_icmp .lt 19, 3) := by decide +kernel
theorem dX4_hasMeasureAt_20 : decode cX4_hasMeasureAt 20 = .ok (.aload_n 0, 1) := by decide +kernel
theorem dX4_hasMeasureAt_21 : decode cX4_hasMeasureAt 21 = .ok (.getfield 9, 3) := by decide +kernel
theorem dX4_hasMeasureAt_24 : decode cX4_hasMeasureAt 24 = .ok (.iload_n 1, 1) := by decide +kernel
theorem dX4_hasMeasureAt_25 : decode cX4_hasMeasureAt 25 = .ok (.iaload, 1) := by decide +kernel
theorem dX4_hasMeasureAt_26 : decode cX4_hasMeasureAt 26 = .ok (.sipush 9999, 3) := by decide +kernel
theorem dX4_hasMeasureAt_29 : decode cX4_hasMeasureAt 29 = .ok (.if_icmp .gt 7, 3) := by decide +kernel
theorem dX4_hasMeasureAt_32 : decode cX4_hasMeasureAt 32 = .ok (.iconst 1, 1) := by decide +kernel
theorem dX4_hasMeasureAt_33 : decode cX4_hasMeasureAt 33 = .ok (.goto 4, 3) := by decide +kernel
theorem dX4_hasMeasureAt_36 : decode cX4_hasMeasureAt 36 = .ok (.iconst 0, 1) := by decide +kernel
theorem dX4_hasMeasureAt_37 : decode cX4_hasMeasureAt 37 = .ok (.ireturn, 1) := by decide +kernel
theorem dX5_init_0 : decode cX5_init 0 = .ok (.aload_n 0, 1) := by decide +kernel
theorem dX5_init_1 : decode cX5_init 1 = .ok (.invokespecial 1, 3) := by decide +kernel
theorem dX5_init_4 : decode cX5_init 4 = .ok (.aload_n 0, 1) := by decide +kernel
theorem dX5_init_5 : decode cX5_init 5 = .ok (.iconst 0, 1) := by decide +kernel
theorem dX5_init_6 : decode cX5_init 6 = .ok (.putfield 7, 3) := by decide +kernel
theorem dX5_init_9 : decode cX5_init 9 = .ok (.aload_n 0, 1) := by decide +kernel
theorem dX5_init_10 : decode cX5_init 10 = .ok (.iconst 0, 1) := by decide +kernel
theorem dX5_init_11 : decode cX5_init 11 = .ok (.putfield 13, 3) := by decide +kernel
theorem dX5_init_14 : decode cX5_init 14 = .ok (.return_, 1) := by decide +kernel
theorem dX5_read_0 : decode cX5_read 0 = .ok (.aload_n 0, 1) := by decide +kernel
theorem dX5_read_1 : decode cX5_read 1 = .ok (.iconst 0, 1) := by decide +kernel
theorem dX5_read_2 : decode cX5_read 2 = .ok (.putfield 7, 3) := by decide +kernel
theorem dX5_read_5 : decode cX5_read 5 = .ok (.aload_n 0, 1) := by decide +kernel
theorem dX5_read_6 : decode cX5_read 6 = .ok (.iconst 0, 1) := by decide +kernel
theorem dX5_read_7 : decode cX5_read 7 = .ok (.putfield 13, 3) := by decide +kernel
theorem dX5_read_10 : decode cX5_read 10 = .ok (.iload_n 2, 1) := by decide +kernel
theorem dX5_read_11 : decode cX5_read 11 = .ok (.istore 4, 2) := by decide +kernel
theorem dX5_read_13 : decode cX5_read 13 = .ok (.iload 4, 2) := by decide +kernel
theorem dX5_read_15 : decode cX5_read 15 = .ok (.iload_n 3, 1) := by decide +kernel
theorem dX5_read_16 : decode cX5_read 16 = .ok (.if_icmp .gt 58, 3) := by decide +kernel
theorem dX5_read_19 : decode cX5_read 19 = .ok (.aload_n 0, 1) := by decide +kernel
theorem dX5_read_20 : decode cX5_read 20 = .ok (.getfield 7, 3) := by decide +kernel
theorem dX5_read_23 : decode cX5_read 23 = .ok (.bipush 50, 2) := by decide +kernel
theorem dX5_read_25 : decode cX5_read 25 = .ok (.if_icmp .ge 49, 3) := by decide +kernel
theorem dX5_read_28 : decode cX5_read 28 = .ok (.aload_n 1, 1) := by decide +kernel
theorem dX5_read_29 : decode cX5_read 29 = .ok (.getfield 16, 3) := by decide +kernel
theorem dX5_read_32 : decode cX5_read 32 = .ok (.iload 4, 2) := by decide +kernel
theorem dX5_read_34 : decode cX5_read 34 = .ok (.iaload, 1) := by decide +kernel
theorem dX5_read_35 : decode cX5_read 35 = .ok (.ifCond .eq 13, 3) := by decide +kernel
theorem dX5_read_38 : decode cX5_read 38 = .ok (.aload_n 0, 1) := by decide +kernel
theorem dX5_read_39 : decode cX5_read 39 = .ok (.dup, 1) := by decide +kernel
theorem dX5_read_40 : decode cX5_read 40 = .ok (.getfield 7, 3) := by decide +kernel
theorem dX5_read_43 : decode cX5_read 43 = .ok (.iconst 1, 1) := by decide +kernel
theorem dX5_read_44 : decode cX5_read 44 = .ok (.iadd, 1) := by decide +kernel
theorem dX5_read_45 : decode cX5_read 45 = .ok (.putfield 7, 3) := by decide +kernel
theorem dX5_read_48 : decode cX5_read 48 = .ok (.aload_n 1, 1) := by decide +kernel
theorem dX5_read_49 : decode cX5_read 49 = .ok (.getfield 16, 3) := by decide +kernel
theorem dX5_read_52 : decode cX5_read 52 = .ok (.iload 4, 2) := by decide +kernel
theorem dX5_read_54 : decode cX5_read 54 = .ok (.iaload, 1) := by decide +kernel
theorem dX5_read_55 : decode cX5_read 55 = .ok (.ifCond .le 13, 3) := by decide +kernel
theorem dX5_read_58 : decode cX5_read 58 = .ok (.aload_n 0, 1) := by decide +kernel
theorem dX5_read_59 : decode cX5_read 59 = .ok (.dup, 1) := by decide +kernel
theorem dX5_read_60 : decode cX5_read 60 = .ok (.getfield 13, 3) := by decide +kernel
theorem dX5_read_63 : decode cX5_read 63 = .ok (.iconst 1, 1) := by decide +kernel
theorem dX5_read_64 : decode cX5_read 64 = .ok (.iadd, 1) := by decide +kernel
theorem dX5_read_65 : decode cX5_read 65 = .ok (.putfield 13, 3) := by decide +kernel
theorem dX5_read_68 : decode cX5_read 68 = .ok (.iinc 4 1, 3) := by decide +kernel
theorem dX5_read_71 : decode cX5_read 71 = .ok (.goto (-58), 3) := by decide +kernel
theorem dX5_read_74 : decode cX5_read 74 = .ok (.return_, 1) := by decide +kernel
theorem dX5_falseShare_0 : decode cX5_falseShare 0 = .ok (.lconst 1, 1) := by decide +kernel
theorem dX5_falseShare_1 : decode cX5_falseShare 1 = .ok (.aload_n 0, 1) := by decide +kernel
theorem dX5_falseShare_2 : decode cX5_falseShare 2 = .ok (.getfield 7, 3) := by decide +kernel
theorem dX5_falseShare_5 : decode cX5_falseShare 5 = .ok (.lshl, 1) := by decide +kernel
theorem dX5_falseShare_6 : decode cX5_falseShare 6 = .ok (.lstore_n 1, 1) := by decide +kernel
theorem dX5_falseShare_7 : decode cX5_falseShare 7 = .ok (.lload_n 1, 1) := by decide +kernel
theorem dX5_falseShare_8 : decode cX5_falseShare 8 = .ok (.ldc2_w 22, 3) := by decide +kernel
theorem dX5_falseShare_11 : decode cX5_falseShare 11 = .ok (.aload_n 0, 1) := by decide +kernel
theorem dX5_falseShare_12 : decode cX5_falseShare 12 = .ok (.aload_n 0, 1) := by decide +kernel
theorem dX5_falseShare_13 : decode cX5_falseShare 13 = .ok (.getfield 13, 3) := by decide +kernel
theorem dX5_falseShare_16 : decode cX5_falseShare 16 = .ok (.aload_n 0, 1) := by decide +kernel
theorem dX5_falseShare_17 : decode cX5_falseShare 17 = .ok (.getfield 7, 3) := by decide +kernel
theorem dX5_falseShare_20 : decode cX5_falseShare 20 = .ok (.aload_n 0, 1) := by decide +kernel
theorem dX5_falseShare_21 : decode cX5_falseShare 21 = .ok (.getfield 13, 3) := by decide +kernel
theorem dX5_falseShare_24 : decode cX5_falseShare 24 = .ok (.isub, 1) := by decide +kernel
theorem dX5_falseShare_25 : decode cX5_falseShare 25 = .ok (.invokestatic 24, 3) := by decide +kernel
theorem dX5_falseShare_28 : decode cX5_falseShare 28 = .ok (.invokevirtual 30, 3) := by decide +kernel
theorem dX5_falseShare_31 : decode cX5_falseShare 31 = .ok (.lmul, 1) := by decide +kernel
theorem dX5_falseShare_32 : decode cX5_falseShare 32 = .ok (.invokestatic 34, 3) := by decide +kernel
theorem dX5_falseShare_35 : decode cX5_falseShare 35 = .ok (.aload_n 0, 1) := by decide +kernel
theorem dX5_falseShare_36 : decode cX5_falseShare 36 = .ok (.getfield 7, 3) := by decide +kernel
theorem dX5_falseShare_39 : decode cX5_falseShare 39 = .ok (.invokestatic 37, 3) := by decide +kernel
theorem dX5_falseShare_42 : decode cX5_falseShare 42 = .ok (.ireturn, 1) := by decide +kernel
theorem dX5_rowsUpTo_0 : decode cX5_rowsUpTo 0 = .ok (.lconst 1, 1) := by decide +kernel
theorem dX5_rowsUpTo_1 : decode cX5_rowsUpTo 1 = .ok (.lstore_n 2, 1) := by decide +kernel
theorem dX5_rowsUpTo_2 : decode cX5_rowsUpTo 2 = .ok (.lconst 1, 1) := by decide +kernel
theorem dX5_rowsUpTo_3 : decode cX5_rowsUpTo 3 = .ok (.lstore 4, 2) := by decide +kernel
theorem dX5_rowsUpTo_5 : decode cX5_rowsUpTo 5 = .ok (.iconst 1, 1) := by decide +kernel
theorem dX5_rowsUpTo_6 : decode cX5_rowsUpTo 6 = .ok (.istore 6, 2) := by decide +kernel
theorem dX5_rowsUpTo_8 : decode cX5_rowsUpTo 8 = .ok (.iload 6, 2) := by decide +kernel
theorem dX5_rowsUpTo_10 : decode cX5_rowsUpTo 10 = .ok (.iload_n 1, 1) := by decide +kernel
theorem dX5_rowsUpTo_11 : decode cX5_rowsUpTo 11 = .ok (.if_icmp .gt 32, 3) := by decide +kernel
theorem dX5_rowsUpTo_14 : decode cX5_rowsUpTo 14 = .ok (.lload_n 2, 1) := by decide +kernel
theorem dX5_rowsUpTo_15 : decode cX5_rowsUpTo 15 = .ok (.aload_n 0, 1) := by decide +kernel
theorem dX5_rowsUpTo_16 : decode cX5_rowsUpTo 16 = .ok (.getfield 7, 3) := by decide +kernel
theorem dX5_rowsUpTo_19 : decode cX5_rowsUpTo 19 = .ok (.iload 6, 2) := by decide +kernel
theorem dX5_rowsUpTo_21 : decode cX5_rowsUpTo 21 = .ok (.isub, 1) := by decide +kernel
theorem dX5_rowsUpTo_22 : decode cX5_rowsUpTo 22 = .ok (.iconst 1, 1) := by decide +kernel
theorem dX5_rowsUpTo_23 : decode cX5_rowsUpTo 23 = .ok (.iadd, 1) := by decide +kernel
theorem dX5_rowsUpTo_24 : decode cX5_rowsUpTo 24 = .ok (.i2l, 1) := by decide +kernel
theorem dX5_rowsUpTo_25 : decode cX5_rowsUpTo 25 = .ok (.lmul, 1) := by decide +kernel
theorem dX5_rowsUpTo_26 : decode cX5_rowsUpTo 26 = .ok (.iload 6, 2) := by decide +kernel
theorem dX5_rowsUpTo_28 : decode cX5_rowsUpTo 28 = .ok (.i2l, 1) := by decide +kernel
theorem dX5_rowsUpTo_29 : decode cX5_rowsUpTo 29 = .ok (.ldiv, 1) := by decide +kernel
theorem dX5_rowsUpTo_30 : decode cX5_rowsUpTo 30 = .ok (.lstore_n 2, 1) := by decide +kernel
theorem dX5_rowsUpTo_31 : decode cX5_rowsUpTo 31 = .ok (.lload 4, 2) := by decide +kernel
theorem dX5_rowsUpTo_33 : decode cX5_rowsUpTo 33 = .ok (.lload_n 2, 1) := by decide +kernel
theorem dX5_rowsUpTo_34 : decode cX5_rowsUpTo 34 = .ok (.ladd, 1) := by decide +kernel
theorem dX5_rowsUpTo_35 : decode cX5_rowsUpTo 35 = .ok (.lstore 4, 2) := by decide +kernel
theorem dX5_rowsUpTo_37 : decode cX5_rowsUpTo 37 = .ok (.iinc 6 1, 3) := by decide +kernel
theorem dX5_rowsUpTo_40 : decode cX5_rowsUpTo 40 = .ok (.goto (-32), 3) := by decide +kernel
theorem dX5_rowsUpTo_43 : decode cX5_rowsUpTo 43 = .ok (.lload 4, 2) := by decide +kernel
theorem dX5_rowsUpTo_45 : decode cX5_rowsUpTo 45 = .ok (.lreturn, 1) := by decide +kernel
theorem dX5_millionths_0 : decode cX5_millionths 0 = .ok (.lload_n 0, 1) := by decide +kernel
theorem dX5_millionths_1 : decode cX5_millionths 1 = .ok (.ldc2_w 41, 3) := by decide +kernel
theorem dX5_millionths_4 : decode cX5_millionths 4 = .ok (.lmul, 1) := by decide +kernel
theorem dX5_millionths_5 : decode cX5_millionths 5 = .ok (.iload_n 2, 1) := by decide +kernel
theorem dX5_millionths_6 : decode cX5_millionths 6 = .ok (.lshr, 1) := by decide +kernel
theorem dX5_millionths_7 : decode cX5_millionths 7 = .ok (.lstore_n 3, 1) := by decide +kernel
theorem dX5_millionths_8 : decode cX5_millionths 8 = .ok (.lload_n 0, 1) := by decide +kernel
theorem dX5_millionths_9 : decode cX5_millionths 9 = .ok (.ldc2_w 41, 3) := by decide +kernel
theorem dX5_millionths_12 : decode cX5_millionths 12 = .ok (.lmul, 1) := by decide +kernel
theorem dX5_millionths_13 : decode cX5_millionths 13 = .ok (.lload_n 3, 1) := by decide +kernel
theorem dX5_millionths_14 : decode cX5_millionths 14 = .ok (.iload_n 2, 1) := by decide +kernel
theorem dX5_millionths_15 : decode cX5_millionths 15 = .ok (.lshl, 1) := by decide +kernel
theorem dX5_millionths_16 : decode cX5_millionths 16 = .ok (.lsub, 1) := by decide +kernel
theorem dX5_millionths_17 : decode cX5_millionths 17 = .ok (.lstore 5, 2) := by decide +kernel
theorem dX5_millionths_19 : decode cX5_millionths 19 = .ok (.ldc2_w 41, 3) := by decide +kernel
theorem dX5_millionths_22 : decode cX5_millionths 22 = .ok (.lload_n 3, 1) := by decide +kernel
theorem dX5_millionths_23 : decode cX5_millionths 23 = .ok (.lmul, 1) := by decide +kernel
theorem dX5_millionths_24 : decode cX5_millionths 24 = .ok (.lload 5, 2) := by decide +kernel
theorem dX5_millionths_26 : decode cX5_millionths 26 = .ok (.ldc2_w 41, 3) := by decide +kernel
theorem dX5_millionths_29 : decode cX5_millionths 29 = .ok (.lmul, 1) := by decide +kernel
theorem dX5_millionths_30 : decode cX5_millionths 30 = .ok (.iload_n 2, 1) := by decide +kernel
theorem dX5_millionths_31 : decode cX5_millionths 31 = .ok (.lshr, 1) := by decide +kernel
theorem dX5_millionths_32 : decode cX5_millionths 32 = .ok (.ladd, 1) := by decide +kernel
theorem dX5_millionths_33 : decode cX5_millionths 33 = .ok (.l2i, 1) := by decide +kernel
theorem dX5_millionths_34 : decode cX5_millionths 34 = .ok (.ireturn, 1) := by decide +kernel
theorem dX6_init_0 : decode cX6_init 0 = .ok (.aload_n 0, 1) := by decide +kernel
theorem dX6_init_1 : decode cX6_init 1 = .ok (.invokespecial 1, 3) := by decide +kernel
theorem dX6_init_4 : decode cX6_init 4 = .ok (.aload_n 0, 1) := by decide +kernel
theorem dX6_init_5 : decode cX6_init 5 = .ok (.bipush 9, 2) := by decide +kernel
theorem dX6_init_7 : decode cX6_init 7 = .ok (.newarray .long, 2) := by decide +kernel
theorem dX6_init_9 : decode cX6_init 9 = .ok (.putfield 7, 3) := by decide +kernel
theorem dX6_init_12 : decode cX6_init 12 = .ok (.aload_n 0, 1) := by decide +kernel
theorem dX6_init_13 : decode cX6_init 13 = .ok (.iconst 3, 1) := by decide +kernel
theorem dX6_init_14 : decode cX6_init 14 = .ok (.newarray .long, 2) := by decide +kernel
theorem dX6_init_16 : decode cX6_init 16 = .ok (.putfield 13, 3) := by decide +kernel
theorem dX6_init_19 : decode cX6_init 19 = .ok (.aload_n 0, 1) := by decide +kernel
theorem dX6_init_20 : decode cX6_init 20 = .ok (.bipush 9, 2) := by decide +kernel
theorem dX6_init_22 : decode cX6_init 22 = .ok (.newarray .long, 2) := by decide +kernel
theorem dX6_init_24 : decode cX6_init 24 = .ok (.putfield 16, 3) := by decide +kernel
theorem dX6_init_27 : decode cX6_init 27 = .ok (.return_, 1) := by decide +kernel
theorem dX6_forget_0 : decode cX6_forget 0 = .ok (.aload_n 0, 1) := by decide +kernel
theorem dX6_forget_1 : decode cX6_forget 1 = .ok (.getfield 7, 3) := by decide +kernel
theorem dX6_forget_4 : decode cX6_forget 4 = .ok (.lconst 0, 1) := by decide +kernel
theorem dX6_forget_5 : decode cX6_forget 5 = .ok (.invokestatic 19, 3) := by decide +kernel
theorem dX6_forget_8 : decode cX6_forget 8 = .ok (.aload_n 0, 1) := by decide +kernel
theorem dX6_forget_9 : decode cX6_forget 9 = .ok (.getfield 13, 3) := by decide +kernel
theorem dX6_forget_12 : decode cX6_forget 12 = .ok (.lconst 0, 1) := by decide +kernel
theorem dX6_forget_13 : decode cX6_forget 13 = .ok (.invokestatic 19, 3) := by decide +kernel
theorem dX6_forget_16 : decode cX6_forget 16 = .ok (.return_, 1) := by decide +kernel
theorem dX6_addLeft_0 : decode cX6_addLeft 0 = .ok (.iconst 0, 1) := by decide +kernel
theorem dX6_addLeft_1 : decode cX6_addLeft 1 = .ok (.istore_n 3, 1) := by decide +kernel
theorem dX6_addLeft_2 : decode cX6_addLeft 2 = .ok (.iload_n 3, 1) := by decide +kernel
theorem dX6_addLeft_3 : decode cX6_addLeft 3 = .ok (.bipush 9, 2) := by decide +kernel
theorem dX6_addLeft_5 : decode cX6_addLeft 5 = .ok (.if_icmp .ge 30, 3) := by decide +kernel
theorem dX6_addLeft_8 : decode cX6_addLeft 8 = .ok (.aload_n 0, 1) := by decide +kernel
theorem dX6_addLeft_9 : decode cX6_addLeft 9 = .ok (.getfield 7, 3) := by decide +kernel
theorem dX6_addLeft_12 : decode cX6_addLeft 12 = .ok (.iload_n 3, 1) := by decide +kernel
theorem dX6_addLeft_13 : decode cX6_addLeft 13 = .ok (.dup2, 1) := by decide +kernel
theorem dX6_addLeft_14 : decode cX6_addLeft 14 = .ok (.laload, 1) := by decide +kernel
theorem dX6_addLeft_15 : decode cX6_addLeft 15 = .ok (.aload_n 1, 1) := by decide +kernel
theorem dX6_addLeft_16 : decode cX6_addLeft 16 = .ok (.getfield 25, 3) := by decide +kernel
theorem dX6_addLeft_19 : decode cX6_addLeft 19 = .ok (.bipush 9, 2) := by decide +kernel
theorem dX6_addLeft_21 : decode cX6_addLeft 21 = .ok (.iload_n 2, 1) := by decide +kernel
theorem dX6_addLeft_22 : decode cX6_addLeft 22 = .ok (.imul, 1) := by decide +kernel
theorem dX6_addLeft_23 : decode cX6_addLeft 23 = .ok (.iload_n 3, 1) := by decide +kernel
theorem dX6_addLeft_24 : decode cX6_addLeft 24 = .ok (.iadd, 1) := by decide +kernel
theorem dX6_addLeft_25 : decode cX6_addLeft 25 = .ok (.iaload, 1) := by decide +kernel
theorem dX6_addLeft_26 : decode cX6_addLeft 26 = .ok (.i2l, 1) := by decide +kernel
theorem dX6_addLeft_27 : decode cX6_addLeft 27 = .ok (.ladd, 1) := by decide +kernel
theorem dX6_addLeft_28 : decode cX6_addLeft 28 = .ok (.lastore, 1) := by decide +kernel
theorem dX6_addLeft_29 : decode cX6_addLeft 29 = .ok (.iinc 3 1, 3) := by decide +kernel
theorem dX6_addLeft_32 : decode cX6_addLeft 32 = .ok (.goto (-30), 3) := by decide +kernel
theorem dX6_addLeft_35 : decode cX6_addLeft 35 = .ok (.return_, 1) := by decide +kernel
theorem dX6_addRight_0 : decode cX6_addRight 0 = .ok (.iconst 0, 1) := by decide +kernel
theorem dX6_addRight_1 : decode cX6_addRight 1 = .ok (.istore 5, 2) := by decide +kernel
theorem dX6_addRight_3 : decode cX6_addRight 3 = .ok (.iload 5, 2) := by decide +kernel
theorem dX6_addRight_5 : decode cX6_addRight 5 = .ok (.iconst 3, 1) := by decide +kernel
theorem dX6_addRight_6 : decode cX6_addRight 6 = .ok (.if_icmp .ge 49, 3) := by decide +kernel
theorem dX6_addRight_9 : decode cX6_addRight 9 = .ok (.aload_n 1, 1) := by decide +kernel
theorem dX6_addRight_10 : decode cX6_addRight 10 = .ok (.getfield 31, 3) := by decide +kernel
theorem dX6_addRight_13 : decode cX6_addRight 13 = .ok (.iconst 3, 1) := by decide +kernel
theorem dX6_addRight_14 : decode cX6_addRight 14 = .ok (.iload_n 2, 1) := by decide +kernel
theorem dX6_addRight_15 : decode cX6_addRight 15 = .ok (.imul, 1) := by decide +kernel
theorem dX6_addRight_16 : decode cX6_addRight 16 = .ok (.iload 5, 2) := by decide +kernel
theorem dX6_addRight_18 : decode cX6_addRight 18 = .ok (.iadd, 1) := by decide +kernel
theorem dX6_addRight_19 : decode cX6_addRight 19 = .ok (.iaload, 1) := by decide +kernel
theorem dX6_addRight_20 : decode cX6_addRight 20 = .ok (.istore 6, 2) := by decide +kernel
theorem dX6_addRight_22 : decode cX6_addRight 22 = .ok (.aload_n 0, 1) := by decide +kernel
theorem dX6_addRight_23 : decode cX6_addRight 23 = .ok (.getfield 13, 3) := by decide +kernel
theorem dX6_addRight_26 : decode cX6_addRight 26 = .ok (.iload 5, 2) := by decide +kernel
theorem dX6_addRight_28 : decode cX6_addRight 28 = .ok (.dup2, 1) := by decide +kernel
theorem dX6_addRight_29 : decode cX6_addRight 29 = .ok (.laload, 1) := by decide +kernel
theorem dX6_addRight_30 : decode cX6_addRight 30 = .ok (.iload 6, 2) := by decide +kernel
theorem dX6_addRight_32 : decode cX6_addRight 32 = .ok (.invokestatic 34, 3) := by decide +kernel
theorem dX6_addRight_35 : decode cX6_addRight 35 = .ok (.iload_n 3, 1) := by decide +kernel
theorem dX6_addRight_36 : decode cX6_addRight 36 = .ok (.imul, 1) := by decide +kernel
theorem dX6_addRight_37 : decode cX6_addRight 37 = .ok (.iload 6, 2) := by decide +kernel
theorem dX6_addRight_39 : decode cX6_addRight 39 = .ok (.invokestatic 40, 3) := by decide +kernel
theorem dX6_addRight_42 : decode cX6_addRight 42 = .ok (.iload 4, 2) := by decide +kernel
theorem dX6_addRight_44 : decode cX6_addRight 44 = .ok (.imul, 1) := by decide +kernel
theorem dX6_addRight_45 : decode cX6_addRight 45 = .ok (.iadd, 1) := by decide +kernel
theorem dX6_addRight_46 : decode cX6_addRight 46 = .ok (.i2l, 1) := by decide +kernel
theorem dX6_addRight_47 : decode cX6_addRight 47 = .ok (.ladd, 1) := by decide +kernel
theorem dX6_addRight_48 : decode cX6_addRight 48 = .ok (.lastore, 1) := by decide +kernel
theorem dX6_addRight_49 : decode cX6_addRight 49 = .ok (.iinc 5 1, 3) := by decide +kernel
theorem dX6_addRight_52 : decode cX6_addRight 52 = .ok (.goto (-49), 3) := by decide +kernel
theorem dX6_addRight_55 : decode cX6_addRight 55 = .ok (.return_, 1) := by decide +kernel
theorem dX6_determinant_0 : decode cX6_determinant 0 = .ok (.aload_n 0, 1) := by decide +kernel
theorem dX6_determinant_1 : decode cX6_determinant 1 = .ok (.getfield 7, 3) := by decide +kernel
theorem dX6_determinant_4 : decode cX6_determinant 4 = .ok (.invokestatic 43, 3) := by decide +kernel
theorem dX6_determinant_7 : decode cX6_determinant 7 = .ok (.lreturn, 1) := by decide +kernel
theorem dX6_determinantOf_0 : decode cX6_determinantOf 0 = .ok (.aload_n 0, 1) := by decide +kernel
theorem dX6_determinantOf_1 : decode cX6_determinantOf 1 = .ok (.iconst 0, 1) := by decide +kernel
theorem dX6_determinantOf_2 : decode cX6_determinantOf 2 = .ok (.laload, 1) := by decide +kernel
theorem dX6_determinantOf_3 : decode cX6_determinantOf 3 = .ok (.aload_n 0, 1) := by decide +kernel
theorem dX6_determinantOf_4 : decode cX6_determinantOf 4 = .ok (.iconst 4, 1) := by decide +kernel
theorem dX6_determinantOf_5 : decode cX6_determinantOf 5 = .ok (.laload, 1) := by decide +kernel
theorem dX6_determinantOf_6 : decode cX6_determinantOf 6 = .ok (.aload_n 0, 1) := by decide +kernel
theorem dX6_determinantOf_7 : decode cX6_determinantOf 7 = .ok (.bipush 8, 2) := by decide +kernel
theorem dX6_determinantOf_9 : decode cX6_determinantOf 9 = .ok (.laload, 1) := by decide +kernel
theorem dX6_determinantOf_10 : decode cX6_determinantOf 10 = .ok (.lmul, 1) := by decide +kernel
theorem dX6_determinantOf_11 : decode cX6_determinantOf 11 = .ok (.aload_n 0, 1) := by decide +kernel
theorem dX6_determinantOf_12 : decode cX6_determinantOf 12 = .ok (.iconst 5, 1) := by decide +kernel
theorem dX6_determinantOf_13 : decode cX6_determinantOf 13 = .ok (.laload, 1) := by decide +kernel
theorem dX6_determinantOf_14 : decode cX6_determinantOf 14 = .ok (.aload_n 0, 1) := by decide +kernel
theorem dX6_determinantOf_15 : decode cX6_determinantOf 15 = .ok (.bipush 7, 2) := by decide +kernel
theorem dX6_determinantOf_17 : decode cX6_determinantOf 17 = .ok (.laload, 1) := by decide +kernel
theorem dX6_determinantOf_18 : decode cX6_determinantOf 18 = .ok (.lmul, 1) := by decide +kernel
theorem dX6_determinantOf_19 : decode cX6_determinantOf 19 = .ok (.lsub, 1) := by decide +kernel
theorem dX6_determinantOf_20 : decode cX6_determinantOf 20 = .ok (.lmul, 1) := by decide +kernel
theorem dX6_determinantOf_21 : decode cX6_determinantOf 21 = .ok (.aload_n 0, 1) := by decide +kernel
theorem dX6_determinantOf_22 : decode cX6_determinantOf 22 = .ok (.iconst 1, 1) := by decide +kernel
theorem dX6_determinantOf_23 : decode cX6_determinantOf 23 = .ok (.laload, 1) := by decide +kernel
theorem dX6_determinantOf_24 : decode cX6_determinantOf 24 = .ok (.aload_n 0, 1) := by decide +kernel
theorem dX6_determinantOf_25 : decode cX6_determinantOf 25 = .ok (.iconst 3, 1) := by decide +kernel
theorem dX6_determinantOf_26 : decode cX6_determinantOf 26 = .ok (.laload, 1) := by decide +kernel
theorem dX6_determinantOf_27 : decode cX6_determinantOf 27 = .ok (.aload_n 0, 1) := by decide +kernel
theorem dX6_determinantOf_28 : decode cX6_determinantOf 28 = .ok (.bipush 8, 2) := by decide +kernel
theorem dX6_determinantOf_30 : decode cX6_determinantOf 30 = .ok (.laload, 1) := by decide +kernel
theorem dX6_determinantOf_31 : decode cX6_determinantOf 31 = .ok (.lmul, 1) := by decide +kernel
theorem dX6_determinantOf_32 : decode cX6_determinantOf 32 = .ok (.aload_n 0, 1) := by decide +kernel
theorem dX6_determinantOf_33 : decode cX6_determinantOf 33 = .ok (.iconst 5, 1) := by decide +kernel
theorem dX6_determinantOf_34 : decode cX6_determinantOf 34 = .ok (.laload, 1) := by decide +kernel
theorem dX6_determinantOf_35 : decode cX6_determinantOf 35 = .ok (.aload_n 0, 1) := by decide +kernel
theorem dX6_determinantOf_36 : decode cX6_determinantOf 36 = .ok (.bipush 6, 2) := by decide +kernel
theorem dX6_determinantOf_38 : decode cX6_determinantOf 38 = .ok (.laload, 1) := by decide +kernel
theorem dX6_determinantOf_39 : decode cX6_determinantOf 39 = .ok (.lmul, 1) := by decide +kernel
theorem dX6_determinantOf_40 : decode cX6_determinantOf 40 = .ok (.lsub, 1) := by decide +kernel
theorem dX6_determinantOf_41 : decode cX6_determinantOf 41 = .ok (.lmul, 1) := by decide +kernel
theorem dX6_determinantOf_42 : decode cX6_determinantOf 42 = .ok (.lsub, 1) := by decide +kernel
theorem dX6_determinantOf_43 : decode cX6_determinantOf 43 = .ok (.aload_n 0, 1) := by decide +kernel
theorem dX6_determinantOf_44 : decode cX6_determinantOf 44 = .ok (.iconst 2, 1) := by decide +kernel
theorem dX6_determinantOf_45 : decode cX6_determinantOf 45 = .ok (.laload, 1) := by decide +kernel
theorem dX6_determinantOf_46 : decode cX6_determinantOf 46 = .ok (.aload_n 0, 1) := by decide +kernel
theorem dX6_determinantOf_47 : decode cX6_determinantOf 47 = .ok (.iconst 3, 1) := by decide +kernel
theorem dX6_determinantOf_48 : decode cX6_determinantOf 48 = .ok (.laload, 1) := by decide +kernel
theorem dX6_determinantOf_49 : decode cX6_determinantOf 49 = .ok (.aload_n 0, 1) := by decide +kernel
theorem dX6_determinantOf_50 : decode cX6_determinantOf 50 = .ok (.bipush 7, 2) := by decide +kernel
theorem dX6_determinantOf_52 : decode cX6_determinantOf 52 = .ok (.laload, 1) := by decide +kernel
theorem dX6_determinantOf_53 : decode cX6_determinantOf 53 = .ok (.lmul, 1) := by decide +kernel
theorem dX6_determinantOf_54 : decode cX6_determinantOf 54 = .ok (.aload_n 0, 1) := by decide +kernel
theorem dX6_determinantOf_55 : decode cX6_determinantOf 55 = .ok (.iconst 4, 1) := by decide +kernel
theorem dX6_determinantOf_56 : decode cX6_determinantOf 56 = .ok (.laload, 1) := by decide +kernel
theorem dX6_determinantOf_57 : decode cX6_determinantOf 57 = .ok (.aload_n 0, 1) := by decide +kernel
theorem dX6_determinantOf_58 : decode cX6_determinantOf 58 = .ok (.bipush 6, 2) := by decide +kernel
theorem dX6_determinantOf_60 : decode cX6_determinantOf 60 = .ok (.laload, 1) := by decide +kernel
theorem dX6_determinantOf_61 : decode cX6_determinantOf 61 = .ok (.lmul, 1) := by decide +kernel
theorem dX6_determinantOf_62 : decode cX6_determinantOf 62 = .ok (.lsub, 1) := by decide +kernel
theorem dX6_determinantOf_63 : decode cX6_determinantOf 63 = .ok (.lmul, 1) := by decide +kernel
theorem dX6_determinantOf_64 : decode cX6_determinantOf 64 = .ok (.ladd, 1) := by decide +kernel
theorem dX6_determinantOf_65 : decode cX6_determinantOf 65 = .ok (.lreturn, 1) := by decide +kernel
theorem dX6_determinantWithRight_0 : decode cX6_determinantWithRight 0 = .ok (.iconst 0, 1) := by decide +kernel
theorem dX6_determinantWithRight_1 : decode cX6_determinantWithRight 1 = .ok (.istore_n 2, 1) := by decide +kernel
theorem dX6_determinantWithRight_2 : decode cX6_determinantWithRight 2 = .ok (.iload_n 2, 1) := by decide +kernel
theorem dX6_determinantWithRight_3 : decode cX6_determinantWithRight 3 = .ok (.bipush 9, 2) := by decide +kernel
theorem dX6_determinantWithRight_5 : decode cX6_determinantWithRight 5 = .ok (.if_icmp .ge 39, 3) := by decide +kernel
theorem dX6_determinantWithRight_8 : decode cX6_determinantWithRight 8 = .ok (.aload_n 0, 1) := by decide +kernel
theorem dX6_determinantWithRight_9 : decode cX6_determinantWithRight 9 = .ok (.getfield 16, 3) := by decide +kernel
theorem dX6_determinantWithRight_12 : decode cX6_determinantWithRight 12 = .ok (.iload_n 2, 1) := by decide +kernel
theorem dX6_determinantWithRight_13 : decode cX6_determinantWithRight 13 = .ok (.iload_n 2, 1) := by decide +kernel
theorem dX6_determinantWithRight_14 : decode cX6_determinantWithRight 14 = .ok (.iconst 3, 1) := by decide +kernel
theorem dX6_determinantWithRight_15 : decode cX6_determinantWithRight 15 = .ok (.irem, 1) := by decide +kernel
theorem dX6_determinantWithRight_16 : decode cX6_determinantWithRight 16 = .ok (.iload_n 1, 1) := by decide +kernel
theorem dX6_determinantWithRight_17 : decode cX6_determinantWithRight 17 = .ok (.if_icmp .ne 14, 3) := by decide +kernel
theorem dX6_determinantWithRight_20 : decode cX6_determinantWithRight 20 = .ok (.aload_n 0, 1) := by decide +kernel
theorem dX6_determinantWithRight_21 : decode cX6_determinantWithRight 21 = .ok (.getfield 13, 3) := by decide +kernel
theorem dX6_determinantWithRight_24 : decode cX6_determinantWithRight 24 = .ok (.iload_n 2, 1) := by decide +kernel
theorem dX6_determinantWithRight_25 : decode cX6_determinantWithRight 25 = .ok (.iconst 3, 1) := by decide +kernel
theorem dX6_determinantWithRight_26 : decode cX6_determinantWithRight 26 = .ok (.idiv, 1) := by decide +kernel
theorem dX6_determinantWithRight_27 : decode cX6_determinantWithRight 27 = .ok (.laload, 1) := by decide +kernel
theorem dX6_determinantWithRight_28 : decode cX6_determinantWithRight 28 = .ok (.goto 9, 3) := by decide +kernel
theorem dX6_determinantWithRight_31 : decode cX6_determinantWithRight 31 = .ok (.aload_n 0, 1) := by decide +kernel
theorem dX6_determinantWithRight_32 : decode cX6_determinantWithRight 32 = .ok (.getfield 7, 3) := by decide +kernel
theorem dX6_determinantWithRight_35 : decode cX6_determinantWithRight 35 = .ok (.iload_n 2, 1) := by decide +kernel
theorem dX6_determinantWithRight_36 : decode cX6_determinantWithRight 36 = .ok (.laload, 1) := by decide +kernel
theorem dX6_determinantWithRight_37 : decode cX6_determinantWithRight 37 = .ok (.lastore, 1) := by decide +kernel
theorem dX6_determinantWithRight_38 : decode cX6_determinantWithRight 38 = .ok (.iinc 2 1, 3) := by decide +kernel
theorem dX6_determinantWithRight_41 : decode cX6_determinantWithRight 41 = .ok (.goto (-39), 3) := by decide +kernel
theorem dX6_determinantWithRight_44 : decode cX6_determinantWithRight 44 = .ok (.aload_n 0, 1) := by decide +kernel
theorem dX6_determinantWithRight_45 : decode cX6_determinantWithRight 45 = .ok (.getfield 16, 3) := by decide +kernel
theorem dX6_determinantWithRight_48 : decode cX6_determinantWithRight 48 = .ok (.invokestatic 43, 3) := by decide +kernel
theorem dX6_determinantWithRight_51 : decode cX6_determinantWithRight 51 = .ok (.lreturn, 1) := by decide +kernel
theorem dX6_rankOfAll_0 : decode cX6_rankOfAll 0 = .ok (.aload_n 0, 1) := by decide +kernel
theorem dX6_rankOfAll_1 : decode cX6_rankOfAll 1 = .ok (.invokevirtual 47, 3) := by decide +kernel
theorem dX6_rankOfAll_4 : decode cX6_rankOfAll 4 = .ok (.lconst 0, 1) := by decide +kernel
theorem dX6_rankOfAll_5 : decode cX6_rankOfAll 5 = .ok (.lcmp, 1) := by decide +kernel
theorem dX6_rankOfAll_6 : decode cX6_rankOfAll 6 = .ok (.ifCond .eq 5, 3) := by decide +kernel
theorem dX6_rankOfAll_9 : decode cX6_rankOfAll 9 = .ok (.iconst 3, 1) := by decide +kernel
theorem dX6_rankOfAll_10 : decode cX6_rankOfAll 10 = .ok (.ireturn, 1) := by decide +kernel
theorem dX6_rankOfAll_11 : decode cX6_rankOfAll 11 = .ok (.aload_n 0, 1) := by decide +kernel
theorem dX6_rankOfAll_12 : decode cX6_rankOfAll 12 = .ok (.iconst 0, 1) := by decide +kernel
theorem dX6_rankOfAll_13 : decode cX6_rankOfAll 13 = .ok (.invokevirtual 51, 3) := by decide +kernel
theorem dX6_rankOfAll_16 : decode cX6_rankOfAll 16 = .ok (.aload_n 0, 1) := by decide +kernel
theorem dX6_rankOfAll_17 : decode cX6_rankOfAll 17 = .ok (.iconst 1, 1) := by decide +kernel
theorem dX6_rankOfAll_18 : decode cX6_rankOfAll 18 = .ok (.invokevirtual 51, 3) := by decide +kernel
theorem dX6_rankOfAll_21 : decode cX6_rankOfAll 21 = .ok (.aload_n 0, 1) := by decide +kernel
theorem dX6_rankOfAll_22 : decode cX6_rankOfAll 22 = .ok (.iconst 2, 1) := by decide +kernel
theorem dX6_rankOfAll_23 : decode cX6_rankOfAll 23 = .ok (.invokevirtual 51, 3) := by decide +kernel
theorem dX6_rankOfAll_26 : decode cX6_rankOfAll 26 = .ok (.invokestatic 54, 3) := by decide +kernel
theorem dX6_rankOfAll_29 : decode cX6_rankOfAll 29 = .ok (.invokestatic 54, 3) := by decide +kernel
theorem dX6_rankOfAll_32 : decode cX6_rankOfAll 32 = .ok (.ireturn, 1) := by decide +kernel
theorem dX6_rankWithout_0 : decode cX6_rankWithout 0 = .ok (.iload_n 1, 1) := by decide +kernel
theorem dX6_rankWithout_1 : decode cX6_rankWithout 1 = .ok (.ifCond .ne 7, 3) := by decide +kernel
theorem dX6_rankWithout_4 : decode cX6_rankWithout 4 = .ok (.iconst 1, 1) := by decide +kernel
theorem dX6_rankWithout_5 : decode cX6_rankWithout 5 = .ok (.goto 4, 3) := by decide +kernel
theorem dX6_rankWithout_8 : decode cX6_rankWithout 8 = .ok (.iconst 0, 1) := by decide +kernel
theorem dX6_rankWithout_9 : decode cX6_rankWithout 9 = .ok (.istore_n 2, 1) := by decide +kernel
theorem dX6_rankWithout_10 : decode cX6_rankWithout 10 = .ok (.iload_n 1, 1) := by decide +kernel
theorem dX6_rankWithout_11 : decode cX6_rankWithout 11 = .ok (.iconst 2, 1) := by decide +kernel
theorem dX6_rankWithout_12 : decode cX6_rankWithout 12 = .ok (.if_icmp .ne 7, 3) := by decide +kernel
theorem dX6_rankWithout_15 : decode cX6_rankWithout 15 = .ok (.iconst 1, 1) := by decide +kernel
theorem dX6_rankWithout_16 : decode cX6_rankWithout 16 = .ok (.goto 4, 3) := by decide +kernel
theorem dX6_rankWithout_19 : decode cX6_rankWithout 19 = .ok (.iconst 2, 1) := by decide +kernel
theorem dX6_rankWithout_20 : decode cX6_rankWithout 20 = .ok (.istore_n 3, 1) := by decide +kernel
theorem dX6_rankWithout_21 : decode cX6_rankWithout 21 = .ok (.aload_n 0, 1) := by decide +kernel
theorem dX6_rankWithout_22 : decode cX6_rankWithout 22 = .ok (.getfield 7, 3) := by decide +kernel
theorem dX6_rankWithout_25 : decode cX6_rankWithout 25 = .ok (.iconst 4, 1) := by decide +kernel
theorem dX6_rankWithout_26 : decode cX6_rankWithout 26 = .ok (.iload_n 2, 1) := by decide +kernel
theorem dX6_rankWithout_27 : decode cX6_rankWithout 27 = .ok (.imul, 1) := by decide +kernel
theorem dX6_rankWithout_28 : decode cX6_rankWithout 28 = .ok (.laload, 1) := by decide +kernel
theorem dX6_rankWithout_29 : decode cX6_rankWithout 29 = .ok (.lstore 4, 2) := by decide +kernel
theorem dX6_rankWithout_31 : decode cX6_rankWithout 31 = .ok (.aload_n 0, 1) := by decide +kernel
theorem dX6_rankWithout_32 : decode cX6_rankWithout 32 = .ok (.getfield 7, 3) := by decide +kernel
theorem dX6_rankWithout_35 : decode cX6_rankWithout 35 = .ok (.iconst 4, 1) := by decide +kernel
theorem dX6_rankWithout_36 : decode cX6_rankWithout 36 = .ok (.iload_n 3, 1) := by decide +kernel
theorem dX6_rankWithout_37 : decode cX6_rankWithout 37 = .ok (.imul, 1) := by decide +kernel
theorem dX6_rankWithout_38 : decode cX6_rankWithout 38 = .ok (.laload, 1) := by decide +kernel
theorem dX6_rankWithout_39 : decode cX6_rankWithout 39 = .ok (.lstore 6, 2) := by decide +kernel
theorem dX6_rankWithout_41 : decode cX6_rankWithout 41 = .ok (.aload_n 0, 1) := by decide +kernel
theorem dX6_rankWithout_42 : decode cX6_rankWithout 42 = .ok (.getfield 7, 3) := by decide +kernel
theorem dX6_rankWithout_45 : decode cX6_rankWithout 45 = .ok (.iconst 3, 1) := by decide +kernel
theorem dX6_rankWithout_46 : decode cX6_rankWithout 46 = .ok (.iload_n 2, 1) := by decide +kernel
theorem dX6_rankWithout_47 : decode cX6_rankWithout 47 = .ok (.imul, 1) := by decide +kernel
theorem dX6_rankWithout_48 : decode cX6_rankWithout 48 = .ok (.iload_n 3, 1) := by decide +kernel
theorem dX6_rankWithout_49 : decode cX6_rankWithout 49 = .ok (.iadd, 1) := by decide +kernel
theorem dX6_rankWithout_50 : decode cX6_rankWithout 50 = .ok (.laload, 1) := by decide +kernel
theorem dX6_rankWithout_51 : decode cX6_rankWithout 51 = .ok (.lstore 8, 2) := by decide +kernel
theorem dX6_rankWithout_53 : decode cX6_rankWithout 53 = .ok (.lload 4, 2) := by decide +kernel
theorem dX6_rankWithout_55 : decode cX6_rankWithout 55 = .ok (.lload 6, 2) := by decide +kernel
theorem dX6_rankWithout_57 : decode cX6_rankWithout 57 = .ok (.lmul, 1) := by decide +kernel
theorem dX6_rankWithout_58 : decode cX6_rankWithout 58 = .ok (.lload 8, 2) := by decide +kernel
theorem dX6_rankWithout_60 : decode cX6_rankWithout 60 = .ok (.lload 8, 2) := by decide +kernel
theorem dX6_rankWithout_62 : decode cX6_rankWithout 62 = .ok (.lmul, 1) := by decide +kernel
theorem dX6_rankWithout_63 : decode cX6_rankWithout 63 = .ok (.lcmp, 1) := by decide +kernel
theorem dX6_rankWithout_64 : decode cX6_rankWithout 64 = .ok (.ifCond .eq 5, 3) := by decide +kernel
theorem dX6_rankWithout_67 : decode cX6_rankWithout 67 = .ok (.iconst 2, 1) := by decide +kernel
theorem dX6_rankWithout_68 : decode cX6_rankWithout 68 = .ok (.ireturn, 1) := by decide +kernel
theorem dX6_rankWithout_69 : decode cX6_rankWithout 69 = .ok (.lload 4, 2) := by decide +kernel
theorem dX6_rankWithout_71 : decode cX6_rankWithout 71 = .ok (.lconst 0, 1) := by decide +kernel
theorem dX6_rankWithout_72 : decode cX6_rankWithout 72 = .ok (.lcmp, 1) := by decide +kernel
theorem dX6_rankWithout_73 : decode cX6_rankWithout 73 = .ok (.ifCond .ne 10, 3) := by decide +kernel
theorem dX6_rankWithout_76 : decode cX6_rankWithout 76 = .ok (.lload 6, 2) := by decide +kernel
theorem dX6_rankWithout_78 : decode cX6_rankWithout 78 = .ok (.lconst 0, 1) := by decide +kernel
theorem dX6_rankWithout_79 : decode cX6_rankWithout 79 = .ok (.lcmp, 1) := by decide +kernel
theorem dX6_rankWithout_80 : decode cX6_rankWithout 80 = .ok (.ifCond .eq 7, 3) := by decide +kernel
theorem dX6_rankWithout_83 : decode cX6_rankWithout 83 = .ok (.iconst 1, 1) := by decide +kernel
theorem dX6_rankWithout_84 : decode cX6_rankWithout 84 = .ok (.goto 4, 3) := by decide +kernel
theorem dX6_rankWithout_87 : decode cX6_rankWithout 87 = .ok (.iconst 0, 1) := by decide +kernel
theorem dX6_rankWithout_88 : decode cX6_rankWithout 88 = .ok (.ireturn, 1) := by decide +kernel
theorem dX6_tells_0 : decode cX6_tells 0 = .ok (.aload_n 0, 1) := by decide +kernel
theorem dX6_tells_1 : decode cX6_tells 1 = .ok (.iload_n 1, 1) := by decide +kernel
theorem dX6_tells_2 : decode cX6_tells 2 = .ok (.invokevirtual 51, 3) := by decide +kernel
theorem dX6_tells_5 : decode cX6_tells 5 = .ok (.aload_n 0, 1) := by decide +kernel
theorem dX6_tells_6 : decode cX6_tells 6 = .ok (.invokevirtual 60, 3) := by decide +kernel
theorem dX6_tells_9 : decode cX6_tells 9 = .ok (.if_icmp .ge 7, 3) := by decide +kernel
theorem dX6_tells_12 : decode cX6_tells 12 = .ok (.iconst 1, 1) := by decide +kernel
theorem dX6_tells_13 : decode cX6_tells 13 = .ok (.goto 4, 3) := by decide +kernel
theorem dX6_tells_16 : decode cX6_tells 16 = .ok (.iconst 0, 1) := by decide +kernel
theorem dX6_tells_17 : decode cX6_tells 17 = .ok (.ireturn, 1) := by decide +kernel
theorem dX6_fitted_0 : decode cX6_fitted 0 = .ok (.aload_n 0, 1) := by decide +kernel
theorem dX6_fitted_1 : decode cX6_fitted 1 = .ok (.invokevirtual 47, 3) := by decide +kernel
theorem dX6_fitted_4 : decode cX6_fitted 4 = .ok (.lstore_n 2, 1) := by decide +kernel
theorem dX6_fitted_5 : decode cX6_fitted 5 = .ok (.lload_n 2, 1) := by decide +kernel
theorem dX6_fitted_6 : decode cX6_fitted 6 = .ok (.lconst 0, 1) := by decide +kernel
theorem dX6_fitted_7 : decode cX6_fitted 7 = .ok (.lcmp, 1) := by decide +kernel
theorem dX6_fitted_8 : decode cX6_fitted 8 = .ok (.ifCond .ne 5, 3) := by decide +kernel
theorem dX6_fitted_11 : decode cX6_fitted 11 = .ok (.lconst 0, 1) := by decide +kernel
theorem dX6_fitted_12 : decode cX6_fitted 12 = .ok (.lreturn, 1) := by decide +kernel
theorem dX6_fitted_13 : decode cX6_fitted 13 = .ok (.aload_n 0, 1) := by decide +kernel
theorem dX6_fitted_14 : decode cX6_fitted 14 = .ok (.iload_n 1, 1) := by decide +kernel
theorem dX6_fitted_15 : decode cX6_fitted 15 = .ok (.invokevirtual 64, 3) := by decide +kernel
theorem dX6_fitted_18 : decode cX6_fitted 18 = .ok (.lstore 4, 2) := by decide +kernel
theorem dX6_fitted_20 : decode cX6_fitted 20 = .ok (.lload 4, 2) := by decide +kernel
theorem dX6_fitted_22 : decode cX6_fitted 22 = .ok (.lload_n 2, 1) := by decide +kernel
theorem dX6_fitted_23 : decode cX6_fitted 23 = .ok (.invokestatic 68, 3) := by decide +kernel
theorem dX6_fitted_26 : decode cX6_fitted 26 = .ok (.lstore 6, 2) := by decide +kernel
theorem dX6_fitted_28 : decode cX6_fitted 28 = .ok (.lload 4, 2) := by decide +kernel
theorem dX6_fitted_30 : decode cX6_fitted 30 = .ok (.lload 6, 2) := by decide +kernel
theorem dX6_fitted_32 : decode cX6_fitted 32 = .ok (.lload_n 2, 1) := by decide +kernel
theorem dX6_fitted_33 : decode cX6_fitted 33 = .ok (.lmul, 1) := by decide +kernel
theorem dX6_fitted_34 : decode cX6_fitted 34 = .ok (.lsub, 1) := by decide +kernel
theorem dX6_fitted_35 : decode cX6_fitted 35 = .ok (.lstore 8, 2) := by decide +kernel
theorem dX6_fitted_37 : decode cX6_fitted 37 = .ok (.ldc2_w 72, 3) := by decide +kernel
theorem dX6_fitted_40 : decode cX6_fitted 40 = .ok (.lload 6, 2) := by decide +kernel
theorem dX6_fitted_42 : decode cX6_fitted 42 = .ok (.lmul, 1) := by decide +kernel
theorem dX6_fitted_43 : decode cX6_fitted 43 = .ok (.ldc2_w 72, 3) := by decide +kernel
theorem dX6_fitted_46 : decode cX6_fitted 46 = .ok (.lload 8, 2) := by decide +kernel
theorem dX6_fitted_48 : decode cX6_fitted 48 = .ok (.lmul, 1) := by decide +kernel
theorem dX6_fitted_49 : decode cX6_fitted 49 = .ok (.lload_n 2, 1) := by decide +kernel
theorem dX6_fitted_50 : decode cX6_fitted 50 = .ok (.invokestatic 68, 3) := by decide +kernel
theorem dX6_fitted_53 : decode cX6_fitted 53 = .ok (.ladd, 1) := by decide +kernel
theorem dX6_fitted_54 : decode cX6_fitted 54 = .ok (.lreturn, 1) := by decide +kernel
theorem dX7_init_0 : decode cX7_init 0 = .ok (.aload_n 0, 1) := by decide +kernel
theorem dX7_init_1 : decode cX7_init 1 = .ok (.invokespecial 1, 3) := by decide +kernel
theorem dX7_init_4 : decode cX7_init 4 = .ok (.aload_n 0, 1) := by decide +kernel
theorem dX7_init_5 : decode cX7_init 5 = .ok (.new 7, 3) := by decide +kernel
theorem dX7_init_8 : decode cX7_init 8 = .ok (.dup, 1) := by decide +kernel
theorem dX7_init_9 : decode cX7_init 9 = .ok (.invokespecial 9, 3) := by decide +kernel
theorem dX7_init_12 : decode cX7_init 12 = .ok (.putfield 10, 3) := by decide +kernel
theorem dX7_init_15 : decode cX7_init 15 = .ok (.aload_n 0, 1) := by decide +kernel
theorem dX7_init_16 : decode cX7_init 16 = .ok (.bipush 20, 2) := by decide +kernel
theorem dX7_init_18 : decode cX7_init 18 = .ok (.newarray .boolean, 2) := by decide +kernel
theorem dX7_init_20 : decode cX7_init 20 = .ok (.putfield 16, 3) := by decide +kernel
theorem dX7_init_23 : decode cX7_init 23 = .ok (.aload_n 0, 1) := by decide +kernel
theorem dX7_init_24 : decode cX7_init 24 = .ok (.bipush 12, 2) := by decide +kernel
theorem dX7_init_26 : decode cX7_init 26 = .ok (.newarray .int, 2) := by decide +kernel
theorem dX7_init_28 : decode cX7_init 28 = .ok (.putfield 20, 3) := by decide +kernel
theorem dX7_init_31 : decode cX7_init 31 = .ok (.aload_n 0, 1) := by decide +kernel
theorem dX7_init_32 : decode cX7_init 32 = .ok (.new 24, 3) := by decide +kernel
theorem dX7_init_35 : decode cX7_init 35 = .ok (.dup, 1) := by decide +kernel
theorem dX7_init_36 : decode cX7_init 36 = .ok (.invokespecial 26, 3) := by decide +kernel
theorem dX7_init_39 : decode cX7_init 39 = .ok (.putfield 27, 3) := by decide +kernel
theorem dX7_init_42 : decode cX7_init 42 = .ok (.aload_n 0, 1) := by decide +kernel
theorem dX7_init_43 : decode cX7_init 43 = .ok (.new 31, 3) := by decide +kernel
theorem dX7_init_46 : decode cX7_init 46 = .ok (.dup, 1) := by decide +kernel
theorem dX7_init_47 : decode cX7_init 47 = .ok (.invokespecial 33, 3) := by decide +kernel
theorem dX7_init_50 : decode cX7_init 50 = .ok (.putfield 34, 3) := by decide +kernel
theorem dX7_init_53 : decode cX7_init 53 = .ok (.aload_n 0, 1) := by decide +kernel
theorem dX7_init_54 : decode cX7_init 54 = .ok (.new 38, 3) := by decide +kernel
theorem dX7_init_57 : decode cX7_init 57 = .ok (.dup, 1) := by decide +kernel
theorem dX7_init_58 : decode cX7_init 58 = .ok (.invokespecial 40, 3) := by decide +kernel
theorem dX7_init_61 : decode cX7_init 61 = .ok (.putfield 41, 3) := by decide +kernel
theorem dX7_init_64 : decode cX7_init 64 = .ok (.aload_n 0, 1) := by decide +kernel
theorem dX7_init_65 : decode cX7_init 65 = .ok (.new 45, 3) := by decide +kernel
theorem dX7_init_68 : decode cX7_init 68 = .ok (.dup, 1) := by decide +kernel
theorem dX7_init_69 : decode cX7_init 69 = .ok (.invokespecial 47, 3) := by decide +kernel
theorem dX7_init_72 : decode cX7_init 72 = .ok (.putfield 48, 3) := by decide +kernel
theorem dX7_init_75 : decode cX7_init 75 = .ok (.aload_n 0, 1) := by decide +kernel
theorem dX7_init_76 : decode cX7_init 76 = .ok (.iconst 4, 1) := by decide +kernel
theorem dX7_init_77 : decode cX7_init 77 = .ok (.anewarray 52, 3) := by decide +kernel
theorem dX7_init_80 : decode cX7_init 80 = .ok (.putfield 54, 3) := by decide +kernel
theorem dX7_init_83 : decode cX7_init 83 = .ok (.aload_n 0, 1) := by decide +kernel
theorem dX7_init_84 : decode cX7_init 84 = .ok (.iconst 0, 1) := by decide +kernel
theorem dX7_init_85 : decode cX7_init 85 = .ok (.putfield 58, 3) := by decide +kernel
theorem dX7_init_88 : decode cX7_init 88 = .ok (.iconst 0, 1) := by decide +kernel
theorem dX7_init_89 : decode cX7_init 89 = .ok (.istore_n 1, 1) := by decide +kernel
theorem dX7_init_90 : decode cX7_init 90 = .ok (.iload_n 1, 1) := by decide +kernel
theorem dX7_init_91 : decode cX7_init 91 = .ok (.iconst 4, 1) := by decide +kernel
theorem dX7_init_92 : decode cX7_init 92 = .ok (.if_icmp .ge 22, 3) := by decide +kernel
theorem dX7_init_95 : decode cX7_init 95 = .ok (.aload_n 0, 1) := by decide +kernel
theorem dX7_init_96 : decode cX7_init 96 = .ok (.getfield 54, 3) := by decide +kernel
theorem dX7_init_99 : decode cX7_init 99 = .ok (.iload_n 1, 1) := by decide +kernel
theorem dX7_init_100 : decode cX7_init 100 = .ok (.new 52, 3) := by decide +kernel
theorem dX7_init_103 : decode cX7_init 103 = .ok (.dup, 1) := by decide +kernel
theorem dX7_init_104 : decode cX7_init 104 = .ok (.invokespecial 62, 3) := by decide +kernel
theorem dX7_init_107 : decode cX7_init 107 = .ok (.aastore, 1) := by decide +kernel
theorem dX7_init_108 : decode cX7_init 108 = .ok (.iinc 1 1, 3) := by decide +kernel
theorem dX7_init_111 : decode cX7_init 111 = .ok (.goto (-21), 3) := by decide +kernel
theorem dX7_init_114 : decode cX7_init 114 = .ok (.return_, 1) := by decide +kernel
theorem dX7_turn_0 : decode cX7_turn 0 = .ok (.iload_n 1, 1) := by decide +kernel
theorem dX7_turn_1 : decode cX7_turn 1 = .ok (.iconst 0, 1) := by decide +kernel
theorem dX7_turn_2 : decode cX7_turn 2 = .ok (.bipush 35, 2) := by decide +kernel
theorem dX7_turn_4 : decode cX7_turn 4 = .ok (.invokestatic 65, 3) := by decide +kernel
theorem dX7_turn_7 : decode cX7_turn 7 = .ok (.ifCond .eq 12, 3) := by decide +kernel
theorem dX7_turn_10 : decode cX7_turn 10 = .ok (.iload_n 2, 1) := by decide +kernel
theorem dX7_turn_11 : decode cX7_turn 11 = .ok (.iconst 0, 1) := by decide +kernel
theorem dX7_turn_12 : decode cX7_turn 12 = .ok (.iconst 1, 1) := by decide +kernel
theorem dX7_turn_13 : decode cX7_turn 13 = .ok (.invokestatic 65, 3) := by decide +kernel
theorem dX7_turn_16 : decode cX7_turn 16 = .ok (.ifCond .ne 7, 3) := by decide +kernel
theorem dX7_turn_19 : decode cX7_turn 19 = .ok (.sipush (-1000), 3) := by decide +kernel
theorem dX7_turn_22 : decode cX7_turn 22 = .ok (.ireturn, 1) := by decide +kernel
theorem dX7_turn_23 : decode cX7_turn 23 = .ok (.iload_n 1, 1) := by decide +kernel
theorem dX7_turn_24 : decode cX7_turn 24 = .ok (.iload_n 2, 1) := by decide +kernel
theorem dX7_turn_25 : decode cX7_turn 25 = .ok (.invokestatic 69, 3) := by decide +kernel
theorem dX7_turn_28 : decode cX7_turn 28 = .ok (.ireturn, 1) := by decide +kernel
theorem dX7_length_0 : decode cX7_length 0 = .ok (.iload_n 1, 1) := by decide +kernel
theorem dX7_length_1 : decode cX7_length 1 = .ok (.iconst 0, 1) := by decide +kernel
theorem dX7_length_2 : decode cX7_length 2 = .ok (.iconst 2, 1) := by decide +kernel
theorem dX7_length_3 : decode cX7_length 3 = .ok (.invokestatic 65, 3) := by decide +kernel
theorem dX7_length_6 : decode cX7_length 6 = .ok (.ifCond .eq 14, 3) := by decide +kernel
theorem dX7_length_9 : decode cX7_length 9 = .ok (.iload_n 2, 1) := by decide +kernel
theorem dX7_length_10 : decode cX7_length 10 = .ok (.iconst 1, 1) := by decide +kernel
theorem dX7_length_11 : decode cX7_length 11 = .ok (.sipush 999, 3) := by decide +kernel
theorem dX7_length_14 : decode cX7_length 14 = .ok (.invokestatic 65, 3) := by decide +kernel
theorem dX7_length_17 : decode cX7_length 17 = .ok (.ifCond .ne 6, 3) := by decide +kernel
theorem dX7_length_20 : decode cX7_length 20 = .ok (.bipush (-2), 2) := by decide +kernel
theorem dX7_length_22 : decode cX7_length 22 = .ok (.ireturn, 1) := by decide +kernel
theorem dX7_length_23 : decode cX7_length 23 = .ok (.aload_n 0, 1) := by decide +kernel
theorem dX7_length_24 : decode cX7_length 24 = .ok (.getfield 10, 3) := by decide +kernel
theorem dX7_length_27 : decode cX7_length 27 = .ok (.getfield 73, 3) := by decide +kernel
theorem dX7_length_30 : decode cX7_length 30 = .ok (.iload_n 1, 1) := by decide +kernel
theorem dX7_length_31 : decode cX7_length 31 = .ok (.iaload, 1) := by decide +kernel
theorem dX7_length_32 : decode cX7_length 32 = .ok (.istore_n 3, 1) := by decide +kernel
theorem dX7_length_33 : decode cX7_length 33 = .ok (.aload_n 0, 1) := by decide +kernel
theorem dX7_length_34 : decode cX7_length 34 = .ok (.getfield 10, 3) := by decide +kernel
theorem dX7_length_37 : decode cX7_length 37 = .ok (.getfield 73, 3) := by decide +kernel
theorem dX7_length_40 : decode cX7_length 40 = .ok (.iload_n 1, 1) := by decide +kernel
theorem dX7_length_41 : decode cX7_length 41 = .ok (.iload_n 2, 1) := by decide +kernel
theorem dX7_length_42 : decode cX7_length 42 = .ok (.iastore, 1) := by decide +kernel
theorem dX7_length_43 : decode cX7_length 43 = .ok (.iload_n 3, 1) := by decide +kernel
theorem dX7_length_44 : decode cX7_length 44 = .ok (.ireturn, 1) := by decide +kernel
theorem dX7_posture_0 : decode cX7_posture 0 = .ok (.iload_n 1, 1) := by decide +kernel
theorem dX7_posture_1 : decode cX7_posture 1 = .ok (.iconst 0, 1) := by decide +kernel
theorem dX7_posture_2 : decode cX7_posture 2 = .ok (.bipush 35, 2) := by decide +kernel
theorem dX7_posture_4 : decode cX7_posture 4 = .ok (.invokestatic 65, 3) := by decide +kernel
theorem dX7_posture_7 : decode cX7_posture 7 = .ok (.ifCond .eq 23, 3) := by decide +kernel
theorem dX7_posture_10 : decode cX7_posture 10 = .ok (.iload_n 2, 1) := by decide +kernel
theorem dX7_posture_11 : decode cX7_posture 11 = .ok (.iconst 0, 1) := by decide +kernel
theorem dX7_posture_12 : decode cX7_posture 12 = .ok (.bipush 35, 2) := by decide +kernel
theorem dX7_posture_14 : decode cX7_posture 14 = .ok (.invokestatic 65, 3) := by decide +kernel
theorem dX7_posture_17 : decode cX7_posture 17 = .ok (.ifCond .eq 13, 3) := by decide +kernel
theorem dX7_posture_20 : decode cX7_posture 20 = .ok (.iload_n 3, 1) := by decide +kernel
theorem dX7_posture_21 : decode cX7_posture 21 = .ok (.iconst 0, 1) := by decide +kernel
theorem dX7_posture_22 : decode cX7_posture 22 = .ok (.bipush 35, 2) := by decide +kernel
theorem dX7_posture_24 : decode cX7_posture 24 = .ok (.invokestatic 65, 3) := by decide +kernel
theorem dX7_posture_27 : decode cX7_posture 27 = .ok (.ifCond .ne 6, 3) := by decide +kernel
theorem dX7_posture_30 : decode cX7_posture 30 = .ok (.bipush (-2), 2) := by decide +kernel
theorem dX7_posture_32 : decode cX7_posture 32 = .ok (.ireturn, 1) := by decide +kernel
theorem dX7_posture_33 : decode cX7_posture 33 = .ok (.aload_n 0, 1) := by decide +kernel
theorem dX7_posture_34 : decode cX7_posture 34 = .ok (.getfield 10, 3) := by decide +kernel
theorem dX7_posture_37 : decode cX7_posture 37 = .ok (.getfield 76, 3) := by decide +kernel
theorem dX7_posture_40 : decode cX7_posture 40 = .ok (.bipush 20, 2) := by decide +kernel
theorem dX7_posture_42 : decode cX7_posture 42 = .ok (.if_icmp .lt 6, 3) := by decide +kernel
theorem dX7_posture_45 : decode cX7_posture 45 = .ok (.bipush (-4), 2) := by decide +kernel
theorem dX7_posture_47 : decode cX7_posture 47 = .ok (.ireturn, 1) := by decide +kernel
theorem dX7_posture_48 : decode cX7_posture 48 = .ok (.aload_n 0, 1) := by decide +kernel
theorem dX7_posture_49 : decode cX7_posture 49 = .ok (.getfield 10, 3) := by decide +kernel
theorem dX7_posture_52 : decode cX7_posture 52 = .ok (.iload_n 1, 1) := by decide +kernel
theorem dX7_posture_53 : decode cX7_posture 53 = .ok (.iload_n 2, 1) := by decide +kernel
theorem dX7_posture_54 : decode cX7_posture 54 = .ok (.iload_n 3, 1) := by decide +kernel
theorem dX7_posture_55 : decode cX7_posture 55 = .ok (.invokevirtual 79, 3) := by decide +kernel
theorem dX7_posture_58 : decode cX7_posture 58 = .ok (.ireturn, 1) := by decide +kernel
theorem dX7_clear_0 : decode cX7_clear 0 = .ok (.aload_n 0, 1) := by decide +kernel
theorem dX7_clear_1 : decode cX7_clear 1 = .ok (.getfield 10, 3) := by decide +kernel
theorem dX7_clear_4 : decode cX7_clear 4 = .ok (.getfield 76, 3) := by decide +kernel
theorem dX7_clear_7 : decode cX7_clear 7 = .ok (.istore_n 1, 1) := by decide +kernel
theorem dX7_clear_8 : decode cX7_clear 8 = .ok (.aload_n 0, 1) := by decide +kernel
theorem dX7_clear_9 : decode cX7_clear 9 = .ok (.getfield 10, 3) := by decide +kernel
theorem dX7_clear_12 : decode cX7_clear 12 = .ok (.iconst 0, 1) := by decide +kernel
theorem dX7_clear_13 : decode cX7_clear 13 = .ok (.putfield 76, 3) := by decide +kernel
theorem dX7_clear_16 : decode cX7_clear 16 = .ok (.iconst 0, 1) := by decide +kernel
theorem dX7_clear_17 : decode cX7_clear 17 = .ok (.istore_n 2, 1) := by decide +kernel
theorem dX7_clear_18 : decode cX7_clear 18 = .ok (.iload_n 2, 1) := by decide +kernel
theorem dX7_clear_19 : decode cX7_clear 19 = .ok (.bipush 20, 2) := by decide +kernel
theorem dX7_clear_21 : decode cX7_clear 21 = .ok (.if_icmp .ge 16, 3) := by decide +kernel
theorem dX7_clear_24 : decode cX7_clear 24 = .ok (.aload_n 0, 1) := by decide +kernel
theorem dX7_clear_25 : decode cX7_clear 25 = .ok (.getfield 16, 3) := by decide +kernel
theorem dX7_clear_28 : decode cX7_clear 28 = .ok (.iload_n 2, 1) := by decide +kernel
theorem dX7_clear_29 : decode cX7_clear 29 = .ok (.iconst 0, 1) := by decide +kernel
theorem dX7_clear_30 : decode cX7_clear 30 = .ok (.bastore, 1) := by decide +kernel
theorem dX7_clear_31 : decode cX7_clear 31 = .ok (.iinc 2 1, 3) := by decide +kernel
theorem dX7_clear_34 : decode cX7_clear 34 = .ok (.goto (-16), 3) := by decide +kernel
theorem dX7_clear_37 : decode cX7_clear 37 = .ok (.iload_n 1, 1) := by decide +kernel
theorem dX7_clear_38 : decode cX7_clear 38 = .ok (.ireturn, 1) := by decide +kernel
theorem dX7_hand_0 : decode cX7_hand 0 = .ok (.aload_n 0, 1) := by decide +kernel
theorem dX7_hand_1 : decode cX7_hand 1 = .ok (.iload_n 1, 1) := by decide +kernel
theorem dX7_hand_2 : decode cX7_hand 2 = .ok (.invokevirtual 83, 3) := by decide +kernel
theorem dX7_hand_5 : decode cX7_hand 5 = .ok (.ifCond .eq 12, 3) := by decide +kernel
theorem dX7_hand_8 : decode cX7_hand 8 = .ok (.iload_n 2, 1) := by decide +kernel
theorem dX7_hand_9 : decode cX7_hand 9 = .ok (.iconst 0, 1) := by decide +kernel
theorem dX7_hand_10 : decode cX7_hand 10 = .ok (.iconst 1, 1) := by decide +kernel
theorem dX7_hand_11 : decode cX7_hand 11 = .ok (.invokestatic 65, 3) := by decide +kernel
theorem dX7_hand_14 : decode cX7_hand 14 = .ok (.ifCond .ne 6, 3) := by decide +kernel
theorem dX7_hand_17 : decode cX7_hand 17 = .ok (.ldc 87, 2) := by decide +kernel
theorem dX7_hand_19 : decode cX7_hand 19 = .ok (.ireturn, 1) := by decide +kernel
theorem dX7_hand_20 : decode cX7_hand 20 = .ok (.aload_n 0, 1) := by decide +kernel
theorem dX7_hand_21 : decode cX7_hand 21 = .ok (.getfield 10, 3) := by decide +kernel
theorem dX7_hand_24 : decode cX7_hand 24 = .ok (.iload_n 1, 1) := by decide +kernel
theorem dX7_hand_25 : decode cX7_hand 25 = .ok (.iload_n 2, 1) := by decide +kernel
theorem dX7_hand_26 : decode cX7_hand 26 = .ok (.invokevirtual 88, 3) := by decide +kernel
theorem dX7_hand_29 : decode cX7_hand 29 = .ok (.ireturn, 1) := by decide +kernel
theorem dX7_mend_0 : decode cX7_mend 0 = .ok (.aload_n 0, 1) := by decide +kernel
theorem dX7_mend_1 : decode cX7_mend 1 = .ok (.invokevirtual 91, 3) := by decide +kernel
theorem dX7_mend_4 : decode cX7_mend 4 = .ok (.aload_n 0, 1) := by decide +kernel
theorem dX7_mend_5 : decode cX7_mend 5 = .ok (.getfield 27, 3) := by decide +kernel
theorem dX7_mend_8 : decode cX7_mend 8 = .ok (.invokevirtual 94, 3) := by decide +kernel
theorem dX7_mend_11 : decode cX7_mend 11 = .ok (.iconst 3, 1) := by decide +kernel
theorem dX7_mend_12 : decode cX7_mend 12 = .ok (.if_icmp .ge 6, 3) := by decide +kernel
theorem dX7_mend_15 : decode cX7_mend 15 = .ok (.bipush (-3), 2) := by decide +kernel
theorem dX7_mend_17 : decode cX7_mend 17 = .ok (.ireturn, 1) := by decide +kernel
theorem dX7_mend_18 : decode cX7_mend 18 = .ok (.iconst 0, 1) := by decide +kernel
theorem dX7_mend_19 : decode cX7_mend 19 = .ok (.istore_n 1, 1) := by decide +kernel
theorem dX7_mend_20 : decode cX7_mend 20 = .ok (.iload_n 1, 1) := by decide +kernel
theorem dX7_mend_21 : decode cX7_mend 21 = .ok (.iconst 3, 1) := by decide +kernel
theorem dX7_mend_22 : decode cX7_mend 22 = .ok (.if_icmp .ge 49, 3) := by decide +kernel
theorem dX7_mend_25 : decode cX7_mend 25 = .ok (.aload_n 0, 1) := by decide +kernel
theorem dX7_mend_26 : decode cX7_mend 26 = .ok (.getfield 27, 3) := by decide +kernel
theorem dX7_mend_29 : decode cX7_mend 29 = .ok (.iload_n 1, 1) := by decide +kernel
theorem dX7_mend_30 : decode cX7_mend 30 = .ok (.invokevirtual 98, 3) := by decide +kernel
theorem dX7_mend_33 : decode cX7_mend 33 = .ok (.ldc2_w 102, 3) := by decide +kernel
theorem dX7_mend_36 : decode cX7_mend 36 = .ok (.ladd, 1) := by decide +kernel
theorem dX7_mend_37 : decode cX7_mend 37 = .ok (.ldc2_w 104, 3) := by decide +kernel
theorem dX7_mend_40 : decode cX7_mend 40 = .ok (.invokestatic 106, 3) := by decide +kernel
theorem dX7_mend_43 : decode cX7_mend 43 = .ok (.lstore_n 2, 1) := by decide +kernel
theorem dX7_mend_44 : decode cX7_mend 44 = .ok (.aload_n 0, 1) := by decide +kernel
theorem dX7_mend_45 : decode cX7_mend 45 = .ok (.getfield 10, 3) := by decide +kernel
theorem dX7_mend_48 : decode cX7_mend 48 = .ok (.getfield 73, 3) := by decide +kernel
theorem dX7_mend_51 : decode cX7_mend 51 = .ok (.iload_n 1, 1) := by decide +kernel
theorem dX7_mend_52 : decode cX7_mend 52 = .ok (.lconst 1, 1) := by decide +kernel
theorem dX7_mend_53 : decode cX7_mend 53 = .ok (.ldc2_w 112, 3) := by decide +kernel
theorem dX7_mend_56 : decode cX7_mend 56 = .ok (.lload_n 2, 1) := by decide +kernel
theorem dX7_mend_57 : decode cX7_mend 57 = .ok (.invokestatic 114, 3) := by decide +kernel
theorem dX7_mend_60 : decode cX7_mend 60 = .ok (.invokestatic 117, 3) := by decide +kernel
theorem dX7_mend_63 : decode cX7_mend 63 = .ok (.l2i, 1) := by decide +kernel
theorem dX7_mend_64 : decode cX7_mend 64 = .ok (.iastore, 1) := by decide +kernel
theorem dX7_mend_65 : decode cX7_mend 65 = .ok (.iinc 1 1, 3) := by decide +kernel
theorem dX7_mend_68 : decode cX7_mend 68 = .ok (.goto (-48), 3) := by decide +kernel
theorem dX7_mend_71 : decode cX7_mend 71 = .ok (.iconst 1, 1) := by decide +kernel
theorem dX7_mend_72 : decode cX7_mend 72 = .ok (.ireturn, 1) := by decide +kernel
theorem dX7_measure_0 : decode cX7_measure 0 = .ok (.aload_n 0, 1) := by decide +kernel
theorem dX7_measure_1 : decode cX7_measure 1 = .ok (.iload_n 1, 1) := by decide +kernel
theorem dX7_measure_2 : decode cX7_measure 2 = .ok (.invokevirtual 83, 3) := by decide +kernel
theorem dX7_measure_5 : decode cX7_measure 5 = .ok (.ifCond .eq 12, 3) := by decide +kernel
theorem dX7_measure_8 : decode cX7_measure 8 = .ok (.iload_n 2, 1) := by decide +kernel
theorem dX7_measure_9 : decode cX7_measure 9 = .ok (.iconst 0, 1) := by decide +kernel
theorem dX7_measure_10 : decode cX7_measure 10 = .ok (.iconst 1, 1) := by decide +kernel
theorem dX7_measure_11 : decode cX7_measure 11 = .ok (.invokestatic 65, 3) := by decide +kernel
theorem dX7_measure_14 : decode cX7_measure 14 = .ok (.ifCond .ne 7, 3) := by decide +kernel
theorem dX7_measure_17 : decode cX7_measure 17 = .ok (.sipush (-10000), 3) := by decide +kernel
theorem dX7_measure_20 : decode cX7_measure 20 = .ok (.ireturn, 1) := by decide +kernel
theorem dX7_measure_21 : decode cX7_measure 21 = .ok (.aload_n 0, 1) := by decide +kernel
theorem dX7_measure_22 : decode cX7_measure 22 = .ok (.iload_n 1, 1) := by decide +kernel
theorem dX7_measure_23 : decode cX7_measure 23 = .ok (.invokevirtual 120, 3) := by decide +kernel
theorem dX7_measure_26 : decode cX7_measure 26 = .ok (.ifCond .eq 12, 3) := by decide +kernel
theorem dX7_measure_29 : decode cX7_measure 29 = .ok (.aload_n 0, 1) := by decide +kernel
theorem dX7_measure_30 : decode cX7_measure 30 = .ok (.iload_n 1, 1) := by decide +kernel
theorem dX7_measure_31 : decode cX7_measure 31 = .ok (.iload_n 2, 1) := by decide +kernel
theorem dX7_measure_32 : decode cX7_measure 32 = .ok (.invokevirtual 123, 3) := by decide +kernel
theorem dX7_measure_35 : decode cX7_measure 35 = .ok (.goto 6, 3) := by decide +kernel
theorem dX7_measure_38 : decode cX7_measure 38 = .ok (.sipush (-10001), 3) := by decide +kernel
theorem dX7_measure_41 : decode cX7_measure 41 = .ok (.ireturn, 1) := by decide +kernel
theorem dX7_leave_0 : decode cX7_leave 0 = .ok (.aload_n 0, 1) := by decide +kernel
theorem dX7_leave_1 : decode cX7_leave 1 = .ok (.iload_n 1, 1) := by decide +kernel
theorem dX7_leave_2 : decode cX7_leave 2 = .ok (.invokevirtual 83, 3) := by decide +kernel
theorem dX7_leave_5 : decode cX7_leave 5 = .ok (.ifCond .ne 6, 3) := by decide +kernel
theorem dX7_leave_8 : decode cX7_leave 8 = .ok (.bipush (-2), 2) := by decide +kernel
theorem dX7_leave_10 : decode cX7_leave 10 = .ok (.ireturn, 1) := by decide +kernel
theorem dX7_leave_11 : decode cX7_leave 11 = .ok (.aload_n 0, 1) := by decide +kernel
theorem dX7_leave_12 : decode cX7_leave 12 = .ok (.getfield 16, 3) := by decide +kernel
theorem dX7_leave_15 : decode cX7_leave 15 = .ok (.iload_n 1, 1) := by decide +kernel
theorem dX7_leave_16 : decode cX7_leave 16 = .ok (.iload_n 2, 1) := by decide +kernel
theorem dX7_leave_17 : decode cX7_leave 17 = .ok (.bastore, 1) := by decide +kernel
theorem dX7_leave_18 : decode cX7_leave 18 = .ok (.iconst 1, 1) := by decide +kernel
theorem dX7_leave_19 : decode cX7_leave 19 = .ok (.ireturn, 1) := by decide +kernel
theorem dX7_used_0 : decode cX7_used 0 = .ok (.aload_n 0, 1) := by decide +kernel
theorem dX7_used_1 : decode cX7_used 1 = .ok (.invokevirtual 126, 3) := by decide +kernel
theorem dX7_used_4 : decode cX7_used 4 = .ok (.ireturn, 1) := by decide +kernel
theorem dX7_table_0 : decode cX7_table 0 = .ok (.iload_n 1, 1) := by decide +kernel
theorem dX7_table_1 : decode cX7_table 1 = .ok (.iconst 0, 1) := by decide +kernel
theorem dX7_table_2 : decode cX7_table 2 = .ok (.iconst 2, 1) := by decide +kernel
theorem dX7_table_3 : decode cX7_table 3 = .ok (.invokestatic 65, 3) := by decide +kernel
theorem dX7_table_6 : decode cX7_table 6 = .ok (.ifCond .eq 12, 3) := by decide +kernel
theorem dX7_table_9 : decode cX7_table 9 = .ok (.iload_n 2, 1) := by decide +kernel
theorem dX7_table_10 : decode cX7_table 10 = .ok (.iconst 0, 1) := by decide +kernel
theorem dX7_table_11 : decode cX7_table 11 = .ok (.iconst 2, 1) := by decide +kernel
theorem dX7_table_12 : decode cX7_table 12 = .ok (.invokestatic 65, 3) := by decide +kernel
theorem dX7_table_15 : decode cX7_table 15 = .ok (.ifCond .ne 7, 3) := by decide +kernel
theorem dX7_table_18 : decode cX7_table 18 = .ok (.ldc2_w 129, 3) := by decide +kernel
theorem dX7_table_21 : decode cX7_table 21 = .ok (.lreturn, 1) := by decide +kernel
theorem dX7_table_22 : decode cX7_table 22 = .ok (.aload_n 0, 1) := by decide +kernel
theorem dX7_table_23 : decode cX7_table 23 = .ok (.invokevirtual 91, 3) := by decide +kernel
theorem dX7_table_26 : decode cX7_table 26 = .ok (.aload_n 0, 1) := by decide +kernel
theorem dX7_table_27 : decode cX7_table 27 = .ok (.getfield 27, 3) := by decide +kernel
theorem dX7_table_30 : decode cX7_table 30 = .ok (.getfield 131, 3) := by decide +kernel
theorem dX7_table_33 : decode cX7_table 33 = .ok (.iconst 3, 1) := by decide +kernel
theorem dX7_table_34 : decode cX7_table 34 = .ok (.iload_n 1, 1) := by decide +kernel
theorem dX7_table_35 : decode cX7_table 35 = .ok (.imul, 1) := by decide +kernel
theorem dX7_table_36 : decode cX7_table 36 = .ok (.iload_n 2, 1) := by decide +kernel
theorem dX7_table_37 : decode cX7_table 37 = .ok (.iadd, 1) := by decide +kernel
theorem dX7_table_38 : decode cX7_table 38 = .ok (.laload, 1) := by decide +kernel
theorem dX7_table_39 : decode cX7_table 39 = .ok (.lreturn, 1) := by decide +kernel
theorem dX7_rank_0 : decode cX7_rank 0 = .ok (.aload_n 0, 1) := by decide +kernel
theorem dX7_rank_1 : decode cX7_rank 1 = .ok (.invokevirtual 91, 3) := by decide +kernel
theorem dX7_rank_4 : decode cX7_rank 4 = .ok (.aload_n 0, 1) := by decide +kernel
theorem dX7_rank_5 : decode cX7_rank 5 = .ok (.getfield 27, 3) := by decide +kernel
theorem dX7_rank_8 : decode cX7_rank 8 = .ok (.invokevirtual 94, 3) := by decide +kernel
theorem dX7_rank_11 : decode cX7_rank 11 = .ok (.ireturn, 1) := by decide +kernel
theorem dX7_told_0 : decode cX7_told 0 = .ok (.iload_n 1, 1) := by decide +kernel
theorem dX7_told_1 : decode cX7_told 1 = .ok (.iconst 0, 1) := by decide +kernel
theorem dX7_told_2 : decode cX7_told 2 = .ok (.iconst 2, 1) := by decide +kernel
theorem dX7_told_3 : decode cX7_told 3 = .ok (.invokestatic 65, 3) := by decide +kernel
theorem dX7_told_6 : decode cX7_told 6 = .ok (.ifCond .ne 6, 3) := by decide +kernel
theorem dX7_told_9 : decode cX7_told 9 = .ok (.bipush (-2), 2) := by decide +kernel
theorem dX7_told_11 : decode cX7_told 11 = .ok (.ireturn, 1) := by decide +kernel
theorem dX7_told_12 : decode cX7_told 12 = .ok (.aload_n 0, 1) := by decide +kernel
theorem dX7_told_13 : decode cX7_told 13 = .ok (.invokevirtual 91, 3) := by decide +kernel
theorem dX7_told_16 : decode cX7_told 16 = .ok (.aload_n 0, 1) := by decide +kernel
theorem dX7_told_17 : decode cX7_told 17 = .ok (.getfield 27, 3) := by decide +kernel
theorem dX7_told_20 : decode cX7_told 20 = .ok (.iload_n 1, 1) := by decide +kernel
theorem dX7_told_21 : decode cX7_told 21 = .ok (.invokevirtual 135, 3) := by decide +kernel
theorem dX7_told_24 : decode cX7_told 24 = .ok (.ifCond .eq 7, 3) := by decide +kernel
theorem dX7_told_27 : decode cX7_told 27 = .ok (.iconst 1, 1) := by decide +kernel
theorem dX7_told_28 : decode cX7_told 28 = .ok (.goto 4, 3) := by decide +kernel
theorem dX7_told_31 : decode cX7_told 31 = .ok (.iconst 0, 1) := by decide +kernel
theorem dX7_told_32 : decode cX7_told 32 = .ok (.ireturn, 1) := by decide +kernel
theorem dX7_fit_0 : decode cX7_fit 0 = .ok (.iload_n 1, 1) := by decide +kernel
theorem dX7_fit_1 : decode cX7_fit 1 = .ok (.iconst 0, 1) := by decide +kernel
theorem dX7_fit_2 : decode cX7_fit 2 = .ok (.iconst 2, 1) := by decide +kernel
theorem dX7_fit_3 : decode cX7_fit 3 = .ok (.invokestatic 65, 3) := by decide +kernel
theorem dX7_fit_6 : decode cX7_fit 6 = .ok (.ifCond .ne 7, 3) := by decide +kernel
theorem dX7_fit_9 : decode cX7_fit 9 = .ok (.ldc2_w 129, 3) := by decide +kernel
theorem dX7_fit_12 : decode cX7_fit 12 = .ok (.lreturn, 1) := by decide +kernel
theorem dX7_fit_13 : decode cX7_fit 13 = .ok (.aload_n 0, 1) := by decide +kernel
theorem dX7_fit_14 : decode cX7_fit 14 = .ok (.invokevirtual 91, 3) := by decide +kernel
theorem dX7_fit_17 : decode cX7_fit 17 = .ok (.aload_n 0, 1) := by decide +kernel
theorem dX7_fit_18 : decode cX7_fit 18 = .ok (.getfield 27, 3) := by decide +kernel
theorem dX7_fit_21 : decode cX7_fit 21 = .ok (.invokevirtual 94, 3) := by decide +kernel
theorem dX7_fit_24 : decode cX7_fit 24 = .ok (.iconst 3, 1) := by decide +kernel
theorem dX7_fit_25 : decode cX7_fit 25 = .ok (.if_icmp .ge 7, 3) := by decide +kernel
theorem dX7_fit_28 : decode cX7_fit 28 = .ok (.ldc2_w 138, 3) := by decide +kernel
theorem dX7_fit_31 : decode cX7_fit 31 = .ok (.lreturn, 1) := by decide +kernel
theorem dX7_fit_32 : decode cX7_fit 32 = .ok (.aload_n 0, 1) := by decide +kernel
theorem dX7_fit_33 : decode cX7_fit 33 = .ok (.getfield 27, 3) := by decide +kernel
theorem dX7_fit_36 : decode cX7_fit 36 = .ok (.iload_n 1, 1) := by decide +kernel
theorem dX7_fit_37 : decode cX7_fit 37 = .ok (.invokevirtual 98, 3) := by decide +kernel
theorem dX7_fit_40 : decode cX7_fit 40 = .ok (.lreturn, 1) := by decide +kernel
theorem dX7_miss_0 : decode cX7_miss 0 = .ok (.aload_n 0, 1) := by decide +kernel
theorem dX7_miss_1 : decode cX7_miss 1 = .ok (.iload_n 1, 1) := by decide +kernel
theorem dX7_miss_2 : decode cX7_miss 2 = .ok (.invokevirtual 83, 3) := by decide +kernel
