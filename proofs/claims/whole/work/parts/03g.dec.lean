theorem dX0_monthStart_0 : decode cX0_monthStart 0 = .ok (.iload_n 0, 1) := by decide +kernel
theorem dX0_monthStart_1 : decode cX0_monthStart 1 = .ok (.bipush 12, 2) := by decide +kernel
theorem dX0_monthStart_3 : decode cX0_monthStart 3 = .ok (.idiv, 1) := by decide +kernel
theorem dX0_monthStart_4 : decode cX0_monthStart 4 = .ok (.istore_n 1, 1) := by decide +kernel
theorem dX0_monthStart_5 : decode cX0_monthStart 5 = .ok (.iload_n 0, 1) := by decide +kernel
theorem dX0_monthStart_6 : decode cX0_monthStart 6 = .ok (.ifCond .ge 7, 3) := by decide +kernel
theorem dX0_monthStart_9 : decode cX0_monthStart 9 = .ok (.iconst 0, 1) := by decide +kernel
theorem dX0_monthStart_10 : decode cX0_monthStart 10 = .ok (.goto 7, 3) := by decide +kernel
theorem dX0_monthStart_13 : decode cX0_monthStart 13 = .ok (.iload_n 0, 1) := by decide +kernel
theorem dX0_monthStart_14 : decode cX0_monthStart 14 = .ok (.bipush 12, 2) := by decide +kernel
theorem dX0_monthStart_16 : decode cX0_monthStart 16 = .ok (.irem, 1) := by decide +kernel
theorem dX0_monthStart_17 : decode cX0_monthStart 17 = .ok (.istore_n 2, 1) := by decide +kernel
theorem dX0_monthStart_18 : decode cX0_monthStart 18 = .ok (.iload_n 2, 1) := by decide +kernel
theorem dX0_monthStart_19 : decode cX0_monthStart 19 = .ok (.iconst 2, 1) := by decide +kernel
theorem dX0_monthStart_20 : decode cX0_monthStart 20 = .ok (.if_icmp .ge 7, 3) := by decide +kernel
theorem dX0_monthStart_23 : decode cX0_monthStart 23 = .ok (.iload_n 1, 1) := by decide +kernel
theorem dX0_monthStart_24 : decode cX0_monthStart 24 = .ok (.goto 6, 3) := by decide +kernel
theorem dX0_monthStart_27 : decode cX0_monthStart 27 = .ok (.iload_n 1, 1) := by decide +kernel
theorem dX0_monthStart_28 : decode cX0_monthStart 28 = .ok (.iconst 1, 1) := by decide +kernel
theorem dX0_monthStart_29 : decode cX0_monthStart 29 = .ok (.iadd, 1) := by decide +kernel
theorem dX0_monthStart_30 : decode cX0_monthStart 30 = .ok (.istore_n 3, 1) := by decide +kernel
theorem dX0_monthStart_31 : decode cX0_monthStart 31 = .ok (.iload_n 3, 1) := by decide +kernel
theorem dX0_monthStart_32 : decode cX0_monthStart 32 = .ok (.iconst 3, 1) := by decide +kernel
theorem dX0_monthStart_33 : decode cX0_monthStart 33 = .ok (.iadd, 1) := by decide +kernel
theorem dX0_monthStart_34 : decode cX0_monthStart 34 = .ok (.iconst 4, 1) := by decide +kernel
theorem dX0_monthStart_35 : decode cX0_monthStart 35 = .ok (.idiv, 1) := by decide +kernel
theorem dX0_monthStart_36 : decode cX0_monthStart 36 = .ok (.iload_n 3, 1) := by decide +kernel
theorem dX0_monthStart_37 : decode cX0_monthStart 37 = .ok (.bipush 99, 2) := by decide +kernel
theorem dX0_monthStart_39 : decode cX0_monthStart 39 = .ok (.iadd, 1) := by decide +kernel
theorem dX0_monthStart_40 : decode cX0_monthStart 40 = .ok (.bipush 100, 2) := by decide +kernel
theorem dX0_monthStart_42 : decode cX0_monthStart 42 = .ok (.idiv, 1) := by decide +kernel
theorem dX0_monthStart_43 : decode cX0_monthStart 43 = .ok (.isub, 1) := by decide +kernel
theorem dX0_monthStart_44 : decode cX0_monthStart 44 = .ok (.iload_n 3, 1) := by decide +kernel
theorem dX0_monthStart_45 : decode cX0_monthStart 45 = .ok (.sipush 399, 3) := by decide +kernel
theorem dX0_monthStart_48 : decode cX0_monthStart 48 = .ok (.iadd, 1) := by decide +kernel
theorem dX0_monthStart_49 : decode cX0_monthStart 49 = .ok (.sipush 400, 3) := by decide +kernel
theorem dX0_monthStart_52 : decode cX0_monthStart 52 = .ok (.idiv, 1) := by decide +kernel
theorem dX0_monthStart_53 : decode cX0_monthStart 53 = .ok (.iadd, 1) := by decide +kernel
theorem dX0_monthStart_54 : decode cX0_monthStart 54 = .ok (.istore 4, 2) := by decide +kernel
theorem dX0_monthStart_56 : decode cX0_monthStart 56 = .ok (.iload_n 1, 1) := by decide +kernel
theorem dX0_monthStart_57 : decode cX0_monthStart 57 = .ok (.sipush 365, 3) := by decide +kernel
theorem dX0_monthStart_60 : decode cX0_monthStart 60 = .ok (.imul, 1) := by decide +kernel
theorem dX0_monthStart_61 : decode cX0_monthStart 61 = .ok (.getstatic 9, 3) := by decide +kernel
theorem dX0_monthStart_64 : decode cX0_monthStart 64 = .ok (.iload_n 2, 1) := by decide +kernel
theorem dX0_monthStart_65 : decode cX0_monthStart 65 = .ok (.iaload, 1) := by decide +kernel
theorem dX0_monthStart_66 : decode cX0_monthStart 66 = .ok (.iadd, 1) := by decide +kernel
theorem dX0_monthStart_67 : decode cX0_monthStart 67 = .ok (.iload 4, 2) := by decide +kernel
theorem dX0_monthStart_69 : decode cX0_monthStart 69 = .ok (.iadd, 1) := by decide +kernel
theorem dX0_monthStart_70 : decode cX0_monthStart 70 = .ok (.ireturn, 1) := by decide +kernel
theorem dX0_monthLength_0 : decode cX0_monthLength 0 = .ok (.iload_n 0, 1) := by decide +kernel
theorem dX0_monthLength_1 : decode cX0_monthLength 1 = .ok (.iconst 1, 1) := by decide +kernel
theorem dX0_monthLength_2 : decode cX0_monthLength 2 = .ok (.iadd, 1) := by decide +kernel
theorem dX0_monthLength_3 : decode cX0_monthLength 3 = .ok (.invokestatic 15, 3) := by decide +kernel
theorem dX0_monthLength_6 : decode cX0_monthLength 6 = .ok (.iload_n 0, 1) := by decide +kernel
theorem dX0_monthLength_7 : decode cX0_monthLength 7 = .ok (.invokestatic 15, 3) := by decide +kernel
theorem dX0_monthLength_10 : decode cX0_monthLength 10 = .ok (.isub, 1) := by decide +kernel
theorem dX0_monthLength_11 : decode cX0_monthLength 11 = .ok (.ireturn, 1) := by decide +kernel
theorem dX0_monthOf_0 : decode cX0_monthOf 0 = .ok (.iconst 0, 1) := by decide +kernel
theorem dX0_monthOf_1 : decode cX0_monthOf 1 = .ok (.iload_n 0, 1) := by decide +kernel
theorem dX0_monthOf_2 : decode cX0_monthOf 2 = .ok (.i2l, 1) := by decide +kernel
theorem dX0_monthOf_3 : decode cX0_monthOf 3 = .ok (.ldc2_w 19, 3) := by decide +kernel
theorem dX0_monthOf_6 : decode cX0_monthOf 6 = .ok (.lmul, 1) := by decide +kernel
theorem dX0_monthOf_7 : decode cX0_monthOf 7 = .ok (.ldc2_w 21, 3) := by decide +kernel
theorem dX0_monthOf_10 : decode cX0_monthOf 10 = .ok (.ldiv, 1) := by decide +kernel
theorem dX0_monthOf_11 : decode cX0_monthOf 11 = .ok (.l2i, 1) := by decide +kernel
theorem dX0_monthOf_12 : decode cX0_monthOf 12 = .ok (.iconst 1, 1) := by decide +kernel
theorem dX0_monthOf_13 : decode cX0_monthOf 13 = .ok (.isub, 1) := by decide +kernel
theorem dX0_monthOf_14 : decode cX0_monthOf 14 = .ok (.invokestatic 23, 3) := by decide +kernel
theorem dX0_monthOf_17 : decode cX0_monthOf 17 = .ok (.istore_n 1, 1) := by decide +kernel
theorem dX0_monthOf_18 : decode cX0_monthOf 18 = .ok (.iconst 0, 1) := by decide +kernel
theorem dX0_monthOf_19 : decode cX0_monthOf 19 = .ok (.istore_n 2, 1) := by decide +kernel
theorem dX0_monthOf_20 : decode cX0_monthOf 20 = .ok (.iload_n 2, 1) := by decide +kernel
theorem dX0_monthOf_21 : decode cX0_monthOf 21 = .ok (.iconst 3, 1) := by decide +kernel
theorem dX0_monthOf_22 : decode cX0_monthOf 22 = .ok (.if_icmp .ge 22, 3) := by decide +kernel
theorem dX0_monthOf_25 : decode cX0_monthOf 25 = .ok (.iload_n 1, 1) := by decide +kernel
theorem dX0_monthOf_26 : decode cX0_monthOf 26 = .ok (.iconst 1, 1) := by decide +kernel
theorem dX0_monthOf_27 : decode cX0_monthOf 27 = .ok (.iadd, 1) := by decide +kernel
theorem dX0_monthOf_28 : decode cX0_monthOf 28 = .ok (.invokestatic 15, 3) := by decide +kernel
theorem dX0_monthOf_31 : decode cX0_monthOf 31 = .ok (.iload_n 0, 1) := by decide +kernel
theorem dX0_monthOf_32 : decode cX0_monthOf 32 = .ok (.if_icmp .gt 12, 3) := by decide +kernel
theorem dX0_monthOf_35 : decode cX0_monthOf 35 = .ok (.iinc 1 1, 3) := by decide +kernel
theorem dX0_monthOf_38 : decode cX0_monthOf 38 = .ok (.iinc 2 1, 3) := by decide +kernel
theorem dX0_monthOf_41 : decode cX0_monthOf 41 = .ok (.goto (-21), 3) := by decide +kernel
theorem dX0_monthOf_44 : decode cX0_monthOf 44 = .ok (.iload_n 1, 1) := by decide +kernel
theorem dX0_monthOf_45 : decode cX0_monthOf 45 = .ok (.ireturn, 1) := by decide +kernel
theorem dX0_monthsAfter_0 : decode cX0_monthsAfter 0 = .ok (.iload_n 0, 1) := by decide +kernel
theorem dX0_monthsAfter_1 : decode cX0_monthsAfter 1 = .ok (.invokestatic 29, 3) := by decide +kernel
theorem dX0_monthsAfter_4 : decode cX0_monthsAfter 4 = .ok (.istore_n 2, 1) := by decide +kernel
theorem dX0_monthsAfter_5 : decode cX0_monthsAfter 5 = .ok (.iload_n 0, 1) := by decide +kernel
theorem dX0_monthsAfter_6 : decode cX0_monthsAfter 6 = .ok (.iload_n 2, 1) := by decide +kernel
theorem dX0_monthsAfter_7 : decode cX0_monthsAfter 7 = .ok (.invokestatic 15, 3) := by decide +kernel
theorem dX0_monthsAfter_10 : decode cX0_monthsAfter 10 = .ok (.isub, 1) := by decide +kernel
theorem dX0_monthsAfter_11 : decode cX0_monthsAfter 11 = .ok (.istore_n 3, 1) := by decide +kernel
theorem dX0_monthsAfter_12 : decode cX0_monthsAfter 12 = .ok (.iload_n 2, 1) := by decide +kernel
theorem dX0_monthsAfter_13 : decode cX0_monthsAfter 13 = .ok (.iload_n 1, 1) := by decide +kernel
theorem dX0_monthsAfter_14 : decode cX0_monthsAfter 14 = .ok (.iadd, 1) := by decide +kernel
theorem dX0_monthsAfter_15 : decode cX0_monthsAfter 15 = .ok (.invokestatic 15, 3) := by decide +kernel
theorem dX0_monthsAfter_18 : decode cX0_monthsAfter 18 = .ok (.iload_n 3, 1) := by decide +kernel
theorem dX0_monthsAfter_19 : decode cX0_monthsAfter 19 = .ok (.iload_n 2, 1) := by decide +kernel
theorem dX0_monthsAfter_20 : decode cX0_monthsAfter 20 = .ok (.iload_n 1, 1) := by decide +kernel
theorem dX0_monthsAfter_21 : decode cX0_monthsAfter 21 = .ok (.iadd, 1) := by decide +kernel
theorem dX0_monthsAfter_22 : decode cX0_monthsAfter 22 = .ok (.invokestatic 32, 3) := by decide +kernel
theorem dX0_monthsAfter_25 : decode cX0_monthsAfter 25 = .ok (.iconst 1, 1) := by decide +kernel
theorem dX0_monthsAfter_26 : decode cX0_monthsAfter 26 = .ok (.isub, 1) := by decide +kernel
theorem dX0_monthsAfter_27 : decode cX0_monthsAfter 27 = .ok (.invokestatic 35, 3) := by decide +kernel
theorem dX0_monthsAfter_30 : decode cX0_monthsAfter 30 = .ok (.iadd, 1) := by decide +kernel
theorem dX0_monthsAfter_31 : decode cX0_monthsAfter 31 = .ok (.istore 4, 2) := by decide +kernel
theorem dX0_monthsAfter_33 : decode cX0_monthsAfter 33 = .ok (.iload 4, 2) := by decide +kernel
theorem dX0_monthsAfter_35 : decode cX0_monthsAfter 35 = .ok (.ldc 38, 2) := by decide +kernel
theorem dX0_monthsAfter_37 : decode cX0_monthsAfter 37 = .ok (.if_icmp .le 8, 3) := by decide +kernel
theorem dX0_monthsAfter_40 : decode cX0_monthsAfter 40 = .ok (.ldc 39, 2) := by decide +kernel
theorem dX0_monthsAfter_42 : decode cX0_monthsAfter 42 = .ok (.goto 5, 3) := by decide +kernel
theorem dX0_monthsAfter_45 : decode cX0_monthsAfter 45 = .ok (.iload 4, 2) := by decide +kernel
theorem dX0_monthsAfter_47 : decode cX0_monthsAfter 47 = .ok (.ireturn, 1) := by decide +kernel
theorem dX1_init_0 : decode cX1_init 0 = .ok (.aload_n 0, 1) := by decide +kernel
theorem dX1_init_1 : decode cX1_init 1 = .ok (.invokespecial 1, 3) := by decide +kernel
theorem dX1_init_4 : decode cX1_init 4 = .ok (.aload_n 0, 1) := by decide +kernel
theorem dX1_init_5 : decode cX1_init 5 = .ok (.aload_n 1, 1) := by decide +kernel
theorem dX1_init_6 : decode cX1_init 6 = .ok (.putfield 7, 3) := by decide +kernel
theorem dX1_init_9 : decode cX1_init 9 = .ok (.aload_n 0, 1) := by decide +kernel
theorem dX1_init_10 : decode cX1_init 10 = .ok (.iload_n 2, 1) := by decide +kernel
theorem dX1_init_11 : decode cX1_init 11 = .ok (.putfield 13, 3) := by decide +kernel
theorem dX1_init_14 : decode cX1_init 14 = .ok (.return_, 1) := by decide +kernel
theorem dX2_init_0 : decode cX2_init 0 = .ok (.aload_n 0, 1) := by decide +kernel
theorem dX2_init_1 : decode cX2_init 1 = .ok (.invokespecial 3, 3) := by decide +kernel
theorem dX2_init_4 : decode cX2_init 4 = .ok (.aload_n 0, 1) := by decide +kernel
theorem dX2_init_5 : decode cX2_init 5 = .ok (.sipush 2000, 3) := by decide +kernel
theorem dX2_init_8 : decode cX2_init 8 = .ok (.newarray .int, 2) := by decide +kernel
theorem dX2_init_10 : decode cX2_init 10 = .ok (.putfield 9, 3) := by decide +kernel
theorem dX2_init_13 : decode cX2_init 13 = .ok (.return_, 1) := by decide +kernel
theorem dX2_add_0 : decode cX2_add 0 = .ok (.aload_n 0, 1) := by decide +kernel
theorem dX2_add_1 : decode cX2_add 1 = .ok (.getfield 15, 3) := by decide +kernel
theorem dX2_add_4 : decode cX2_add 4 = .ok (.sipush 400, 3) := by decide +kernel
theorem dX2_add_7 : decode cX2_add 7 = .ok (.if_icmp .ge 64, 3) := by decide +kernel
theorem dX2_add_10 : decode cX2_add 10 = .ok (.aload_n 0, 1) := by decide +kernel
theorem dX2_add_11 : decode cX2_add 11 = .ok (.getfield 15, 3) := by decide +kernel
theorem dX2_add_14 : decode cX2_add 14 = .ok (.iconst 5, 1) := by decide +kernel
theorem dX2_add_15 : decode cX2_add 15 = .ok (.imul, 1) := by decide +kernel
theorem dX2_add_16 : decode cX2_add 16 = .ok (.istore 6, 2) := by decide +kernel
theorem dX2_add_18 : decode cX2_add 18 = .ok (.aload_n 0, 1) := by decide +kernel
theorem dX2_add_19 : decode cX2_add 19 = .ok (.getfield 9, 3) := by decide +kernel
theorem dX2_add_22 : decode cX2_add 22 = .ok (.iload 6, 2) := by decide +kernel
theorem dX2_add_24 : decode cX2_add 24 = .ok (.iload_n 1, 1) := by decide +kernel
theorem dX2_add_25 : decode cX2_add 25 = .ok (.iastore, 1) := by decide +kernel
theorem dX2_add_26 : decode cX2_add 26 = .ok (.aload_n 0, 1) := by decide +kernel
theorem dX2_add_27 : decode cX2_add 27 = .ok (.getfield 9, 3) := by decide +kernel
theorem dX2_add_30 : decode cX2_add 30 = .ok (.iload 6, 2) := by decide +kernel
theorem dX2_add_32 : decode cX2_add 32 = .ok (.iconst 1, 1) := by decide +kernel
theorem dX2_add_33 : decode cX2_add 33 = .ok (.iadd, 1) := by decide +kernel
theorem dX2_add_34 : decode cX2_add 34 = .ok (.iload_n 2, 1) := by decide +kernel
theorem dX2_add_35 : decode cX2_add 35 = .ok (.iastore, 1) := by decide +kernel
theorem dX2_add_36 : decode cX2_add 36 = .ok (.aload_n 0, 1) := by decide +kernel
theorem dX2_add_37 : decode cX2_add 37 = .ok (.getfield 9, 3) := by decide +kernel
theorem dX2_add_40 : decode cX2_add 40 = .ok (.iload 6, 2) := by decide +kernel
theorem dX2_add_42 : decode cX2_add 42 = .ok (.iconst 2, 1) := by decide +kernel
theorem dX2_add_43 : decode cX2_add 43 = .ok (.iadd, 1) := by decide +kernel
theorem dX2_add_44 : decode cX2_add 44 = .ok (.iload_n 3, 1) := by decide +kernel
theorem dX2_add_45 : decode cX2_add 45 = .ok (.iastore, 1) := by decide +kernel
theorem dX2_add_46 : decode cX2_add 46 = .ok (.aload_n 0, 1) := by decide +kernel
theorem dX2_add_47 : decode cX2_add 47 = .ok (.getfield 9, 3) := by decide +kernel
theorem dX2_add_50 : decode cX2_add 50 = .ok (.iload 6, 2) := by decide +kernel
theorem dX2_add_52 : decode cX2_add 52 = .ok (.iconst 3, 1) := by decide +kernel
theorem dX2_add_53 : decode cX2_add 53 = .ok (.iadd, 1) := by decide +kernel
theorem dX2_add_54 : decode cX2_add 54 = .ok (.iload 4, 2) := by decide +kernel
theorem dX2_add_56 : decode cX2_add 56 = .ok (.iastore, 1) := by decide +kernel
theorem dX2_add_57 : decode cX2_add 57 = .ok (.aload_n 0, 1) := by decide +kernel
theorem dX2_add_58 : decode cX2_add 58 = .ok (.getfield 9, 3) := by decide +kernel
theorem dX2_add_61 : decode cX2_add 61 = .ok (.iload 6, 2) := by decide +kernel
theorem dX2_add_63 : decode cX2_add 63 = .ok (.iconst 4, 1) := by decide +kernel
theorem dX2_add_64 : decode cX2_add 64 = .ok (.iadd, 1) := by decide +kernel
theorem dX2_add_65 : decode cX2_add 65 = .ok (.aload 5, 2) := by decide +kernel
theorem dX2_add_67 : decode cX2_add 67 = .ok (.getfield 19, 3) := by decide +kernel
theorem dX2_add_70 : decode cX2_add 70 = .ok (.iastore, 1) := by decide +kernel
theorem dX2_add_71 : decode cX2_add 71 = .ok (.aload_n 0, 1) := by decide +kernel
theorem dX2_add_72 : decode cX2_add 72 = .ok (.dup, 1) := by decide +kernel
theorem dX2_add_73 : decode cX2_add 73 = .ok (.getfield 15, 3) := by decide +kernel
theorem dX2_add_76 : decode cX2_add 76 = .ok (.iconst 1, 1) := by decide +kernel
theorem dX2_add_77 : decode cX2_add 77 = .ok (.iadd, 1) := by decide +kernel
theorem dX2_add_78 : decode cX2_add 78 = .ok (.putfield 15, 3) := by decide +kernel
theorem dX2_add_81 : decode cX2_add 81 = .ok (.aload_n 0, 1) := by decide +kernel
theorem dX2_add_82 : decode cX2_add 82 = .ok (.dup, 1) := by decide +kernel
theorem dX2_add_83 : decode cX2_add 83 = .ok (.getfield 24, 3) := by decide +kernel
theorem dX2_add_86 : decode cX2_add 86 = .ok (.iload 4, 2) := by decide +kernel
theorem dX2_add_88 : decode cX2_add 88 = .ok (.aload 5, 2) := by decide +kernel
theorem dX2_add_90 : decode cX2_add 90 = .ok (.getfield 27, 3) := by decide +kernel
theorem dX2_add_93 : decode cX2_add 93 = .ok (.if_icmp .le 7, 3) := by decide +kernel
theorem dX2_add_96 : decode cX2_add 96 = .ok (.iconst 1, 1) := by decide +kernel
theorem dX2_add_97 : decode cX2_add 97 = .ok (.goto 4, 3) := by decide +kernel
theorem dX2_add_100 : decode cX2_add 100 = .ok (.iconst 0, 1) := by decide +kernel
theorem dX2_add_101 : decode cX2_add 101 = .ok (.iadd, 1) := by decide +kernel
theorem dX2_add_102 : decode cX2_add 102 = .ok (.putfield 24, 3) := by decide +kernel
theorem dX2_add_105 : decode cX2_add 105 = .ok (.return_, 1) := by decide +kernel
theorem dX3_init_0 : decode cX3_init 0 = .ok (.aload_n 0, 1) := by decide +kernel
theorem dX3_init_1 : decode cX3_init 1 = .ok (.invokespecial 3, 3) := by decide +kernel
theorem dX3_init_4 : decode cX3_init 4 = .ok (.aload_n 0, 1) := by decide +kernel
theorem dX3_init_5 : decode cX3_init 5 = .ok (.iload_n 1, 1) := by decide +kernel
theorem dX3_init_6 : decode cX3_init 6 = .ok (.putfield 9, 3) := by decide +kernel
theorem dX3_init_9 : decode cX3_init 9 = .ok (.aload_n 0, 1) := by decide +kernel
theorem dX3_init_10 : decode cX3_init 10 = .ok (.iconst 4, 1) := by decide +kernel
theorem dX3_init_11 : decode cX3_init 11 = .ok (.newarray .int, 2) := by decide +kernel
theorem dX3_init_13 : decode cX3_init 13 = .ok (.putfield 15, 3) := by decide +kernel
theorem dX3_init_16 : decode cX3_init 16 = .ok (.aload_n 0, 1) := by decide +kernel
theorem dX3_init_17 : decode cX3_init 17 = .ok (.iconst 4, 1) := by decide +kernel
theorem dX3_init_18 : decode cX3_init 18 = .ok (.newarray .boolean, 2) := by decide +kernel
theorem dX3_init_20 : decode cX3_init 20 = .ok (.putfield 19, 3) := by decide +kernel
theorem dX3_init_23 : decode cX3_init 23 = .ok (.aload_n 0, 1) := by decide +kernel
theorem dX3_init_24 : decode cX3_init 24 = .ok (.iconst 4, 1) := by decide +kernel
theorem dX3_init_25 : decode cX3_init 25 = .ok (.newarray .int, 2) := by decide +kernel
theorem dX3_init_27 : decode cX3_init 27 = .ok (.putfield 23, 3) := by decide +kernel
theorem dX3_init_30 : decode cX3_init 30 = .ok (.return_, 1) := by decide +kernel
theorem dX3_isFor_0 : decode cX3_isFor 0 = .ok (.aload_n 0, 1) := by decide +kernel
theorem dX3_isFor_1 : decode cX3_isFor 1 = .ok (.getfield 26, 3) := by decide +kernel
theorem dX3_isFor_4 : decode cX3_isFor 4 = .ok (.aload_n 1, 1) := by decide +kernel
theorem dX3_isFor_5 : decode cX3_isFor 5 = .ok (.getfield 29, 3) := by decide +kernel
theorem dX3_isFor_8 : decode cX3_isFor 8 = .ok (.ishr, 1) := by decide +kernel
theorem dX3_isFor_9 : decode cX3_isFor 9 = .ok (.iconst 1, 1) := by decide +kernel
theorem dX3_isFor_10 : decode cX3_isFor 10 = .ok (.iand, 1) := by decide +kernel
theorem dX3_isFor_11 : decode cX3_isFor 11 = .ok (.ifCond .eq 14, 3) := by decide +kernel
theorem dX3_isFor_14 : decode cX3_isFor 14 = .ok (.aload_n 0, 1) := by decide +kernel
theorem dX3_isFor_15 : decode cX3_isFor 15 = .ok (.getfield 34, 3) := by decide +kernel
theorem dX3_isFor_18 : decode cX3_isFor 18 = .ok (.iload_n 2, 1) := by decide +kernel
theorem dX3_isFor_19 : decode cX3_isFor 19 = .ok (.ishr, 1) := by decide +kernel
theorem dX3_isFor_20 : decode cX3_isFor 20 = .ok (.iconst 1, 1) := by decide +kernel
theorem dX3_isFor_21 : decode cX3_isFor 21 = .ok (.iand, 1) := by decide +kernel
theorem dX3_isFor_22 : decode cX3_isFor 22 = .ok (.ifCond .ne 5, 3) := by decide +kernel
theorem dX3_isFor_25 : decode cX3_isFor 25 = .ok (.iconst 0, 1) := by decide +kernel
theorem dX3_isFor_26 : decode cX3_isFor 26 = .ok (.ireturn, 1) := by decide +kernel
theorem dX3_isFor_27 : decode cX3_isFor 27 = .ok (.iconst 0, 1) := by decide +kernel
theorem dX3_isFor_28 : decode cX3_isFor 28 = .ok (.istore_n 3, 1) := by decide +kernel
theorem dX3_isFor_29 : decode cX3_isFor 29 = .ok (.iload_n 3, 1) := by decide +kernel
theorem dX3_isFor_30 : decode cX3_isFor 30 = .ok (.aload_n 0, 1) := by decide +kernel
theorem dX3_isFor_31 : decode cX3_isFor 31 = .ok (.getfield 37, 3) := by decide +kernel
theorem dX3_isFor_34 : decode cX3_isFor 34 = .ok (.if_icmp .ge 63, 3) := by decide +kernel
theorem dX3_isFor_37 : decode cX3_isFor 37 = .ok (.iload_n 3, 1) := by decide +kernel
theorem dX3_isFor_38 : decode cX3_isFor 38 = .ok (.iconst 4, 1) := by decide +kernel
theorem dX3_isFor_39 : decode cX3_isFor 39 = .ok (.if_icmp .ge 58, 3) := by decide +kernel
theorem dX3_isFor_42 : decode cX3_isFor 42 = .ok (.aload_n 1, 1) := by decide +kernel
theorem dX3_isFor_43 : decode cX3_isFor 43 = .ok (.getfield 40, 3) := by decide +kernel
theorem dX3_isFor_46 : decode cX3_isFor 46 = .ok (.aload_n 0, 1) := by decide +kernel
theorem dX3_isFor_47 : decode cX3_isFor 47 = .ok (.getfield 15, 3) := by decide +kernel
theorem dX3_isFor_50 : decode cX3_isFor 50 = .ok (.iload_n 3, 1) := by decide +kernel
theorem dX3_isFor_51 : decode cX3_isFor 51 = .ok (.iaload, 1) := by decide +kernel
theorem dX3_isFor_52 : decode cX3_isFor 52 = .ok (.iaload, 1) := by decide +kernel
theorem dX3_isFor_53 : decode cX3_isFor 53 = .ok (.istore 4, 2) := by decide +kernel
theorem dX3_isFor_55 : decode cX3_isFor 55 = .ok (.aload_n 0, 1) := by decide +kernel
theorem dX3_isFor_56 : decode cX3_isFor 56 = .ok (.getfield 19, 3) := by decide +kernel
theorem dX3_isFor_59 : decode cX3_isFor 59 = .ok (.iload_n 3, 1) := by decide +kernel
theorem dX3_isFor_60 : decode cX3_isFor 60 = .ok (.baload, 1) := by decide +kernel
theorem dX3_isFor_61 : decode cX3_isFor 61 = .ok (.ifCond .eq 17, 3) := by decide +kernel
theorem dX3_isFor_64 : decode cX3_isFor 64 = .ok (.iload 4, 2) := by decide +kernel
theorem dX3_isFor_66 : decode cX3_isFor 66 = .ok (.aload_n 0, 1) := by decide +kernel
theorem dX3_isFor_67 : decode cX3_isFor 67 = .ok (.getfield 23, 3) := by decide +kernel
theorem dX3_isFor_70 : decode cX3_isFor 70 = .ok (.iload_n 3, 1) := by decide +kernel
theorem dX3_isFor_71 : decode cX3_isFor 71 = .ok (.iaload, 1) := by decide +kernel
theorem dX3_isFor_72 : decode cX3_isFor 72 = .ok (.if_icmp .lt 19, 3) := by decide +kernel
theorem dX3_isFor_75 : decode cX3_isFor 75 = .ok (.goto 14, 3) := by decide +kernel
theorem dX3_isFor_78 : decode cX3_isFor 78 = .ok (.iload 4, 2) := by decide +kernel
theorem dX3_isFor_80 : decode cX3_isFor 80 = .ok (.aload_n 0, 1) := by decide +kernel
theorem dX3_isFor_81 : decode cX3_isFor 81 = .ok (.getfield 23, 3) := by decide +kernel
theorem dX3_isFor_84 : decode cX3_isFor 84 = .ok (.iload_n 3, 1) := by decide +kernel
theorem dX3_isFor_85 : decode cX3_isFor 85 = .ok (.iaload, 1) := by decide +kernel
theorem dX3_isFor_86 : decode cX3_isFor 86 = .ok (.if_icmp .eq 5, 3) := by decide +kernel
theorem dX3_isFor_89 : decode cX3_isFor 89 = .ok (.iconst 0, 1) := by decide +kernel
theorem dX3_isFor_90 : decode cX3_isFor 90 = .ok (.ireturn, 1) := by decide +kernel
theorem dX3_isFor_91 : decode cX3_isFor 91 = .ok (.iinc 3 1, 3) := by decide +kernel
theorem dX3_isFor_94 : decode cX3_isFor 94 = .ok (.goto (-65), 3) := by decide +kernel
theorem dX3_isFor_97 : decode cX3_isFor 97 = .ok (.iconst 1, 1) := by decide +kernel
theorem dX3_isFor_98 : decode cX3_isFor 98 = .ok (.ireturn, 1) := by decide +kernel
theorem dX3_dayFor_0 : decode cX3_dayFor 0 = .ok (.aload_n 1, 1) := by decide +kernel
theorem dX3_dayFor_1 : decode cX3_dayFor 1 = .ok (.getfield 43, 3) := by decide +kernel
theorem dX3_dayFor_4 : decode cX3_dayFor 4 = .ok (.aload_n 0, 1) := by decide +kernel
theorem dX3_dayFor_5 : decode cX3_dayFor 5 = .ok (.getfield 46, 3) := by decide +kernel
theorem dX3_dayFor_8 : decode cX3_dayFor 8 = .ok (.iaload, 1) := by decide +kernel
theorem dX3_dayFor_9 : decode cX3_dayFor 9 = .ok (.istore_n 2, 1) := by decide +kernel
theorem dX3_dayFor_10 : decode cX3_dayFor 10 = .ok (.iload_n 2, 1) := by decide +kernel
theorem dX3_dayFor_11 : decode cX3_dayFor 11 = .ok (.iconst (-1), 1) := by decide +kernel
theorem dX3_dayFor_12 : decode cX3_dayFor 12 = .ok (.if_icmp .ne 5, 3) := by decide +kernel
theorem dX3_dayFor_15 : decode cX3_dayFor 15 = .ok (.iconst (-1), 1) := by decide +kernel
theorem dX3_dayFor_16 : decode cX3_dayFor 16 = .ok (.ireturn, 1) := by decide +kernel
theorem dX3_dayFor_17 : decode cX3_dayFor 17 = .ok (.aload_n 0, 1) := by decide +kernel
theorem dX3_dayFor_18 : decode cX3_dayFor 18 = .ok (.getfield 49, 3) := by decide +kernel
theorem dX3_dayFor_21 : decode cX3_dayFor 21 = .ok (.ifCond .eq 17, 3) := by decide +kernel
theorem dX3_dayFor_24 : decode cX3_dayFor 24 = .ok (.iload_n 2, 1) := by decide +kernel
theorem dX3_dayFor_25 : decode cX3_dayFor 25 = .ok (.aload_n 0, 1) := by decide +kernel
theorem dX3_dayFor_26 : decode cX3_dayFor 26 = .ok (.getfield 52, 3) := by decide +kernel
theorem dX3_dayFor_29 : decode cX3_dayFor 29 = .ok (.aload_n 0, 1) := by decide +kernel
theorem dX3_dayFor_30 : decode cX3_dayFor 30 = .ok (.getfield 49, 3) := by decide +kernel
theorem dX3_dayFor_33 : decode cX3_dayFor 33 = .ok (.imul, 1) := by decide +kernel
theorem dX3_dayFor_34 : decode cX3_dayFor 34 = .ok (.invokestatic 55, 3) := by decide +kernel
theorem dX3_dayFor_37 : decode cX3_dayFor 37 = .ok (.ireturn, 1) := by decide +kernel
theorem dX3_dayFor_38 : decode cX3_dayFor 38 = .ok (.iload_n 2, 1) := by decide +kernel
theorem dX3_dayFor_39 : decode cX3_dayFor 39 = .ok (.aload_n 0, 1) := by decide +kernel
theorem dX3_dayFor_40 : decode cX3_dayFor 40 = .ok (.getfield 52, 3) := by decide +kernel
theorem dX3_dayFor_43 : decode cX3_dayFor 43 = .ok (.iadd, 1) := by decide +kernel
theorem dX3_dayFor_44 : decode cX3_dayFor 44 = .ok (.ldc 61, 2) := by decide +kernel
theorem dX3_dayFor_46 : decode cX3_dayFor 46 = .ok (.if_icmp .le 8, 3) := by decide +kernel
theorem dX3_dayFor_49 : decode cX3_dayFor 49 = .ok (.ldc 62, 2) := by decide +kernel
theorem dX3_dayFor_51 : decode cX3_dayFor 51 = .ok (.goto 9, 3) := by decide +kernel
theorem dX3_dayFor_54 : decode cX3_dayFor 54 = .ok (.iload_n 2, 1) := by decide +kernel
theorem dX3_dayFor_55 : decode cX3_dayFor 55 = .ok (.aload_n 0, 1) := by decide +kernel
theorem dX3_dayFor_56 : decode cX3_dayFor 56 = .ok (.getfield 52, 3) := by decide +kernel
theorem dX3_dayFor_59 : decode cX3_dayFor 59 = .ok (.iadd, 1) := by decide +kernel
theorem dX3_dayFor_60 : decode cX3_dayFor 60 = .ok (.ireturn, 1) := by decide +kernel
theorem dX4_init_0 : decode cX4_init 0 = .ok (.aload_n 0, 1) := by decide +kernel
theorem dX4_init_1 : decode cX4_init 1 = .ok (.invokespecial 3, 3) := by decide +kernel
theorem dX4_init_4 : decode cX4_init 4 = .ok (.aload_n 0, 1) := by decide +kernel
theorem dX4_init_5 : decode cX4_init 5 = .ok (.aload_n 1, 1) := by decide +kernel
theorem dX4_init_6 : decode cX4_init 6 = .ok (.putfield 9, 3) := by decide +kernel
theorem dX4_init_9 : decode cX4_init 9 = .ok (.aload_n 0, 1) := by decide +kernel
theorem dX4_init_10 : decode cX4_init 10 = .ok (.iload_n 2, 1) := by decide +kernel
theorem dX4_init_11 : decode cX4_init 11 = .ok (.aload_n 1, 1) := by decide +kernel
theorem dX4_init_12 : decode cX4_init 12 = .ok (.arraylength, 1) := by decide +kernel
theorem dX4_init_13 : decode cX4_init 13 = .ok (.invokestatic 15, 3) := by decide +kernel
theorem dX4_init_16 : decode cX4_init 16 = .ok (.putfield 21, 3) := by decide +kernel
theorem dX4_init_19 : decode cX4_init 19 = .ok (.return_, 1) := by decide +kernel
theorem dX4_readInto_0 : decode cX4_readInto 0 = .ok (.aload_n 0, 1) := by decide +kernel
theorem dX4_readInto_1 : decode cX4_readInto 1 = .ok (.invokevirtual 25, 3) := by decide +kernel
theorem dX4_readInto_4 : decode cX4_readInto 4 = .ok (.iconst 0, 1) := by decide +kernel
theorem dX4_readInto_5 : decode cX4_readInto 5 = .ok (.istore_n 2, 1) := by decide +kernel
theorem dX4_readInto_6 : decode cX4_readInto 6 = .ok (.iload_n 2, 1) := by decide +kernel
theorem dX4_readInto_7 : decode cX4_readInto 7 = .ok (.bipush 24, 2) := by decide +kernel
theorem dX4_readInto_9 : decode cX4_readInto 9 = .ok (.if_icmp .gt 25, 3) := by decide +kernel
theorem dX4_readInto_12 : decode cX4_readInto 12 = .ok (.aload_n 0, 1) := by decide +kernel
theorem dX4_readInto_13 : decode cX4_readInto 13 = .ok (.getfield 28, 3) := by decide +kernel
theorem dX4_readInto_16 : decode cX4_readInto 16 = .ok (.ifCond .eq 18, 3) := by decide +kernel
theorem dX4_readInto_19 : decode cX4_readInto 19 = .ok (.aload_n 0, 1) := by decide +kernel
theorem dX4_readInto_20 : decode cX4_readInto 20 = .ok (.aload_n 1, 1) := by decide +kernel
theorem dX4_readInto_21 : decode cX4_readInto 21 = .ok (.invokevirtual 31, 3) := by decide +kernel
theorem dX4_readInto_24 : decode cX4_readInto 24 = .ok (.ifCond .ne 4, 3) := by decide +kernel
theorem dX4_readInto_27 : decode cX4_readInto 27 = .ok (.return_, 1) := by decide +kernel
theorem dX4_readInto_28 : decode cX4_readInto 28 = .ok (.iinc 2 1, 3) := by decide +kernel
theorem dX4_readInto_31 : decode cX4_readInto 31 = .ok (.goto (-25), 3) := by decide +kernel
theorem dX4_readInto_34 : decode cX4_readInto 34 = .ok (.return_, 1) := by decide +kernel
theorem dX4_readRule_0 : decode cX4_readRule 0 = .ok (.aload_n 0, 1) := by decide +kernel
theorem dX4_readRule_1 : decode cX4_readRule 1 = .ok (.invokevirtual 35, 3) := by decide +kernel
theorem dX4_readRule_4 : decode cX4_readRule 4 = .ok (.istore_n 2, 1) := by decide +kernel
theorem dX4_readRule_5 : decode cX4_readRule 5 = .ok (.iload_n 2, 1) := by decide +kernel
theorem dX4_readRule_6 : decode cX4_readRule 6 = .ok (.iconst (-1), 1) := by decide +kernel
theorem dX4_readRule_7 : decode cX4_readRule 7 = .ok (.if_icmp .ne 9, 3) := by decide +kernel
theorem dX4_readRule_10 : decode cX4_readRule 10 = .ok (.aload_n 0, 1) := by decide +kernel
theorem dX4_readRule_11 : decode cX4_readRule 11 = .ok (.iconst 1, 1) := by decide +kernel
theorem dX4_readRule_12 : decode cX4_readRule 12 = .ok (.invokevirtual 39, 3) := by decide +kernel
theorem dX4_readRule_15 : decode cX4_readRule 15 = .ok (.ireturn, 1) := by decide +kernel
theorem dX4_readRule_16 : decode cX4_readRule 16 = .ok (.aload_n 1, 1) := by decide +kernel
theorem dX4_readRule_17 : decode cX4_readRule 17 = .ok (.invokevirtual 43, 3) := by decide +kernel
theorem dX4_readRule_20 : decode cX4_readRule 20 = .ok (.ifCond .eq 9, 3) := by decide +kernel
theorem dX4_readRule_23 : decode cX4_readRule 23 = .ok (.aload_n 0, 1) := by decide +kernel
theorem dX4_readRule_24 : decode cX4_readRule 24 = .ok (.iconst 2, 1) := by decide +kernel
theorem dX4_readRule_25 : decode cX4_readRule 25 = .ok (.invokevirtual 39, 3) := by decide +kernel
theorem dX4_readRule_28 : decode cX4_readRule 28 = .ok (.ireturn, 1) := by decide +kernel
theorem dX4_readRule_29 : decode cX4_readRule 29 = .ok (.aload_n 0, 1) := by decide +kernel
theorem dX4_readRule_30 : decode cX4_readRule 30 = .ok (.invokevirtual 25, 3) := by decide +kernel
theorem dX4_readRule_33 : decode cX4_readRule 33 = .ok (.new 49, 3) := by decide +kernel
theorem dX4_readRule_36 : decode cX4_readRule 36 = .ok (.dup, 1) := by decide +kernel
theorem dX4_readRule_37 : decode cX4_readRule 37 = .ok (.iload_n 2, 1) := by decide +kernel
theorem dX4_readRule_38 : decode cX4_readRule 38 = .ok (.invokespecial 51, 3) := by decide +kernel
theorem dX4_readRule_41 : decode cX4_readRule 41 = .ok (.astore_n 3, 1) := by decide +kernel
theorem dX4_readRule_42 : decode cX4_readRule 42 = .ok (.aload_n 0, 1) := by decide +kernel
theorem dX4_readRule_43 : decode cX4_readRule 43 = .ok (.aload_n 3, 1) := by decide +kernel
theorem dX4_readRule_44 : decode cX4_readRule 44 = .ok (.invokevirtual 54, 3) := by decide +kernel
theorem dX4_readRule_47 : decode cX4_readRule 47 = .ok (.ifCond .ne 5, 3) := by decide +kernel
theorem dX4_readRule_50 : decode cX4_readRule 50 = .ok (.iconst 0, 1) := by decide +kernel
theorem dX4_readRule_51 : decode cX4_readRule 51 = .ok (.ireturn, 1) := by decide +kernel
theorem dX4_readRule_52 : decode cX4_readRule 52 = .ok (.iload_n 2, 1) := by decide +kernel
theorem dX4_readRule_53 : decode cX4_readRule 53 = .ok (.iconst 2, 1) := by decide +kernel
theorem dX4_readRule_54 : decode cX4_readRule 54 = .ok (.if_icmp .ne 14, 3) := by decide +kernel
theorem dX4_readRule_57 : decode cX4_readRule 57 = .ok (.aload_n 0, 1) := by decide +kernel
theorem dX4_readRule_58 : decode cX4_readRule 58 = .ok (.aload_n 3, 1) := by decide +kernel
theorem dX4_readRule_59 : decode cX4_readRule 59 = .ok (.invokevirtual 58, 3) := by decide +kernel
theorem dX4_readRule_62 : decode cX4_readRule 62 = .ok (.ifCond .ne 16, 3) := by decide +kernel
theorem dX4_readRule_65 : decode cX4_readRule 65 = .ok (.goto 11, 3) := by decide +kernel
theorem dX4_readRule_68 : decode cX4_readRule 68 = .ok (.aload_n 0, 1) := by decide +kernel
theorem dX4_readRule_69 : decode cX4_readRule 69 = .ok (.aload_n 3, 1) := by decide +kernel
theorem dX4_readRule_70 : decode cX4_readRule 70 = .ok (.invokevirtual 61, 3) := by decide +kernel
theorem dX4_readRule_73 : decode cX4_readRule 73 = .ok (.ifCond .ne 5, 3) := by decide +kernel
theorem dX4_readRule_76 : decode cX4_readRule 76 = .ok (.iconst 0, 1) := by decide +kernel
theorem dX4_readRule_77 : decode cX4_readRule 77 = .ok (.ireturn, 1) := by decide +kernel
theorem dX4_readRule_78 : decode cX4_readRule 78 = .ok (.aload_n 0, 1) := by decide +kernel
theorem dX4_readRule_79 : decode cX4_readRule 79 = .ok (.aload_n 3, 1) := by decide +kernel
theorem dX4_readRule_80 : decode cX4_readRule 80 = .ok (.invokevirtual 64, 3) := by decide +kernel
theorem dX4_readRule_83 : decode cX4_readRule 83 = .ok (.ifCond .eq 11, 3) := by decide +kernel
theorem dX4_readRule_86 : decode cX4_readRule 86 = .ok (.aload_n 0, 1) := by decide +kernel
theorem dX4_readRule_87 : decode cX4_readRule 87 = .ok (.aload_n 3, 1) := by decide +kernel
theorem dX4_readRule_88 : decode cX4_readRule 88 = .ok (.invokevirtual 67, 3) := by decide +kernel
theorem dX4_readRule_91 : decode cX4_readRule 91 = .ok (.ifCond .ne 5, 3) := by decide +kernel
theorem dX4_readRule_94 : decode cX4_readRule 94 = .ok (.iconst 0, 1) := by decide +kernel
theorem dX4_readRule_95 : decode cX4_readRule 95 = .ok (.ireturn, 1) := by decide +kernel
theorem dX4_readRule_96 : decode cX4_readRule 96 = .ok (.aload_n 0, 1) := by decide +kernel
theorem dX4_readRule_97 : decode cX4_readRule 97 = .ok (.bipush 59, 2) := by decide +kernel
theorem dX4_readRule_99 : decode cX4_readRule 99 = .ok (.invokevirtual 70, 3) := by decide +kernel
theorem dX4_readRule_102 : decode cX4_readRule 102 = .ok (.ifCond .ne 9, 3) := by decide +kernel
theorem dX4_readRule_105 : decode cX4_readRule 105 = .ok (.aload_n 0, 1) := by decide +kernel
theorem dX4_readRule_106 : decode cX4_readRule 106 = .ok (.iconst 1, 1) := by decide +kernel
theorem dX4_readRule_107 : decode cX4_readRule 107 = .ok (.invokevirtual 39, 3) := by decide +kernel
theorem dX4_readRule_110 : decode cX4_readRule 110 = .ok (.ireturn, 1) := by decide +kernel
theorem dX4_readRule_111 : decode cX4_readRule 111 = .ok (.aload_n 0, 1) := by decide +kernel
theorem dX4_readRule_112 : decode cX4_readRule 112 = .ok (.invokevirtual 25, 3) := by decide +kernel
theorem dX4_readRule_115 : decode cX4_readRule 115 = .ok (.aload_n 1, 1) := by decide +kernel
theorem dX4_readRule_116 : decode cX4_readRule 116 = .ok (.aload_n 3, 1) := by decide +kernel
theorem dX4_readRule_117 : decode cX4_readRule 117 = .ok (.invokevirtual 74, 3) := by decide +kernel
theorem dX4_readRule_120 : decode cX4_readRule 120 = .ok (.iconst 1, 1) := by decide +kernel
theorem dX4_readRule_121 : decode cX4_readRule 121 = .ok (.ireturn, 1) := by decide +kernel
theorem dX4_ruleSort_0 : decode cX4_ruleSort 0 = .ok (.aload_n 0, 1) := by decide +kernel
theorem dX4_ruleSort_1 : decode cX4_ruleSort 1 = .ok (.ldc 78, 2) := by decide +kernel
theorem dX4_ruleSort_3 : decode cX4_ruleSort 3 = .ok (.invokevirtual 80, 3) := by decide +kernel
theorem dX4_ruleSort_6 : decode cX4_ruleSort 6 = .ok (.ifCond .eq 5, 3) := by decide +kernel
theorem dX4_ruleSort_9 : decode cX4_ruleSort 9 = .ok (.iconst 0, 1) := by decide +kernel
theorem dX4_ruleSort_10 : decode cX4_ruleSort 10 = .ok (.ireturn, 1) := by decide +kernel
theorem dX4_ruleSort_11 : decode cX4_ruleSort 11 = .ok (.aload_n 0, 1) := by decide +kernel
theorem dX4_ruleSort_12 : decode cX4_ruleSort 12 = .ok (.ldc 84, 2) := by decide +kernel
theorem dX4_ruleSort_14 : decode cX4_ruleSort 14 = .ok (.invokevirtual 80, 3) := by decide +kernel
theorem dX4_ruleSort_17 : decode cX4_ruleSort 17 = .ok (.ifCond .eq 5, 3) := by decide +kernel
theorem dX4_ruleSort_20 : decode cX4_ruleSort 20 = .ok (.iconst 1, 1) := by decide +kernel
theorem dX4_ruleSort_21 : decode cX4_ruleSort 21 = .ok (.ireturn, 1) := by decide +kernel
theorem dX4_ruleSort_22 : decode cX4_ruleSort 22 = .ok (.aload_n 0, 1) := by decide +kernel
theorem dX4_ruleSort_23 : decode cX4_ruleSort 23 = .ok (.ldc 86, 2) := by decide +kernel
theorem dX4_ruleSort_25 : decode cX4_ruleSort 25 = .ok (.invokevirtual 80, 3) := by decide +kernel
theorem dX4_ruleSort_28 : decode cX4_ruleSort 28 = .ok (.ifCond .eq 7, 3) := by decide +kernel
theorem dX4_ruleSort_31 : decode cX4_ruleSort 31 = .ok (.iconst 2, 1) := by decide +kernel
theorem dX4_ruleSort_32 : decode cX4_ruleSort 32 = .ok (.goto 4, 3) := by decide +kernel
theorem dX4_ruleSort_35 : decode cX4_ruleSort 35 = .ok (.iconst (-1), 1) := by decide +kernel
theorem dX4_ruleSort_36 : decode cX4_ruleSort 36 = .ok (.ireturn, 1) := by decide +kernel
theorem dX4_readWhat_0 : decode cX4_readWhat 0 = .ok (.aload_n 1, 1) := by decide +kernel
theorem dX4_readWhat_1 : decode cX4_readWhat 1 = .ok (.aload_n 0, 1) := by decide +kernel
theorem dX4_readWhat_2 : decode cX4_readWhat 2 = .ok (.ldc 88, 2) := by decide +kernel
theorem dX4_readWhat_4 : decode cX4_readWhat 4 = .ok (.invokevirtual 80, 3) := by decide +kernel
theorem dX4_readWhat_7 : decode cX4_readWhat 7 = .ok (.ifCond .eq 8, 3) := by decide +kernel
theorem dX4_readWhat_10 : decode cX4_readWhat 10 = .ok (.bipush 15, 2) := by decide +kernel
theorem dX4_readWhat_12 : decode cX4_readWhat 12 = .ok (.goto 10, 3) := by decide +kernel
theorem dX4_readWhat_15 : decode cX4_readWhat 15 = .ok (.aload_n 0, 1) := by decide +kernel
theorem dX4_readWhat_16 : decode cX4_readWhat 16 = .ok (.bipush 107, 2) := by decide +kernel
theorem dX4_readWhat_18 : decode cX4_readWhat 18 = .ok (.iconst 4, 1) := by decide +kernel
theorem dX4_readWhat_19 : decode cX4_readWhat 19 = .ok (.invokevirtual 90, 3) := by decide +kernel
theorem dX4_readWhat_22 : decode cX4_readWhat 22 = .ok (.putfield 94, 3) := by decide +kernel
theorem dX4_readWhat_25 : decode cX4_readWhat 25 = .ok (.aload_n 1, 1) := by decide +kernel
theorem dX4_readWhat_26 : decode cX4_readWhat 26 = .ok (.getfield 94, 3) := by decide +kernel
theorem dX4_readWhat_29 : decode cX4_readWhat 29 = .ok (.ifCond .ne 9, 3) := by decide +kernel
theorem dX4_readWhat_32 : decode cX4_readWhat 32 = .ok (.aload_n 0, 1) := by decide +kernel
theorem dX4_readWhat_33 : decode cX4_readWhat 33 = .ok (.iconst 1, 1) := by decide +kernel
theorem dX4_readWhat_34 : decode cX4_readWhat 34 = .ok (.invokevirtual 39, 3) := by decide +kernel
theorem dX4_readWhat_37 : decode cX4_readWhat 37 = .ok (.ireturn, 1) := by decide +kernel
theorem dX4_readWhat_38 : decode cX4_readWhat 38 = .ok (.aload_n 0, 1) := by decide +kernel
theorem dX4_readWhat_39 : decode cX4_readWhat 39 = .ok (.invokevirtual 25, 3) := by decide +kernel
theorem dX4_readWhat_42 : decode cX4_readWhat 42 = .ok (.aload_n 1, 1) := by decide +kernel
theorem dX4_readWhat_43 : decode cX4_readWhat 43 = .ok (.aload_n 0, 1) := by decide +kernel
theorem dX4_readWhat_44 : decode cX4_readWhat 44 = .ok (.ldc 97, 2) := by decide +kernel
theorem dX4_readWhat_46 : decode cX4_readWhat 46 = .ok (.invokevirtual 80, 3) := by decide +kernel
theorem dX4_readWhat_49 : decode cX4_readWhat 49 = .ok (.ifCond .eq 9, 3) := by decide +kernel
theorem dX4_readWhat_52 : decode cX4_readWhat 52 = .ok (.sipush 255, 3) := by decide +kernel
theorem dX4_readWhat_55 : decode cX4_readWhat 55 = .ok (.goto 11, 3) := by decide +kernel
theorem dX4_readWhat_58 : decode cX4_readWhat 58 = .ok (.aload_n 0, 1) := by decide +kernel
theorem dX4_readWhat_59 : decode cX4_readWhat 59 = .ok (.bipush 102, 2) := by decide +kernel
theorem dX4_readWhat_61 : decode cX4_readWhat 61 = .ok (.bipush 8, 2) := by decide +kernel
theorem dX4_readWhat_63 : decode cX4_readWhat 63 = .ok (.invokevirtual 90, 3) := by decide +kernel
theorem dX4_readWhat_66 : decode cX4_readWhat 66 = .ok (.putfield 99, 3) := by decide +kernel
theorem dX4_readWhat_69 : decode cX4_readWhat 69 = .ok (.aload_n 1, 1) := by decide +kernel
theorem dX4_readWhat_70 : decode cX4_readWhat 70 = .ok (.getfield 99, 3) := by decide +kernel
theorem dX4_readWhat_73 : decode cX4_readWhat 73 = .ok (.ifCond .ne 9, 3) := by decide +kernel
theorem dX4_readWhat_76 : decode cX4_readWhat 76 = .ok (.aload_n 0, 1) := by decide +kernel
theorem dX4_readWhat_77 : decode cX4_readWhat 77 = .ok (.iconst 1, 1) := by decide +kernel
theorem dX4_readWhat_78 : decode cX4_readWhat 78 = .ok (.invokevirtual 39, 3) := by decide +kernel
theorem dX4_readWhat_81 : decode cX4_readWhat 81 = .ok (.ireturn, 1) := by decide +kernel
theorem dX4_readWhat_82 : decode cX4_readWhat 82 = .ok (.aload_n 0, 1) := by decide +kernel
theorem dX4_readWhat_83 : decode cX4_readWhat 83 = .ok (.invokevirtual 25, 3) := by decide +kernel
theorem dX4_readWhat_86 : decode cX4_readWhat 86 = .ok (.iconst 1, 1) := by decide +kernel
theorem dX4_readWhat_87 : decode cX4_readWhat 87 = .ok (.ireturn, 1) := by decide +kernel
theorem dX4_readTime_0 : decode cX4_readTime 0 = .ok (.aload_n 0, 1) := by decide +kernel
theorem dX4_readTime_1 : decode cX4_readTime 1 = .ok (.invokevirtual 102, 3) := by decide +kernel
theorem dX4_readTime_4 : decode cX4_readTime 4 = .ok (.ifCond .ne 5, 3) := by decide +kernel
theorem dX4_readTime_7 : decode cX4_readTime 7 = .ok (.iconst 0, 1) := by decide +kernel
theorem dX4_readTime_8 : decode cX4_readTime 8 = .ok (.ireturn, 1) := by decide +kernel
theorem dX4_readTime_9 : decode cX4_readTime 9 = .ok (.aload_n 1, 1) := by decide +kernel
theorem dX4_readTime_10 : decode cX4_readTime 10 = .ok (.aload_n 0, 1) := by decide +kernel
theorem dX4_readTime_11 : decode cX4_readTime 11 = .ok (.invokevirtual 105, 3) := by decide +kernel
theorem dX4_readTime_14 : decode cX4_readTime 14 = .ok (.putfield 108, 3) := by decide +kernel
theorem dX4_readTime_17 : decode cX4_readTime 17 = .ok (.aload_n 0, 1) := by decide +kernel
theorem dX4_readTime_18 : decode cX4_readTime 18 = .ok (.invokevirtual 25, 3) := by decide +kernel
theorem dX4_readTime_21 : decode cX4_readTime 21 = .ok (.aload_n 0, 1) := by decide +kernel
theorem dX4_readTime_22 : decode cX4_readTime 22 = .ok (.ldc 111, 2) := by decide +kernel
theorem dX4_readTime_24 : decode cX4_readTime 24 = .ok (.invokevirtual 80, 3) := by decide +kernel
theorem dX4_readTime_27 : decode cX4_readTime 27 = .ok (.ifCond .ne 27, 3) := by decide +kernel
theorem dX4_readTime_30 : decode cX4_readTime 30 = .ok (.aload_n 0, 1) := by decide +kernel
theorem dX4_readTime_31 : decode cX4_readTime 31 = .ok (.ldc 113, 2) := by decide +kernel
theorem dX4_readTime_33 : decode cX4_readTime 33 = .ok (.invokevirtual 80, 3) := by decide +kernel
theorem dX4_readTime_36 : decode cX4_readTime 36 = .ok (.ifCond .ne 18, 3) := by decide +kernel
theorem dX4_readTime_39 : decode cX4_readTime 39 = .ok (.aload_n 0, 1) := by decide +kernel
theorem dX4_readTime_40 : decode cX4_readTime 40 = .ok (.ldc 115, 2) := by decide +kernel
theorem dX4_readTime_42 : decode cX4_readTime 42 = .ok (.invokevirtual 80, 3) := by decide +kernel
theorem dX4_readTime_45 : decode cX4_readTime 45 = .ok (.ifCond .ne 9, 3) := by decide +kernel
theorem dX4_readTime_48 : decode cX4_readTime 48 = .ok (.aload_n 0, 1) := by decide +kernel
theorem dX4_readTime_49 : decode cX4_readTime 49 = .ok (.iconst 1, 1) := by decide +kernel
theorem dX4_readTime_50 : decode cX4_readTime 50 = .ok (.invokevirtual 39, 3) := by decide +kernel
theorem dX4_readTime_53 : decode cX4_readTime 53 = .ok (.ireturn, 1) := by decide +kernel
theorem dX4_readTime_54 : decode cX4_readTime 54 = .ok (.aload_n 1, 1) := by decide +kernel
theorem dX4_readTime_55 : decode cX4_readTime 55 = .ok (.aload_n 0, 1) := by decide +kernel
theorem dX4_readTime_56 : decode cX4_readTime 56 = .ok (.ldc 115, 2) := by decide +kernel
theorem dX4_readTime_58 : decode cX4_readTime 58 = .ok (.invokevirtual 80, 3) := by decide +kernel
theorem dX4_readTime_61 : decode cX4_readTime 61 = .ok (.ifCond .eq 8, 3) := by decide +kernel
theorem dX4_readTime_64 : decode cX4_readTime 64 = .ok (.bipush 12, 2) := by decide +kernel
theorem dX4_readTime_66 : decode cX4_readTime 66 = .ok (.goto 17, 3) := by decide +kernel
theorem dX4_readTime_69 : decode cX4_readTime 69 = .ok (.aload_n 0, 1) := by decide +kernel
theorem dX4_readTime_70 : decode cX4_readTime 70 = .ok (.ldc 113, 2) := by decide +kernel
theorem dX4_readTime_72 : decode cX4_readTime 72 = .ok (.invokevirtual 80, 3) := by decide +kernel
theorem dX4_readTime_75 : decode cX4_readTime 75 = .ok (.ifCond .eq 7, 3) := by decide +kernel
theorem dX4_readTime_78 : decode cX4_readTime 78 = .ok (.iconst 1, 1) := by decide +kernel
theorem dX4_readTime_79 : decode cX4_readTime 79 = .ok (.goto 4, 3) := by decide +kernel
theorem dX4_readTime_82 : decode cX4_readTime 82 = .ok (.iconst 0, 1) := by decide +kernel
theorem dX4_readTime_83 : decode cX4_readTime 83 = .ok (.putfield 117, 3) := by decide +kernel
theorem dX4_readTime_86 : decode cX4_readTime 86 = .ok (.aload_n 0, 1) := by decide +kernel
theorem dX4_readTime_87 : decode cX4_readTime 87 = .ok (.invokevirtual 25, 3) := by decide +kernel
theorem dX4_readTime_90 : decode cX4_readTime 90 = .ok (.aload_n 0, 1) := by decide +kernel
theorem dX4_readTime_91 : decode cX4_readTime 91 = .ok (.ldc 120, 2) := by decide +kernel
theorem dX4_readTime_93 : decode cX4_readTime 93 = .ok (.invokevirtual 80, 3) := by decide +kernel
theorem dX4_readTime_96 : decode cX4_readTime 96 = .ok (.ifCond .ne 9, 3) := by decide +kernel
theorem dX4_readTime_99 : decode cX4_readTime 99 = .ok (.aload_n 0, 1) := by decide +kernel
theorem dX4_readTime_100 : decode cX4_readTime 100 = .ok (.iconst 1, 1) := by decide +kernel
theorem dX4_readTime_101 : decode cX4_readTime 101 = .ok (.invokevirtual 39, 3) := by decide +kernel
theorem dX4_readTime_104 : decode cX4_readTime 104 = .ok (.ireturn, 1) := by decide +kernel
theorem dX4_readTime_105 : decode cX4_readTime 105 = .ok (.aload_n 0, 1) := by decide +kernel
theorem dX4_readTime_106 : decode cX4_readTime 106 = .ok (.invokevirtual 25, 3) := by decide +kernel
theorem dX4_readTime_109 : decode cX4_readTime 109 = .ok (.aload_n 1, 1) := by decide +kernel
theorem dX4_readTime_110 : decode cX4_readTime 110 = .ok (.aload_n 0, 1) := by decide +kernel
theorem dX4_readTime_111 : decode cX4_readTime 111 = .ok (.bipush 101, 2) := by decide +kernel
theorem dX4_readTime_113 : decode cX4_readTime 113 = .ok (.iconst 4, 1) := by decide +kernel
theorem dX4_readTime_114 : decode cX4_readTime 114 = .ok (.invokevirtual 122, 3) := by decide +kernel
theorem dX4_readTime_117 : decode cX4_readTime 117 = .ok (.putfield 125, 3) := by decide +kernel
theorem dX4_readTime_120 : decode cX4_readTime 120 = .ok (.aload_n 1, 1) := by decide +kernel
theorem dX4_readTime_121 : decode cX4_readTime 121 = .ok (.getfield 125, 3) := by decide +kernel
theorem dX4_readTime_124 : decode cX4_readTime 124 = .ok (.iconst (-1), 1) := by decide +kernel
theorem dX4_readTime_125 : decode cX4_readTime 125 = .ok (.if_icmp .ne 9, 3) := by decide +kernel
theorem dX4_readTime_128 : decode cX4_readTime 128 = .ok (.aload_n 0, 1) := by decide +kernel
theorem dX4_readTime_129 : decode cX4_readTime 129 = .ok (.iconst 1, 1) := by decide +kernel
theorem dX4_readTime_130 : decode cX4_readTime 130 = .ok (.invokevirtual 39, 3) := by decide +kernel
theorem dX4_readTime_133 : decode cX4_readTime 133 = .ok (.ireturn, 1) := by decide +kernel
theorem dX4_readTime_134 : decode cX4_readTime 134 = .ok (.aload_n 0, 1) := by decide +kernel
theorem dX4_readTime_135 : decode cX4_readTime 135 = .ok (.invokevirtual 25, 3) := by decide +kernel
theorem dX4_readTime_138 : decode cX4_readTime 138 = .ok (.iconst 1, 1) := by decide +kernel
theorem dX4_readTime_139 : decode cX4_readTime 139 = .ok (.ireturn, 1) := by decide +kernel
theorem dX4_readStores_0 : decode cX4_readStores 0 = .ok (.aload_n 0, 1) := by decide +kernel
theorem dX4_readStores_1 : decode cX4_readStores 1 = .ok (.bipush 115, 2) := by decide +kernel
theorem dX4_readStores_3 : decode cX4_readStores 3 = .ok (.iconst 4, 1) := by decide +kernel
theorem dX4_readStores_4 : decode cX4_readStores 4 = .ok (.invokevirtual 90, 3) := by decide +kernel
theorem dX4_readStores_7 : decode cX4_readStores 7 = .ok (.istore_n 2, 1) := by decide +kernel
theorem dX4_readStores_8 : decode cX4_readStores 8 = .ok (.iload_n 2, 1) := by decide +kernel
theorem dX4_readStores_9 : decode cX4_readStores 9 = .ok (.ifCond .ne 9, 3) := by decide +kernel
theorem dX4_readStores_12 : decode cX4_readStores 12 = .ok (.aload_n 0, 1) := by decide +kernel
theorem dX4_readStores_13 : decode cX4_readStores 13 = .ok (.iconst 1, 1) := by decide +kernel
theorem dX4_readStores_14 : decode cX4_readStores 14 = .ok (.invokevirtual 39, 3) := by decide +kernel
theorem dX4_readStores_17 : decode cX4_readStores 17 = .ok (.ireturn, 1) := by decide +kernel
theorem dX4_readStores_18 : decode cX4_readStores 18 = .ok (.iconst 0, 1) := by decide +kernel
theorem dX4_readStores_19 : decode cX4_readStores 19 = .ok (.istore_n 3, 1) := by decide +kernel
theorem dX4_readStores_20 : decode cX4_readStores 20 = .ok (.iload_n 3, 1) := by decide +kernel
theorem dX4_readStores_21 : decode cX4_readStores 21 = .ok (.iconst 4, 1) := by decide +kernel
theorem dX4_readStores_22 : decode cX4_readStores 22 = .ok (.if_icmp .gt 50, 3) := by decide +kernel
theorem dX4_readStores_25 : decode cX4_readStores 25 = .ok (.iload_n 2, 1) := by decide +kernel
theorem dX4_readStores_26 : decode cX4_readStores 26 = .ok (.ifCond .eq 46, 3) := by decide +kernel
theorem dX4_readStores_29 : decode cX4_readStores 29 = .ok (.aload_n 1, 1) := by decide +kernel
theorem dX4_readStores_30 : decode cX4_readStores 30 = .ok (.getfield 128, 3) := by decide +kernel
theorem dX4_readStores_33 : decode cX4_readStores 33 = .ok (.iload_n 2, 1) := by decide +kernel
theorem dX4_readStores_34 : decode cX4_readStores 34 = .ok (.iand, 1) := by decide +kernel
theorem dX4_readStores_35 : decode cX4_readStores 35 = .ok (.ifCond .eq 9, 3) := by decide +kernel
theorem dX4_readStores_38 : decode cX4_readStores 38 = .ok (.aload_n 0, 1) := by decide +kernel
theorem dX4_readStores_39 : decode cX4_readStores 39 = .ok (.iconst 3, 1) := by decide +kernel
theorem dX4_readStores_40 : decode cX4_readStores 40 = .ok (.invokevirtual 39, 3) := by decide +kernel
theorem dX4_readStores_43 : decode cX4_readStores 43 = .ok (.ireturn, 1) := by decide +kernel
theorem dX4_readStores_44 : decode cX4_readStores 44 = .ok (.aload_n 1, 1) := by decide +kernel
theorem dX4_readStores_45 : decode cX4_readStores 45 = .ok (.dup, 1) := by decide +kernel
theorem dX4_readStores_46 : decode cX4_readStores 46 = .ok (.getfield 128, 3) := by decide +kernel
theorem dX4_readStores_49 : decode cX4_readStores 49 = .ok (.iload_n 2, 1) := by decide +kernel
theorem dX4_readStores_50 : decode cX4_readStores 50 = .ok (.ior, 1) := by decide +kernel
theorem dX4_readStores_51 : decode cX4_readStores 51 = .ok (.putfield 128, 3) := by decide +kernel
theorem dX4_readStores_54 : decode cX4_readStores 54 = .ok (.aload_n 0, 1) := by decide +kernel
theorem dX4_readStores_55 : decode cX4_readStores 55 = .ok (.invokevirtual 25, 3) := by decide +kernel
theorem dX4_readStores_58 : decode cX4_readStores 58 = .ok (.aload_n 0, 1) := by decide +kernel
theorem dX4_readStores_59 : decode cX4_readStores 59 = .ok (.bipush 115, 2) := by decide +kernel
theorem dX4_readStores_61 : decode cX4_readStores 61 = .ok (.iconst 4, 1) := by decide +kernel
theorem dX4_readStores_62 : decode cX4_readStores 62 = .ok (.invokevirtual 90, 3) := by decide +kernel
theorem dX4_readStores_65 : decode cX4_readStores 65 = .ok (.istore_n 2, 1) := by decide +kernel
theorem dX4_readStores_66 : decode cX4_readStores 66 = .ok (.iinc 3 1, 3) := by decide +kernel
theorem dX4_readStores_69 : decode cX4_readStores 69 = .ok (.goto (-49), 3) := by decide +kernel
theorem dX4_readStores_72 : decode cX4_readStores 72 = .ok (.iconst 1, 1) := by decide +kernel
theorem dX4_readStores_73 : decode cX4_readStores 73 = .ok (.ireturn, 1) := by decide +kernel
theorem dX4_readTests_0 : decode cX4_readTests 0 = .ok (.aload_n 0, 1) := by decide +kernel
theorem dX4_readTests_1 : decode cX4_readTests 1 = .ok (.ldc 131, 2) := by decide +kernel
theorem dX4_readTests_3 : decode cX4_readTests 3 = .ok (.invokevirtual 80, 3) := by decide +kernel
theorem dX4_readTests_6 : decode cX4_readTests 6 = .ok (.istore_n 2, 1) := by decide +kernel
theorem dX4_readTests_7 : decode cX4_readTests 7 = .ok (.iconst 0, 1) := by decide +kernel
theorem dX4_readTests_8 : decode cX4_readTests 8 = .ok (.istore_n 3, 1) := by decide +kernel
theorem dX4_readTests_9 : decode cX4_readTests 9 = .ok (.iload_n 3, 1) := by decide +kernel
theorem dX4_readTests_10 : decode cX4_readTests 10 = .ok (.iconst 4, 1) := by decide +kernel
theorem dX4_readTests_11 : decode cX4_readTests 11 = .ok (.if_icmp .gt 34, 3) := by decide +kernel
theorem dX4_readTests_14 : decode cX4_readTests 14 = .ok (.iload_n 2, 1) := by decide +kernel
theorem dX4_readTests_15 : decode cX4_readTests 15 = .ok (.ifCond .eq 30, 3) := by decide +kernel
theorem dX4_readTests_18 : decode cX4_readTests 18 = .ok (.aload_n 0, 1) := by decide +kernel
theorem dX4_readTests_19 : decode cX4_readTests 19 = .ok (.invokevirtual 25, 3) := by decide +kernel
theorem dX4_readTests_22 : decode cX4_readTests 22 = .ok (.aload_n 0, 1) := by decide +kernel
theorem dX4_readTests_23 : decode cX4_readTests 23 = .ok (.aload_n 1, 1) := by decide +kernel
theorem dX4_readTests_24 : decode cX4_readTests 24 = .ok (.invokevirtual 133, 3) := by decide +kernel
theorem dX4_readTests_27 : decode cX4_readTests 27 = .ok (.ifCond .ne 5, 3) := by decide +kernel
theorem dX4_readTests_30 : decode cX4_readTests 30 = .ok (.iconst 0, 1) := by decide +kernel
theorem dX4_readTests_31 : decode cX4_readTests 31 = .ok (.ireturn, 1) := by decide +kernel
theorem dX4_readTests_32 : decode cX4_readTests 32 = .ok (.aload_n 0, 1) := by decide +kernel
theorem dX4_readTests_33 : decode cX4_readTests 33 = .ok (.ldc 136, 2) := by decide +kernel
theorem dX4_readTests_35 : decode cX4_readTests 35 = .ok (.invokevirtual 80, 3) := by decide +kernel
theorem dX4_readTests_38 : decode cX4_readTests 38 = .ok (.istore_n 2, 1) := by decide +kernel
theorem dX4_readTests_39 : decode cX4_readTests 39 = .ok (.iinc 3 1, 3) := by decide +kernel
theorem dX4_readTests_42 : decode cX4_readTests 42 = .ok (.goto (-33), 3) := by decide +kernel
theorem dX4_readTests_45 : decode cX4_readTests 45 = .ok (.iconst 1, 1) := by decide +kernel
theorem dX4_readTests_46 : decode cX4_readTests 46 = .ok (.ireturn, 1) := by decide +kernel
theorem dX4_readTest_0 : decode cX4_readTest 0 = .ok (.aload_n 0, 1) := by decide +kernel
theorem dX4_readTest_1 : decode cX4_readTest 1 = .ok (.bipush 97, 2) := by decide +kernel
theorem dX4_readTest_3 : decode cX4_readTest 3 = .ok (.iconst 4, 1) := by decide +kernel
theorem dX4_readTest_4 : decode cX4_readTest 4 = .ok (.invokevirtual 122, 3) := by decide +kernel
theorem dX4_readTest_7 : decode cX4_readTest 7 = .ok (.istore_n 2, 1) := by decide +kernel
theorem dX4_readTest_8 : decode cX4_readTest 8 = .ok (.iload_n 2, 1) := by decide +kernel
theorem dX4_readTest_9 : decode cX4_readTest 9 = .ok (.iconst (-1), 1) := by decide +kernel
theorem dX4_readTest_10 : decode cX4_readTest 10 = .ok (.if_icmp .ne 9, 3) := by decide +kernel
theorem dX4_readTest_13 : decode cX4_readTest 13 = .ok (.aload_n 0, 1) := by decide +kernel
theorem dX4_readTest_14 : decode cX4_readTest 14 = .ok (.iconst 1, 1) := by decide +kernel
theorem dX4_readTest_15 : decode cX4_readTest 15 = .ok (.invokevirtual 39, 3) := by decide +kernel
theorem dX4_readTest_18 : decode cX4_readTest 18 = .ok (.ireturn, 1) := by decide +kernel
theorem dX4_readTest_19 : decode cX4_readTest 19 = .ok (.aload_n 1, 1) := by decide +kernel
theorem dX4_readTest_20 : decode cX4_readTest 20 = .ok (.getfield 138, 3) := by decide +kernel
theorem dX4_readTest_23 : decode cX4_readTest 23 = .ok (.istore_n 3, 1) := by decide +kernel
theorem dX4_readTest_24 : decode cX4_readTest 24 = .ok (.iload_n 3, 1) := by decide +kernel
theorem dX4_readTest_25 : decode cX4_readTest 25 = .ok (.iconst 4, 1) := by decide +kernel
theorem dX4_readTest_26 : decode cX4_readTest 26 = .ok (.if_icmp .lt 9, 3) := by decide +kernel
theorem dX4_readTest_29 : decode cX4_readTest 29 = .ok (.aload_n 0, 1) := by decide +kernel
theorem dX4_readTest_30 : decode cX4_readTest 30 = .ok (.iconst 2, 1) := by decide +kernel
theorem dX4_readTest_31 : decode cX4_readTest 31 = .ok (.invokevirtual 39, 3) := by decide +kernel
theorem dX4_readTest_34 : decode cX4_readTest 34 = .ok (.ireturn, 1) := by decide +kernel
theorem dX4_readTest_35 : decode cX4_readTest 35 = .ok (.aload_n 0, 1) := by decide +kernel
theorem dX4_readTest_36 : decode cX4_readTest 36 = .ok (.invokevirtual 25, 3) := by decide +kernel
theorem dX4_readTest_39 : decode cX4_readTest 39 = .ok (.aload_n 0, 1) := by decide +kernel
theorem dX4_readTest_40 : decode cX4_readTest 40 = .ok (.bipush 61, 2) := by decide +kernel
theorem dX4_readTest_42 : decode cX4_readTest 42 = .ok (.invokevirtual 70, 3) := by decide +kernel
theorem dX4_readTest_45 : decode cX4_readTest 45 = .ok (.ifCond .ne 18, 3) := by decide +kernel
theorem dX4_readTest_48 : decode cX4_readTest 48 = .ok (.aload_n 0, 1) := by decide +kernel
theorem dX4_readTest_49 : decode cX4_readTest 49 = .ok (.bipush 60, 2) := by decide +kernel
theorem dX4_readTest_51 : decode cX4_readTest 51 = .ok (.invokevirtual 70, 3) := by decide +kernel
theorem dX4_readTest_54 : decode cX4_readTest 54 = .ok (.ifCond .ne 9, 3) := by decide +kernel
theorem dX4_readTest_57 : decode cX4_readTest 57 = .ok (.aload_n 0, 1) := by decide +kernel
theorem dX4_readTest_58 : decode cX4_readTest 58 = .ok (.iconst 1, 1) := by decide +kernel
theorem dX4_readTest_59 : decode cX4_readTest 59 = .ok (.invokevirtual 39, 3) := by decide +kernel
theorem dX4_readTest_62 : decode cX4_readTest 62 = .ok (.ireturn, 1) := by decide +kernel
theorem dX4_readTest_63 : decode cX4_readTest 63 = .ok (.aload_n 1, 1) := by decide +kernel
theorem dX4_readTest_64 : decode cX4_readTest 64 = .ok (.getfield 141, 3) := by decide +kernel
theorem dX4_readTest_67 : decode cX4_readTest 67 = .ok (.iload_n 3, 1) := by decide +kernel
theorem dX4_readTest_68 : decode cX4_readTest 68 = .ok (.iload_n 2, 1) := by decide +kernel
theorem dX4_readTest_69 : decode cX4_readTest 69 = .ok (.iastore, 1) := by decide +kernel
theorem dX4_readTest_70 : decode cX4_readTest 70 = .ok (.aload_n 1, 1) := by decide +kernel
theorem dX4_readTest_71 : decode cX4_readTest 71 = .ok (.getfield 145, 3) := by decide +kernel
theorem dX4_readTest_74 : decode cX4_readTest 74 = .ok (.iload_n 3, 1) := by decide +kernel
theorem dX4_readTest_75 : decode cX4_readTest 75 = .ok (.aload_n 0, 1) := by decide +kernel
theorem dX4_readTest_76 : decode cX4_readTest 76 = .ok (.bipush 60, 2) := by decide +kernel
theorem dX4_readTest_78 : decode cX4_readTest 78 = .ok (.invokevirtual 70, 3) := by decide +kernel
theorem dX4_readTest_81 : decode cX4_readTest 81 = .ok (.bastore, 1) := by decide +kernel
theorem dX4_readTest_82 : decode cX4_readTest 82 = .ok (.aload_n 0, 1) := by decide +kernel
theorem dX4_readTest_83 : decode cX4_readTest 83 = .ok (.invokevirtual 25, 3) := by decide +kernel
theorem dX4_readTest_86 : decode cX4_readTest 86 = .ok (.aload_n 0, 1) := by decide +kernel
theorem dX4_readTest_87 : decode cX4_readTest 87 = .ok (.invokevirtual 102, 3) := by decide +kernel
theorem dX4_readTest_90 : decode cX4_readTest 90 = .ok (.ifCond .ne 5, 3) := by decide +kernel
theorem dX4_readTest_93 : decode cX4_readTest 93 = .ok (.iconst 0, 1) := by decide +kernel
theorem dX4_readTest_94 : decode cX4_readTest 94 = .ok (.ireturn, 1) := by decide +kernel
theorem dX4_readTest_95 : decode cX4_readTest 95 = .ok (.aload_n 1, 1) := by decide +kernel
theorem dX4_readTest_96 : decode cX4_readTest 96 = .ok (.getfield 149, 3) := by decide +kernel
theorem dX4_readTest_99 : decode cX4_readTest 99 = .ok (.iload_n 3, 1) := by decide +kernel
theorem dX4_readTest_100 : decode cX4_readTest 100 = .ok (.aload_n 0, 1) := by decide +kernel
theorem dX4_readTest_101 : decode cX4_readTest 101 = .ok (.invokevirtual 105, 3) := by decide +kernel
theorem dX4_readTest_104 : decode cX4_readTest 104 = .ok (.iastore, 1) := by decide +kernel
theorem dX4_readTest_105 : decode cX4_readTest 105 = .ok (.aload_n 1, 1) := by decide +kernel
theorem dX4_readTest_106 : decode cX4_readTest 106 = .ok (.dup, 1) := by decide +kernel
theorem dX4_readTest_107 : decode cX4_readTest 107 = .ok (.getfield 138, 3) := by decide +kernel
theorem dX4_readTest_110 : decode cX4_readTest 110 = .ok (.iconst 1, 1) := by decide +kernel
theorem dX4_readTest_111 : decode cX4_readTest 111 = .ok (.iadd, 1) := by decide +kernel
theorem dX4_readTest_112 : decode cX4_readTest 112 = .ok (.putfield 138, 3) := by decide +kernel
theorem dX4_readTest_115 : decode cX4_readTest 115 = .ok (.aload_n 0, 1) := by decide +kernel
theorem dX4_readTest_116 : decode cX4_readTest 116 = .ok (.invokevirtual 25, 3) := by decide +kernel
theorem dX4_readTest_119 : decode cX4_readTest 119 = .ok (.iconst 1, 1) := by decide +kernel
theorem dX4_readTest_120 : decode cX4_readTest 120 = .ok (.ireturn, 1) := by decide +kernel
theorem dX4_readRank_0 : decode cX4_readRank 0 = .ok (.aload_n 0, 1) := by decide +kernel
theorem dX4_readRank_1 : decode cX4_readRank 1 = .ok (.ldc 152, 2) := by decide +kernel
theorem dX4_readRank_3 : decode cX4_readRank 3 = .ok (.invokevirtual 80, 3) := by decide +kernel
theorem dX4_readRank_6 : decode cX4_readRank 6 = .ok (.ifCond .ne 5, 3) := by decide +kernel
theorem dX4_readRank_9 : decode cX4_readRank 9 = .ok (.iconst 1, 1) := by decide +kernel
theorem dX4_readRank_10 : decode cX4_readRank 10 = .ok (.ireturn, 1) := by decide +kernel
theorem dX4_readRank_11 : decode cX4_readRank 11 = .ok (.aload_n 0, 1) := by decide +kernel
theorem dX4_readRank_12 : decode cX4_readRank 12 = .ok (.invokevirtual 25, 3) := by decide +kernel
theorem dX4_readRank_15 : decode cX4_readRank 15 = .ok (.aload_n 0, 1) := by decide +kernel
theorem dX4_readRank_16 : decode cX4_readRank 16 = .ok (.invokevirtual 102, 3) := by decide +kernel
theorem dX4_readRank_19 : decode cX4_readRank 19 = .ok (.ifCond .ne 5, 3) := by decide +kernel
theorem dX4_readRank_22 : decode cX4_readRank 22 = .ok (.iconst 0, 1) := by decide +kernel
theorem dX4_readRank_23 : decode cX4_readRank 23 = .ok (.ireturn, 1) := by decide +kernel
theorem dX4_readRank_24 : decode cX4_readRank 24 = .ok (.aload_n 1, 1) := by decide +kernel
theorem dX4_readRank_25 : decode cX4_readRank 25 = .ok (.aload_n 0, 1) := by decide +kernel
theorem dX4_readRank_26 : decode cX4_readRank 26 = .ok (.invokevirtual 105, 3) := by decide +kernel
theorem dX4_readRank_29 : decode cX4_readRank 29 = .ok (.putfield 154, 3) := by decide +kernel
theorem dX4_readRank_32 : decode cX4_readRank 32 = .ok (.aload_n 0, 1) := by decide +kernel
theorem dX4_readRank_33 : decode cX4_readRank 33 = .ok (.invokevirtual 25, 3) := by decide +kernel
theorem dX4_readRank_36 : decode cX4_readRank 36 = .ok (.iconst 1, 1) := by decide +kernel
theorem dX4_readRank_37 : decode cX4_readRank 37 = .ok (.ireturn, 1) := by decide +kernel
theorem dX4_checkNumber_0 : decode cX4_checkNumber 0 = .ok (.aload_n 0, 1) := by decide +kernel
theorem dX4_checkNumber_1 : decode cX4_checkNumber 1 = .ok (.getfield 28, 3) := by decide +kernel
theorem dX4_checkNumber_4 : decode cX4_checkNumber 4 = .ok (.iconst 2, 1) := by decide +kernel
theorem dX4_checkNumber_5 : decode cX4_checkNumber 5 = .ok (.if_icmp .eq 9, 3) := by decide +kernel
theorem dX4_checkNumber_8 : decode cX4_checkNumber 8 = .ok (.aload_n 0, 1) := by decide +kernel
theorem dX4_checkNumber_9 : decode cX4_checkNumber 9 = .ok (.iconst 1, 1) := by decide +kernel
theorem dX4_checkNumber_10 : decode cX4_checkNumber 10 = .ok (.invokevirtual 39, 3) := by decide +kernel
theorem dX4_checkNumber_13 : decode cX4_checkNumber 13 = .ok (.ireturn, 1) := by decide +kernel
theorem dX4_checkNumber_14 : decode cX4_checkNumber 14 = .ok (.aload_n 0, 1) := by decide +kernel
theorem dX4_checkNumber_15 : decode cX4_checkNumber 15 = .ok (.getfield 156, 3) := by decide +kernel
theorem dX4_checkNumber_18 : decode cX4_checkNumber 18 = .ok (.aload_n 0, 1) := by decide +kernel
theorem dX4_checkNumber_19 : decode cX4_checkNumber 19 = .ok (.getfield 158, 3) := by decide +kernel
theorem dX4_checkNumber_22 : decode cX4_checkNumber 22 = .ok (.isub, 1) := by decide +kernel
theorem dX4_checkNumber_23 : decode cX4_checkNumber 23 = .ok (.iconst 4, 1) := by decide +kernel
theorem dX4_checkNumber_24 : decode cX4_checkNumber 24 = .ok (.if_icmp .le 11, 3) := by decide +kernel
theorem dX4_checkNumber_27 : decode cX4_checkNumber 27 = .ok (.aload_n 0, 1) := by decide +kernel
theorem dX4_checkNumber_28 : decode cX4_checkNumber 28 = .ok (.iconst 2, 1) := by decide +kernel
theorem dX4_checkNumber_29 : decode cX4_checkNumber 29 = .ok (.invokevirtual 39, 3) := by decide +kernel
theorem dX4_checkNumber_32 : decode cX4_checkNumber 32 = .ok (.ifCond .eq 7, 3) := by decide +kernel
theorem dX4_checkNumber_35 : decode cX4_checkNumber 35 = .ok (.iconst 1, 1) := by decide +kernel
theorem dX4_checkNumber_36 : decode cX4_checkNumber 36 = .ok (.goto 4, 3) := by decide +kernel
theorem dX4_checkNumber_39 : decode cX4_checkNumber 39 = .ok (.iconst 0, 1) := by decide +kernel
theorem dX4_checkNumber_40 : decode cX4_checkNumber 40 = .ok (.ireturn, 1) := by decide +kernel
theorem dX4_number_0 : decode cX4_number 0 = .ok (.iconst 0, 1) := by decide +kernel
theorem dX4_number_1 : decode cX4_number 1 = .ok (.istore_n 1, 1) := by decide +kernel
theorem dX4_number_2 : decode cX4_number 2 = .ok (.aload_n 0, 1) := by decide +kernel
theorem dX4_number_3 : decode cX4_number 3 = .ok (.getfield 158, 3) := by decide +kernel
theorem dX4_number_6 : decode cX4_number 6 = .ok (.istore_n 2, 1) := by decide +kernel
theorem dX4_number_7 : decode cX4_number 7 = .ok (.iload_n 2, 1) := by decide +kernel
theorem dX4_number_8 : decode cX4_number 8 = .ok (.aload_n 0, 1) := by decide +kernel
theorem dX4_number_9 : decode cX4_number 9 = .ok (.getfield 156, 3) := by decide +kernel
theorem dX4_number_12 : decode cX4_number 12 = .ok (.if_icmp .ge 24, 3) := by decide +kernel
theorem dX4_number_15 : decode cX4_number 15 = .ok (.iload_n 1, 1) := by decide +kernel
theorem dX4_number_16 : decode cX4_number 16 = .ok (.bipush 10, 2) := by decide +kernel
theorem dX4_number_18 : decode cX4_number 18 = .ok (.imul, 1) := by decide +kernel
theorem dX4_number_19 : decode cX4_number 19 = .ok (.aload_n 0, 1) := by decide +kernel
theorem dX4_number_20 : decode cX4_number 20 = .ok (.getfield 9, 3) := by decide +kernel
theorem dX4_number_23 : decode cX4_number 23 = .ok (.iload_n 2, 1) := by decide +kernel
theorem dX4_number_24 : decode cX4_number 24 = .ok (.baload, 1) := by decide +kernel
theorem dX4_number_25 : decode cX4_number 25 = .ok (.iadd, 1) := by decide +kernel
theorem dX4_number_26 : decode cX4_number 26 = .ok (.bipush 48, 2) := by decide +kernel
theorem dX4_number_28 : decode cX4_number 28 = .ok (.isub, 1) := by decide +kernel
theorem dX4_number_29 : decode cX4_number 29 = .ok (.istore_n 1, 1) := by decide +kernel
theorem dX4_number_30 : decode cX4_number 30 = .ok (.iinc 2 1, 3) := by decide +kernel
theorem dX4_number_33 : decode cX4_number 33 = .ok (.goto (-26), 3) := by decide +kernel
theorem dX4_number_36 : decode cX4_number 36 = .ok (.iload_n 1, 1) := by decide +kernel
theorem dX4_number_37 : decode cX4_number 37 = .ok (.ireturn, 1) := by decide +kernel
theorem dX4_fail_0 : decode cX4_fail 0 = .ok (.aload_n 0, 1) := by decide +kernel
theorem dX4_fail_1 : decode cX4_fail 1 = .ok (.iload_n 1, 1) := by decide +kernel
theorem dX4_fail_2 : decode cX4_fail 2 = .ok (.putfield 161, 3) := by decide +kernel
theorem dX4_fail_5 : decode cX4_fail 5 = .ok (.aload_n 0, 1) := by decide +kernel
theorem dX4_fail_6 : decode cX4_fail 6 = .ok (.aload_n 0, 1) := by decide +kernel
theorem dX4_fail_7 : decode cX4_fail 7 = .ok (.getfield 158, 3) := by decide +kernel
theorem dX4_fail_10 : decode cX4_fail 10 = .ok (.putfield 164, 3) := by decide +kernel
theorem dX4_fail_13 : decode cX4_fail 13 = .ok (.iconst 0, 1) := by decide +kernel
theorem dX4_fail_14 : decode cX4_fail 14 = .ok (.ireturn, 1) := by decide +kernel
theorem dX4_isWord_0 : decode cX4_isWord 0 = .ok (.aload_n 0, 1) := by decide +kernel
theorem dX4_isWord_1 : decode cX4_isWord 1 = .ok (.getfield 28, 3) := by decide +kernel
theorem dX4_isWord_4 : decode cX4_isWord 4 = .ok (.iconst 1, 1) := by decide +kernel
theorem dX4_isWord_5 : decode cX4_isWord 5 = .ok (.if_icmp .ne 19, 3) := by decide +kernel
theorem dX4_isWord_8 : decode cX4_isWord 8 = .ok (.aload_n 0, 1) := by decide +kernel
theorem dX4_isWord_9 : decode cX4_isWord 9 = .ok (.getfield 156, 3) := by decide +kernel
theorem dX4_isWord_12 : decode cX4_isWord 12 = .ok (.aload_n 0, 1) := by decide +kernel
theorem dX4_isWord_13 : decode cX4_isWord 13 = .ok (.getfield 158, 3) := by decide +kernel
theorem dX4_isWord_16 : decode cX4_isWord 16 = .ok (.isub, 1) := by decide +kernel
theorem dX4_isWord_17 : decode cX4_isWord 17 = .ok (.aload_n 1, 1) := by decide +kernel
theorem dX4_isWord_18 : decode cX4_isWord 18 = .ok (.invokevirtual 167, 3) := by decide +kernel
theorem dX4_isWord_21 : decode cX4_isWord 21 = .ok (.if_icmp .eq 5, 3) := by decide +kernel
theorem dX4_isWord_24 : decode cX4_isWord 24 = .ok (.iconst 0, 1) := by decide +kernel
theorem dX4_isWord_25 : decode cX4_isWord 25 = .ok (.ireturn, 1) := by decide +kernel
theorem dX4_isWord_26 : decode cX4_isWord 26 = .ok (.iconst 0, 1) := by decide +kernel
theorem dX4_isWord_27 : decode cX4_isWord 27 = .ok (.istore_n 2, 1) := by decide +kernel
theorem dX4_isWord_28 : decode cX4_isWord 28 = .ok (.iload_n 2, 1) := by decide +kernel
theorem dX4_isWord_29 : decode cX4_isWord 29 = .ok (.aload_n 1, 1) := by decide +kernel
theorem dX4_isWord_30 : decode cX4_isWord 30 = .ok (.invokevirtual 167, 3) := by decide +kernel
theorem dX4_isWord_33 : decode cX4_isWord 33 = .ok (.if_icmp .ge 30, 3) := by decide +kernel
theorem dX4_isWord_36 : decode cX4_isWord 36 = .ok (.aload_n 0, 1) := by decide +kernel
theorem dX4_isWord_37 : decode cX4_isWord 37 = .ok (.getfield 9, 3) := by decide +kernel
theorem dX4_isWord_40 : decode cX4_isWord 40 = .ok (.aload_n 0, 1) := by decide +kernel
theorem dX4_isWord_41 : decode cX4_isWord 41 = .ok (.getfield 158, 3) := by decide +kernel
theorem dX4_isWord_44 : decode cX4_isWord 44 = .ok (.iload_n 2, 1) := by decide +kernel
theorem dX4_isWord_45 : decode cX4_isWord 45 = .ok (.iadd, 1) := by decide +kernel
theorem dX4_isWord_46 : decode cX4_isWord 46 = .ok (.baload, 1) := by decide +kernel
theorem dX4_isWord_47 : decode cX4_isWord 47 = .ok (.aload_n 1, 1) := by decide +kernel
theorem dX4_isWord_48 : decode cX4_isWord 48 = .ok (.iload_n 2, 1) := by decide +kernel
theorem dX4_isWord_49 : decode cX4_isWord 49 = .ok (.invokevirtual 171, 3) := by decide +kernel
theorem dX4_isWord_52 : decode cX4_isWord 52 = .ok (.if_icmp .eq 5, 3) := by decide +kernel
theorem dX4_isWord_55 : decode cX4_isWord 55 = .ok (.iconst 0, 1) := by decide +kernel
theorem dX4_isWord_56 : decode cX4_isWord 56 = .ok (.ireturn, 1) := by decide +kernel
theorem dX4_isWord_57 : decode cX4_isWord 57 = .ok (.iinc 2 1, 3) := by decide +kernel
theorem dX4_isWord_60 : decode cX4_isWord 60 = .ok (.goto (-32), 3) := by decide +kernel
theorem dX4_isWord_63 : decode cX4_isWord 63 = .ok (.iconst 1, 1) := by decide +kernel
theorem dX4_isWord_64 : decode cX4_isWord 64 = .ok (.ireturn, 1) := by decide +kernel
theorem dX4_isSign_0 : decode cX4_isSign 0 = .ok (.aload_n 0, 1) := by decide +kernel
theorem dX4_isSign_1 : decode cX4_isSign 1 = .ok (.getfield 28, 3) := by decide +kernel
theorem dX4_isSign_4 : decode cX4_isSign 4 = .ok (.iconst 3, 1) := by decide +kernel
theorem dX4_isSign_5 : decode cX4_isSign 5 = .ok (.if_icmp .ne 20, 3) := by decide +kernel
theorem dX4_isSign_8 : decode cX4_isSign 8 = .ok (.aload_n 0, 1) := by decide +kernel
theorem dX4_isSign_9 : decode cX4_isSign 9 = .ok (.getfield 9, 3) := by decide +kernel
theorem dX4_isSign_12 : decode cX4_isSign 12 = .ok (.aload_n 0, 1) := by decide +kernel
theorem dX4_isSign_13 : decode cX4_isSign 13 = .ok (.getfield 158, 3) := by decide +kernel
theorem dX4_isSign_16 : decode cX4_isSign 16 = .ok (.baload, 1) := by decide +kernel
theorem dX4_isSign_17 : decode cX4_isSign 17 = .ok (.iload_n 1, 1) := by decide +kernel
theorem dX4_isSign_18 : decode cX4_isSign 18 = .ok (.if_icmp .ne 7, 3) := by decide +kernel
theorem dX4_isSign_21 : decode cX4_isSign 21 = .ok (.iconst 1, 1) := by decide +kernel
theorem dX4_isSign_22 : decode cX4_isSign 22 = .ok (.goto 4, 3) := by decide +kernel
theorem dX4_isSign_25 : decode cX4_isSign 25 = .ok (.iconst 0, 1) := by decide +kernel
theorem dX4_isSign_26 : decode cX4_isSign 26 = .ok (.ireturn, 1) := by decide +kernel
theorem dX4_numbered_0 : decode cX4_numbered 0 = .ok (.aload_n 0, 1) := by decide +kernel
theorem dX4_numbered_1 : decode cX4_numbered 1 = .ok (.getfield 28, 3) := by decide +kernel
theorem dX4_numbered_4 : decode cX4_numbered 4 = .ok (.iconst 1, 1) := by decide +kernel
theorem dX4_numbered_5 : decode cX4_numbered 5 = .ok (.if_icmp .ne 29, 3) := by decide +kernel
theorem dX4_numbered_8 : decode cX4_numbered 8 = .ok (.aload_n 0, 1) := by decide +kernel
theorem dX4_numbered_9 : decode cX4_numbered 9 = .ok (.getfield 156, 3) := by decide +kernel
theorem dX4_numbered_12 : decode cX4_numbered 12 = .ok (.aload_n 0, 1) := by decide +kernel
theorem dX4_numbered_13 : decode cX4_numbered 13 = .ok (.getfield 158, 3) := by decide +kernel
theorem dX4_numbered_16 : decode cX4_numbered 16 = .ok (.isub, 1) := by decide +kernel
theorem dX4_numbered_17 : decode cX4_numbered 17 = .ok (.iconst 2, 1) := by decide +kernel
theorem dX4_numbered_18 : decode cX4_numbered 18 = .ok (.if_icmp .ne 16, 3) := by decide +kernel
theorem dX4_numbered_21 : decode cX4_numbered 21 = .ok (.aload_n 0, 1) := by decide +kernel
theorem dX4_numbered_22 : decode cX4_numbered 22 = .ok (.getfield 9, 3) := by decide +kernel
theorem dX4_numbered_25 : decode cX4_numbered 25 = .ok (.aload_n 0, 1) := by decide +kernel
theorem dX4_numbered_26 : decode cX4_numbered 26 = .ok (.getfield 158, 3) := by decide +kernel
theorem dX4_numbered_29 : decode cX4_numbered 29 = .ok (.baload, 1) := by decide +kernel
theorem dX4_numbered_30 : decode cX4_numbered 30 = .ok (.iload_n 1, 1) := by decide +kernel
theorem dX4_numbered_31 : decode cX4_numbered 31 = .ok (.if_icmp .eq 5, 3) := by decide +kernel
theorem dX4_numbered_34 : decode cX4_numbered 34 = .ok (.iconst (-1), 1) := by decide +kernel
theorem dX4_numbered_35 : decode cX4_numbered 35 = .ok (.ireturn, 1) := by decide +kernel
theorem dX4_numbered_36 : decode cX4_numbered 36 = .ok (.aload_n 0, 1) := by decide +kernel
theorem dX4_numbered_37 : decode cX4_numbered 37 = .ok (.getfield 9, 3) := by decide +kernel
theorem dX4_numbered_40 : decode cX4_numbered 40 = .ok (.aload_n 0, 1) := by decide +kernel
theorem dX4_numbered_41 : decode cX4_numbered 41 = .ok (.getfield 158, 3) := by decide +kernel
theorem dX4_numbered_44 : decode cX4_numbered 44 = .ok (.iconst 1, 1) := by decide +kernel
theorem dX4_numbered_45 : decode cX4_numbered 45 = .ok (.iadd, 1) := by decide +kernel
theorem dX4_numbered_46 : decode cX4_numbered 46 = .ok (.baload, 1) := by decide +kernel
theorem dX4_numbered_47 : decode cX4_numbered 47 = .ok (.bipush 48, 2) := by decide +kernel
theorem dX4_numbered_49 : decode cX4_numbered 49 = .ok (.isub, 1) := by decide +kernel
theorem dX4_numbered_50 : decode cX4_numbered 50 = .ok (.istore_n 3, 1) := by decide +kernel
theorem dX4_numbered_51 : decode cX4_numbered 51 = .ok (.iload_n 3, 1) := by decide +kernel
theorem dX4_numbered_52 : decode cX4_numbered 52 = .ok (.ifCond .lt 12, 3) := by decide +kernel
theorem dX4_numbered_55 : decode cX4_numbered 55 = .ok (.iload_n 3, 1) := by decide +kernel
theorem dX4_numbered_56 : decode cX4_numbered 56 = .ok (.iload_n 2, 1) := by decide +kernel
theorem dX4_numbered_57 : decode cX4_numbered 57 = .ok (.if_icmp .ge 7, 3) := by decide +kernel
theorem dX4_numbered_60 : decode cX4_numbered 60 = .ok (.iload_n 3, 1) := by decide +kernel
theorem dX4_numbered_61 : decode cX4_numbered 61 = .ok (.goto 4, 3) := by decide +kernel
theorem dX4_numbered_64 : decode cX4_numbered 64 = .ok (.iconst (-1), 1) := by decide +kernel
theorem dX4_numbered_65 : decode cX4_numbered 65 = .ok (.ireturn, 1) := by decide +kernel
theorem dX4_bitOf_0 : decode cX4_bitOf 0 = .ok (.aload_n 0, 1) := by decide +kernel
theorem dX4_bitOf_1 : decode cX4_bitOf 1 = .ok (.iload_n 1, 1) := by decide +kernel
theorem dX4_bitOf_2 : decode cX4_bitOf 2 = .ok (.iload_n 2, 1) := by decide +kernel
theorem dX4_bitOf_3 : decode cX4_bitOf 3 = .ok (.invokevirtual 122, 3) := by decide +kernel
theorem dX4_bitOf_6 : decode cX4_bitOf 6 = .ok (.istore_n 3, 1) := by decide +kernel
theorem dX4_bitOf_7 : decode cX4_bitOf 7 = .ok (.iload_n 3, 1) := by decide +kernel
theorem dX4_bitOf_8 : decode cX4_bitOf 8 = .ok (.iconst (-1), 1) := by decide +kernel
theorem dX4_bitOf_9 : decode cX4_bitOf 9 = .ok (.if_icmp .ne 7, 3) := by decide +kernel
theorem dX4_bitOf_12 : decode cX4_bitOf 12 = .ok (.iconst 0, 1) := by decide +kernel
theorem dX4_bitOf_13 : decode cX4_bitOf 13 = .ok (.goto 6, 3) := by decide +kernel
theorem dX4_bitOf_16 : decode cX4_bitOf 16 = .ok (.iconst 1, 1) := by decide +kernel
theorem dX4_bitOf_17 : decode cX4_bitOf 17 = .ok (.iload_n 3, 1) := by decide +kernel
theorem dX4_bitOf_18 : decode cX4_bitOf 18 = .ok (.ishl, 1) := by decide +kernel
theorem dX4_bitOf_19 : decode cX4_bitOf 19 = .ok (.ireturn, 1) := by decide +kernel
theorem dX4_next_0 : decode cX4_next 0 = .ok (.aload_n 0, 1) := by decide +kernel
theorem dX4_next_1 : decode cX4_next 1 = .ok (.aload_n 0, 1) := by decide +kernel
theorem dX4_next_2 : decode cX4_next 2 = .ok (.getfield 156, 3) := by decide +kernel
theorem dX4_next_5 : decode cX4_next 5 = .ok (.putfield 158, 3) := by decide +kernel
theorem dX4_next_8 : decode cX4_next 8 = .ok (.aload_n 0, 1) := by decide +kernel
theorem dX4_next_9 : decode cX4_next 9 = .ok (.getfield 158, 3) := by decide +kernel
theorem dX4_next_12 : decode cX4_next 12 = .ok (.aload_n 0, 1) := by decide +kernel
theorem dX4_next_13 : decode cX4_next 13 = .ok (.getfield 21, 3) := by decide +kernel
theorem dX4_next_16 : decode cX4_next 16 = .ok (.if_icmp .ge 44, 3) := by decide +kernel
theorem dX4_next_19 : decode cX4_next 19 = .ok (.aload_n 0, 1) := by decide +kernel
theorem dX4_next_20 : decode cX4_next 20 = .ok (.getfield 9, 3) := by decide +kernel
theorem dX4_next_23 : decode cX4_next 23 = .ok (.aload_n 0, 1) := by decide +kernel
theorem dX4_next_24 : decode cX4_next 24 = .ok (.getfield 158, 3) := by decide +kernel
theorem dX4_next_27 : decode cX4_next 27 = .ok (.baload, 1) := by decide +kernel
theorem dX4_next_28 : decode cX4_next 28 = .ok (.bipush 32, 2) := by decide +kernel
theorem dX4_next_30 : decode cX4_next 30 = .ok (.if_icmp .eq 17, 3) := by decide +kernel
theorem dX4_next_33 : decode cX4_next 33 = .ok (.aload_n 0, 1) := by decide +kernel
theorem dX4_next_34 : decode cX4_next 34 = .ok (.getfield 9, 3) := by decide +kernel
theorem dX4_next_37 : decode cX4_next 37 = .ok (.aload_n 0, 1) := by decide +kernel
theorem dX4_next_38 : decode cX4_next 38 = .ok (.getfield 158, 3) := by decide +kernel
theorem dX4_next_41 : decode cX4_next 41 = .ok (.baload, 1) := by decide +kernel
theorem dX4_next_42 : decode cX4_next 42 = .ok (.bipush 10, 2) := by decide +kernel
theorem dX4_next_44 : decode cX4_next 44 = .ok (.if_icmp .ne 16, 3) := by decide +kernel
theorem dX4_next_47 : decode cX4_next 47 = .ok (.aload_n 0, 1) := by decide +kernel
theorem dX4_next_48 : decode cX4_next 48 = .ok (.dup, 1) := by decide +kernel
theorem dX4_next_49 : decode cX4_next 49 = .ok (.getfield 158, 3) := by decide +kernel
theorem dX4_next_52 : decode cX4_next 52 = .ok (.iconst 1, 1) := by decide +kernel
theorem dX4_next_53 : decode cX4_next 53 = .ok (.iadd, 1) := by decide +kernel
theorem dX4_next_54 : decode cX4_next 54 = .ok (.putfield 158, 3) := by decide +kernel
theorem dX4_next_57 : decode cX4_next 57 = .ok (.goto (-49), 3) := by decide +kernel
theorem dX4_next_60 : decode cX4_next 60 = .ok (.aload_n 0, 1) := by decide +kernel
theorem dX4_next_61 : decode cX4_next 61 = .ok (.aload_n 0, 1) := by decide +kernel
theorem dX4_next_62 : decode cX4_next 62 = .ok (.getfield 158, 3) := by decide +kernel
theorem dX4_next_65 : decode cX4_next 65 = .ok (.putfield 156, 3) := by decide +kernel
theorem dX4_next_68 : decode cX4_next 68 = .ok (.aload_n 0, 1) := by decide +kernel
theorem dX4_next_69 : decode cX4_next 69 = .ok (.getfield 158, 3) := by decide +kernel
theorem dX4_next_72 : decode cX4_next 72 = .ok (.aload_n 0, 1) := by decide +kernel
theorem dX4_next_73 : decode cX4_next 73 = .ok (.getfield 21, 3) := by decide +kernel
theorem dX4_next_76 : decode cX4_next 76 = .ok (.if_icmp .lt 9, 3) := by decide +kernel
theorem dX4_next_79 : decode cX4_next 79 = .ok (.aload_n 0, 1) := by decide +kernel
theorem dX4_next_80 : decode cX4_next 80 = .ok (.iconst 0, 1) := by decide +kernel
theorem dX4_next_81 : decode cX4_next 81 = .ok (.putfield 28, 3) := by decide +kernel
theorem dX4_next_84 : decode cX4_next 84 = .ok (.return_, 1) := by decide +kernel
theorem dX4_next_85 : decode cX4_next 85 = .ok (.aload_n 0, 1) := by decide +kernel
theorem dX4_next_86 : decode cX4_next 86 = .ok (.dup, 1) := by decide +kernel
theorem dX4_next_87 : decode cX4_next 87 = .ok (.getfield 156, 3) := by decide +kernel
theorem dX4_next_90 : decode cX4_next 90 = .ok (.iconst 1, 1) := by decide +kernel
theorem dX4_next_91 : decode cX4_next 91 = .ok (.iadd, 1) := by decide +kernel
theorem dX4_next_92 : decode cX4_next 92 = .ok (.putfield 156, 3) := by decide +kernel
theorem dX4_next_95 : decode cX4_next 95 = .ok (.aload_n 0, 1) := by decide +kernel
theorem dX4_next_96 : decode cX4_next 96 = .ok (.getfield 9, 3) := by decide +kernel
theorem dX4_next_99 : decode cX4_next 99 = .ok (.aload_n 0, 1) := by decide +kernel
theorem dX4_next_100 : decode cX4_next 100 = .ok (.getfield 158, 3) := by decide +kernel
theorem dX4_next_103 : decode cX4_next 103 = .ok (.baload, 1) := by decide +kernel
theorem dX4_next_104 : decode cX4_next 104 = .ok (.invokestatic 175, 3) := by decide +kernel
theorem dX4_next_107 : decode cX4_next 107 = .ok (.ifCond .eq 62, 3) := by decide +kernel
theorem dX4_next_110 : decode cX4_next 110 = .ok (.aload_n 0, 1) := by decide +kernel
theorem dX4_next_111 : decode cX4_next 111 = .ok (.iconst 1, 1) := by decide +kernel
theorem dX4_next_112 : decode cX4_next 112 = .ok (.putfield 28, 3) := by decide +kernel
theorem dX4_next_115 : decode cX4_next 115 = .ok (.aload_n 0, 1) := by decide +kernel
theorem dX4_next_116 : decode cX4_next 116 = .ok (.getfield 156, 3) := by decide +kernel
theorem dX4_next_119 : decode cX4_next 119 = .ok (.aload_n 0, 1) := by decide +kernel
theorem dX4_next_120 : decode cX4_next 120 = .ok (.getfield 21, 3) := by decide +kernel
theorem dX4_next_123 : decode cX4_next 123 = .ok (.if_icmp .ge 166, 3) := by decide +kernel
theorem dX4_next_126 : decode cX4_next 126 = .ok (.aload_n 0, 1) := by decide +kernel
theorem dX4_next_127 : decode cX4_next 127 = .ok (.getfield 9, 3) := by decide +kernel
theorem dX4_next_130 : decode cX4_next 130 = .ok (.aload_n 0, 1) := by decide +kernel
theorem dX4_next_131 : decode cX4_next 131 = .ok (.getfield 156, 3) := by decide +kernel
theorem dX4_next_134 : decode cX4_next 134 = .ok (.baload, 1) := by decide +kernel
theorem dX4_next_135 : decode cX4_next 135 = .ok (.invokestatic 175, 3) := by decide +kernel
theorem dX4_next_138 : decode cX4_next 138 = .ok (.ifCond .ne 18, 3) := by decide +kernel
theorem dX4_next_141 : decode cX4_next 141 = .ok (.aload_n 0, 1) := by decide +kernel
theorem dX4_next_142 : decode cX4_next 142 = .ok (.getfield 9, 3) := by decide +kernel
theorem dX4_next_145 : decode cX4_next 145 = .ok (.aload_n 0, 1) := by decide +kernel
theorem dX4_next_146 : decode cX4_next 146 = .ok (.getfield 156, 3) := by decide +kernel
theorem dX4_next_149 : decode cX4_next 149 = .ok (.baload, 1) := by decide +kernel
theorem dX4_next_150 : decode cX4_next 150 = .ok (.invokestatic 178, 3) := by decide +kernel
theorem dX4_next_153 : decode cX4_next 153 = .ok (.ifCond .eq 136, 3) := by decide +kernel
theorem dX4_next_156 : decode cX4_next 156 = .ok (.aload_n 0, 1) := by decide +kernel
theorem dX4_next_157 : decode cX4_next 157 = .ok (.dup, 1) := by decide +kernel
theorem dX4_next_158 : decode cX4_next 158 = .ok (.getfield 156, 3) := by decide +kernel
theorem dX4_next_161 : decode cX4_next 161 = .ok (.iconst 1, 1) := by decide +kernel
theorem dX4_next_162 : decode cX4_next 162 = .ok (.iadd, 1) := by decide +kernel
theorem dX4_next_163 : decode cX4_next 163 = .ok (.putfield 156, 3) := by decide +kernel
theorem dX4_next_166 : decode cX4_next 166 = .ok (.goto (-51), 3) := by decide +kernel
theorem dX4_next_169 : decode cX4_next 169 = .ok (.aload_n 0, 1) := by decide +kernel
theorem dX4_next_170 : decode cX4_next 170 = .ok (.getfield 9, 3) := by decide +kernel
theorem dX4_next_173 : decode cX4_next 173 = .ok (.aload_n 0, 1) := by decide +kernel
theorem dX4_next_174 : decode cX4_next 174 = .ok (.getfield 158, 3) := by decide +kernel
theorem dX4_next_177 : decode cX4_next 177 = .ok (.baload, 1) := by decide +kernel
theorem dX4_next_178 : decode cX4_next 178 = .ok (.invokestatic 178, 3) := by decide +kernel
theorem dX4_next_181 : decode cX4_next 181 = .ok (.ifCond .eq 47, 3) := by decide +kernel
theorem dX4_next_184 : decode cX4_next 184 = .ok (.aload_n 0, 1) := by decide +kernel
theorem dX4_next_185 : decode cX4_next 185 = .ok (.iconst 2, 1) := by decide +kernel
theorem dX4_next_186 : decode cX4_next 186 = .ok (.putfield 28, 3) := by decide +kernel
theorem dX4_next_189 : decode cX4_next 189 = .ok (.aload_n 0, 1) := by decide +kernel
theorem dX4_next_190 : decode cX4_next 190 = .ok (.getfield 156, 3) := by decide +kernel
theorem dX4_next_193 : decode cX4_next 193 = .ok (.aload_n 0, 1) := by decide +kernel
theorem dX4_next_194 : decode cX4_next 194 = .ok (.getfield 21, 3) := by decide +kernel
theorem dX4_next_197 : decode cX4_next 197 = .ok (.if_icmp .ge 92, 3) := by decide +kernel
theorem dX4_next_200 : decode cX4_next 200 = .ok (.aload_n 0, 1) := by decide +kernel
theorem dX4_next_201 : decode cX4_next 201 = .ok (.getfield 9, 3) := by decide +kernel
theorem dX4_next_204 : decode cX4_next 204 = .ok (.aload_n 0, 1) := by decide +kernel
theorem dX4_next_205 : decode cX4_next 205 = .ok (.getfield 156, 3) := by decide +kernel
theorem dX4_next_208 : decode cX4_next 208 = .ok (.baload, 1) := by decide +kernel
theorem dX4_next_209 : decode cX4_next 209 = .ok (.invokestatic 178, 3) := by decide +kernel
theorem dX4_next_212 : decode cX4_next 212 = .ok (.ifCond .eq 77, 3) := by decide +kernel
theorem dX4_next_215 : decode cX4_next 215 = .ok (.aload_n 0, 1) := by decide +kernel
theorem dX4_next_216 : decode cX4_next 216 = .ok (.dup, 1) := by decide +kernel
theorem dX4_next_217 : decode cX4_next 217 = .ok (.getfield 156, 3) := by decide +kernel
theorem dX4_next_220 : decode cX4_next 220 = .ok (.iconst 1, 1) := by decide +kernel
theorem dX4_next_221 : decode cX4_next 221 = .ok (.iadd, 1) := by decide +kernel
theorem dX4_next_222 : decode cX4_next 222 = .ok (.putfield 156, 3) := by decide +kernel
theorem dX4_next_225 : decode cX4_next 225 = .ok (.goto (-36), 3) := by decide +kernel
theorem dX4_next_228 : decode cX4_next 228 = .ok (.aload_n 0, 1) := by decide +kernel
theorem dX4_next_229 : decode cX4_next 229 = .ok (.getfield 9, 3) := by decide +kernel
theorem dX4_next_232 : decode cX4_next 232 = .ok (.aload_n 0, 1) := by decide +kernel
theorem dX4_next_233 : decode cX4_next 233 = .ok (.getfield 158, 3) := by decide +kernel
theorem dX4_next_236 : decode cX4_next 236 = .ok (.baload, 1) := by decide +kernel
theorem dX4_next_237 : decode cX4_next 237 = .ok (.bipush 59, 2) := by decide +kernel
theorem dX4_next_239 : decode cX4_next 239 = .ok (.if_icmp .eq 31, 3) := by decide +kernel
theorem dX4_next_242 : decode cX4_next 242 = .ok (.aload_n 0, 1) := by decide +kernel
theorem dX4_next_243 : decode cX4_next 243 = .ok (.getfield 9, 3) := by decide +kernel
theorem dX4_next_246 : decode cX4_next 246 = .ok (.aload_n 0, 1) := by decide +kernel
theorem dX4_next_247 : decode cX4_next 247 = .ok (.getfield 158, 3) := by decide +kernel
theorem dX4_next_250 : decode cX4_next 250 = .ok (.baload, 1) := by decide +kernel
theorem dX4_next_251 : decode cX4_next 251 = .ok (.bipush 61, 2) := by decide +kernel
theorem dX4_next_253 : decode cX4_next 253 = .ok (.if_icmp .eq 17, 3) := by decide +kernel
theorem dX4_next_256 : decode cX4_next 256 = .ok (.aload_n 0, 1) := by decide +kernel
theorem dX4_next_257 : decode cX4_next 257 = .ok (.getfield 9, 3) := by decide +kernel
theorem dX4_next_260 : decode cX4_next 260 = .ok (.aload_n 0, 1) := by decide +kernel
theorem dX4_next_261 : decode cX4_next 261 = .ok (.getfield 158, 3) := by decide +kernel
theorem dX4_next_264 : decode cX4_next 264 = .ok (.baload, 1) := by decide +kernel
theorem dX4_next_265 : decode cX4_next 265 = .ok (.bipush 60, 2) := by decide +kernel
theorem dX4_next_267 : decode cX4_next 267 = .ok (.if_icmp .ne 7, 3) := by decide +kernel
theorem dX4_next_270 : decode cX4_next 270 = .ok (.iconst 1, 1) := by decide +kernel
theorem dX4_next_271 : decode cX4_next 271 = .ok (.goto 4, 3) := by decide +kernel
theorem dX4_next_274 : decode cX4_next 274 = .ok (.iconst 0, 1) := by decide +kernel
theorem dX4_next_275 : decode cX4_next 275 = .ok (.istore_n 1, 1) := by decide +kernel
theorem dX4_next_276 : decode cX4_next 276 = .ok (.aload_n 0, 1) := by decide +kernel
theorem dX4_next_277 : decode cX4_next 277 = .ok (.iload_n 1, 1) := by decide +kernel
theorem dX4_next_278 : decode cX4_next 278 = .ok (.ifCond .eq 7, 3) := by decide +kernel
theorem dX4_next_281 : decode cX4_next 281 = .ok (.iconst 3, 1) := by decide +kernel
theorem dX4_next_282 : decode cX4_next 282 = .ok (.goto 4, 3) := by decide +kernel
theorem dX4_next_285 : decode cX4_next 285 = .ok (.iconst 4, 1) := by decide +kernel
theorem dX4_next_286 : decode cX4_next 286 = .ok (.putfield 28, 3) := by decide +kernel
theorem dX4_next_289 : decode cX4_next 289 = .ok (.return_, 1) := by decide +kernel
theorem dX4_isLetter_0 : decode cX4_isLetter 0 = .ok (.iload_n 0, 1) := by decide +kernel
theorem dX4_isLetter_1 : decode cX4_isLetter 1 = .ok (.bipush 97, 2) := by decide +kernel
theorem dX4_isLetter_3 : decode cX4_isLetter 3 = .ok (.if_icmp .lt 13, 3) := by decide +kernel
theorem dX4_isLetter_6 : decode cX4_isLetter 6 = .ok (.iload_n 0, 1) := by decide +kernel
theorem dX4_isLetter_7 : decode cX4_isLetter 7 = .ok (.bipush 122, 2) := by decide +kernel
theorem dX4_isLetter_9 : decode cX4_isLetter 9 = .ok (.if_icmp .gt 7, 3) := by decide +kernel
theorem dX4_isLetter_12 : decode cX4_isLetter 12 = .ok (.iconst 1, 1) := by decide +kernel
theorem dX4_isLetter_13 : decode cX4_isLetter 13 = .ok (.goto 4, 3) := by decide +kernel
theorem dX4_isLetter_16 : decode cX4_isLetter 16 = .ok (.iconst 0, 1) := by decide +kernel
theorem dX4_isLetter_17 : decode cX4_isLetter 17 = .ok (.ireturn, 1) := by decide +kernel
theorem dX4_isDigit_0 : decode cX4_isDigit 0 = .ok (.iload_n 0, 1) := by decide +kernel
theorem dX4_isDigit_1 : decode cX4_isDigit 1 = .ok (.bipush 48, 2) := by decide +kernel
theorem dX4_isDigit_3 : decode cX4_isDigit 3 = .ok (.if_icmp .lt 13, 3) := by decide +kernel
theorem dX4_isDigit_6 : decode cX4_isDigit 6 = .ok (.iload_n 0, 1) := by decide +kernel
theorem dX4_isDigit_7 : decode cX4_isDigit 7 = .ok (.bipush 57, 2) := by decide +kernel
theorem dX4_isDigit_9 : decode cX4_isDigit 9 = .ok (.if_icmp .gt 7, 3) := by decide +kernel
theorem dX4_isDigit_12 : decode cX4_isDigit 12 = .ok (.iconst 1, 1) := by decide +kernel
theorem dX4_isDigit_13 : decode cX4_isDigit 13 = .ok (.goto 4, 3) := by decide +kernel
theorem dX4_isDigit_16 : decode cX4_isDigit 16 = .ok (.iconst 0, 1) := by decide +kernel
theorem dX4_isDigit_17 : decode cX4_isDigit 17 = .ok (.ireturn, 1) := by decide +kernel
theorem dX5_init_0 : decode cX5_init 0 = .ok (.aload_n 0, 1) := by decide +kernel
theorem dX5_init_1 : decode cX5_init 1 = .ok (.invokespecial 3, 3) := by decide +kernel
theorem dX5_init_4 : decode cX5_init 4 = .ok (.aload_n 0, 1) := by decide +kernel
theorem dX5_init_5 : decode cX5_init 5 = .ok (.iload_n 1, 1) := by decide +kernel
theorem dX5_init_6 : decode cX5_init 6 = .ok (.putfield 9, 3) := by decide +kernel
theorem dX5_init_9 : decode cX5_init 9 = .ok (.aload_n 0, 1) := by decide +kernel
theorem dX5_init_10 : decode cX5_init 10 = .ok (.bipush 24, 2) := by decide +kernel
theorem dX5_init_12 : decode cX5_init 12 = .ok (.anewarray 15, 3) := by decide +kernel
theorem dX5_init_15 : decode cX5_init 15 = .ok (.putfield 17, 3) := by decide +kernel
theorem dX5_init_18 : decode cX5_init 18 = .ok (.aload_n 0, 1) := by decide +kernel
theorem dX5_init_19 : decode cX5_init 19 = .ok (.bipush 24, 2) := by decide +kernel
theorem dX5_init_21 : decode cX5_init 21 = .ok (.newarray .int, 2) := by decide +kernel
theorem dX5_init_23 : decode cX5_init 23 = .ok (.putfield 21, 3) := by decide +kernel
theorem dX5_init_26 : decode cX5_init 26 = .ok (.return_, 1) := by decide +kernel
theorem dX5_isFull_0 : decode cX5_isFull 0 = .ok (.aload_n 0, 1) := by decide +kernel
theorem dX5_isFull_1 : decode cX5_isFull 1 = .ok (.getfield 25, 3) := by decide +kernel
theorem dX5_isFull_4 : decode cX5_isFull 4 = .ok (.bipush 24, 2) := by decide +kernel
theorem dX5_isFull_6 : decode cX5_isFull 6 = .ok (.if_icmp .lt 7, 3) := by decide +kernel
theorem dX5_isFull_9 : decode cX5_isFull 9 = .ok (.iconst 1, 1) := by decide +kernel
theorem dX5_isFull_10 : decode cX5_isFull 10 = .ok (.goto 4, 3) := by decide +kernel
theorem dX5_isFull_13 : decode cX5_isFull 13 = .ok (.iconst 0, 1) := by decide +kernel
theorem dX5_isFull_14 : decode cX5_isFull 14 = .ok (.ireturn, 1) := by decide +kernel
theorem dX5_add_0 : decode cX5_add 0 = .ok (.aload_n 0, 1) := by decide +kernel
theorem dX5_add_1 : decode cX5_add 1 = .ok (.invokevirtual 28, 3) := by decide +kernel
theorem dX5_add_4 : decode cX5_add 4 = .ok (.ifCond .eq 4, 3) := by decide +kernel
theorem dX5_add_7 : decode cX5_add 7 = .ok (.return_, 1) := by decide +kernel
theorem dX5_add_8 : decode cX5_add 8 = .ok (.aload_n 0, 1) := by decide +kernel
theorem dX5_add_9 : decode cX5_add 9 = .ok (.getfield 17, 3) := by decide +kernel
theorem dX5_add_12 : decode cX5_add 12 = .ok (.aload_n 0, 1) := by decide +kernel
theorem dX5_add_13 : decode cX5_add 13 = .ok (.getfield 25, 3) := by decide +kernel
theorem dX5_add_16 : decode cX5_add 16 = .ok (.aload_n 1, 1) := by decide +kernel
theorem dX5_add_17 : decode cX5_add 17 = .ok (.aastore, 1) := by decide +kernel
theorem dX5_add_18 : decode cX5_add 18 = .ok (.aload_n 1, 1) := by decide +kernel
theorem dX5_add_19 : decode cX5_add 19 = .ok (.getfield 32, 3) := by decide +kernel
theorem dX5_add_22 : decode cX5_add 22 = .ok (.iconst 2, 1) := by decide +kernel
theorem dX5_add_23 : decode cX5_add 23 = .ok (.if_icmp .eq 15, 3) := by decide +kernel
theorem dX5_add_26 : decode cX5_add 26 = .ok (.aload_n 0, 1) := by decide +kernel
theorem dX5_add_27 : decode cX5_add 27 = .ok (.aload_n 0, 1) := by decide +kernel
theorem dX5_add_28 : decode cX5_add 28 = .ok (.getfield 25, 3) := by decide +kernel
theorem dX5_add_31 : decode cX5_add 31 = .ok (.aload_n 1, 1) := by decide +kernel
theorem dX5_add_32 : decode cX5_add 32 = .ok (.getfield 35, 3) := by decide +kernel
theorem dX5_add_35 : decode cX5_add 35 = .ok (.invokevirtual 38, 3) := by decide +kernel
theorem dX5_add_38 : decode cX5_add 38 = .ok (.aload_n 0, 1) := by decide +kernel
theorem dX5_add_39 : decode cX5_add 39 = .ok (.dup, 1) := by decide +kernel
theorem dX5_add_40 : decode cX5_add 40 = .ok (.getfield 25, 3) := by decide +kernel
theorem dX5_add_43 : decode cX5_add 43 = .ok (.iconst 1, 1) := by decide +kernel
theorem dX5_add_44 : decode cX5_add 44 = .ok (.iadd, 1) := by decide +kernel
theorem dX5_add_45 : decode cX5_add 45 = .ok (.putfield 25, 3) := by decide +kernel
theorem dX5_add_48 : decode cX5_add 48 = .ok (.return_, 1) := by decide +kernel
theorem dX5_putInTurn_0 : decode cX5_putInTurn 0 = .ok (.aload_n 0, 1) := by decide +kernel
theorem dX5_putInTurn_1 : decode cX5_putInTurn 1 = .ok (.getfield 42, 3) := by decide +kernel
theorem dX5_putInTurn_4 : decode cX5_putInTurn 4 = .ok (.istore_n 3, 1) := by decide +kernel
theorem dX5_putInTurn_5 : decode cX5_putInTurn 5 = .ok (.iload_n 3, 1) := by decide +kernel
theorem dX5_putInTurn_6 : decode cX5_putInTurn 6 = .ok (.ifCond .le 43, 3) := by decide +kernel
theorem dX5_putInTurn_9 : decode cX5_putInTurn 9 = .ok (.aload_n 0, 1) := by decide +kernel
theorem dX5_putInTurn_10 : decode cX5_putInTurn 10 = .ok (.getfield 17, 3) := by decide +kernel
theorem dX5_putInTurn_13 : decode cX5_putInTurn 13 = .ok (.aload_n 0, 1) := by decide +kernel
theorem dX5_putInTurn_14 : decode cX5_putInTurn 14 = .ok (.getfield 21, 3) := by decide +kernel
theorem dX5_putInTurn_17 : decode cX5_putInTurn 17 = .ok (.iload_n 3, 1) := by decide +kernel
theorem dX5_putInTurn_18 : decode cX5_putInTurn 18 = .ok (.iconst 1, 1) := by decide +kernel
theorem dX5_putInTurn_19 : decode cX5_putInTurn 19 = .ok (.isub, 1) := by decide +kernel
theorem dX5_putInTurn_20 : decode cX5_putInTurn 20 = .ok (.iaload, 1) := by decide +kernel
theorem dX5_putInTurn_21 : decode cX5_putInTurn 21 = .ok (.aaload, 1) := by decide +kernel
theorem dX5_putInTurn_22 : decode cX5_putInTurn 22 = .ok (.getfield 35, 3) := by decide +kernel
theorem dX5_putInTurn_25 : decode cX5_putInTurn 25 = .ok (.iload_n 2, 1) := by decide +kernel
theorem dX5_putInTurn_26 : decode cX5_putInTurn 26 = .ok (.if_icmp .ge 23, 3) := by decide +kernel
theorem dX5_putInTurn_29 : decode cX5_putInTurn 29 = .ok (.aload_n 0, 1) := by decide +kernel
theorem dX5_putInTurn_30 : decode cX5_putInTurn 30 = .ok (.getfield 21, 3) := by decide +kernel
theorem dX5_putInTurn_33 : decode cX5_putInTurn 33 = .ok (.iload_n 3, 1) := by decide +kernel
theorem dX5_putInTurn_34 : decode cX5_putInTurn 34 = .ok (.aload_n 0, 1) := by decide +kernel
theorem dX5_putInTurn_35 : decode cX5_putInTurn 35 = .ok (.getfield 21, 3) := by decide +kernel
theorem dX5_putInTurn_38 : decode cX5_putInTurn 38 = .ok (.iload_n 3, 1) := by decide +kernel
theorem dX5_putInTurn_39 : decode cX5_putInTurn 39 = .ok (.iconst 1, 1) := by decide +kernel
theorem dX5_putInTurn_40 : decode cX5_putInTurn 40 = .ok (.isub, 1) := by decide +kernel
theorem dX5_putInTurn_41 : decode cX5_putInTurn 41 = .ok (.iaload, 1) := by decide +kernel
theorem dX5_putInTurn_42 : decode cX5_putInTurn 42 = .ok (.iastore, 1) := by decide +kernel
theorem dX5_putInTurn_43 : decode cX5_putInTurn 43 = .ok (.iinc 3 (-1), 3) := by decide +kernel
theorem dX5_putInTurn_46 : decode cX5_putInTurn 46 = .ok (.goto (-41), 3) := by decide +kernel
theorem dX5_putInTurn_49 : decode cX5_putInTurn 49 = .ok (.aload_n 0, 1) := by decide +kernel
theorem dX5_putInTurn_50 : decode cX5_putInTurn 50 = .ok (.getfield 21, 3) := by decide +kernel
theorem dX5_putInTurn_53 : decode cX5_putInTurn 53 = .ok (.iload_n 3, 1) := by decide +kernel
theorem dX5_putInTurn_54 : decode cX5_putInTurn 54 = .ok (.iload_n 1, 1) := by decide +kernel
theorem dX5_putInTurn_55 : decode cX5_putInTurn 55 = .ok (.iastore, 1) := by decide +kernel
theorem dX5_putInTurn_56 : decode cX5_putInTurn 56 = .ok (.aload_n 0, 1) := by decide +kernel
theorem dX5_putInTurn_57 : decode cX5_putInTurn 57 = .ok (.dup, 1) := by decide +kernel
theorem dX5_putInTurn_58 : decode cX5_putInTurn 58 = .ok (.getfield 42, 3) := by decide +kernel
theorem dX5_putInTurn_61 : decode cX5_putInTurn 61 = .ok (.iconst 1, 1) := by decide +kernel
theorem dX5_putInTurn_62 : decode cX5_putInTurn 62 = .ok (.iadd, 1) := by decide +kernel
theorem dX5_putInTurn_63 : decode cX5_putInTurn 63 = .ok (.putfield 42, 3) := by decide +kernel
theorem dX5_putInTurn_66 : decode cX5_putInTurn 66 = .ok (.return_, 1) := by decide +kernel
theorem dX5_storesFor_0 : decode cX5_storesFor 0 = .ok (.bipush 15, 2) := by decide +kernel
theorem dX5_storesFor_2 : decode cX5_storesFor 2 = .ok (.istore_n 3, 1) := by decide +kernel
theorem dX5_storesFor_3 : decode cX5_storesFor 3 = .ok (.iconst 0, 1) := by decide +kernel
theorem dX5_storesFor_4 : decode cX5_storesFor 4 = .ok (.istore 4, 2) := by decide +kernel
theorem dX5_storesFor_6 : decode cX5_storesFor 6 = .ok (.iload 4, 2) := by decide +kernel
theorem dX5_storesFor_8 : decode cX5_storesFor 8 = .ok (.aload_n 0, 1) := by decide +kernel
theorem dX5_storesFor_9 : decode cX5_storesFor 9 = .ok (.getfield 25, 3) := by decide +kernel
theorem dX5_storesFor_12 : decode cX5_storesFor 12 = .ok (.if_icmp .ge 51, 3) := by decide +kernel
theorem dX5_storesFor_15 : decode cX5_storesFor 15 = .ok (.aload_n 0, 1) := by decide +kernel
theorem dX5_storesFor_16 : decode cX5_storesFor 16 = .ok (.getfield 17, 3) := by decide +kernel
theorem dX5_storesFor_19 : decode cX5_storesFor 19 = .ok (.iload 4, 2) := by decide +kernel
theorem dX5_storesFor_21 : decode cX5_storesFor 21 = .ok (.aaload, 1) := by decide +kernel
theorem dX5_storesFor_22 : decode cX5_storesFor 22 = .ok (.getfield 32, 3) := by decide +kernel
theorem dX5_storesFor_25 : decode cX5_storesFor 25 = .ok (.iconst 2, 1) := by decide +kernel
theorem dX5_storesFor_26 : decode cX5_storesFor 26 = .ok (.if_icmp .ne 31, 3) := by decide +kernel
theorem dX5_storesFor_29 : decode cX5_storesFor 29 = .ok (.aload_n 0, 1) := by decide +kernel
theorem dX5_storesFor_30 : decode cX5_storesFor 30 = .ok (.getfield 17, 3) := by decide +kernel
theorem dX5_storesFor_33 : decode cX5_storesFor 33 = .ok (.iload 4, 2) := by decide +kernel
theorem dX5_storesFor_35 : decode cX5_storesFor 35 = .ok (.aaload, 1) := by decide +kernel
theorem dX5_storesFor_36 : decode cX5_storesFor 36 = .ok (.aload_n 1, 1) := by decide +kernel
theorem dX5_storesFor_37 : decode cX5_storesFor 37 = .ok (.iload_n 2, 1) := by decide +kernel
theorem dX5_storesFor_38 : decode cX5_storesFor 38 = .ok (.invokevirtual 45, 3) := by decide +kernel
theorem dX5_storesFor_41 : decode cX5_storesFor 41 = .ok (.ifCond .eq 16, 3) := by decide +kernel
theorem dX5_storesFor_44 : decode cX5_storesFor 44 = .ok (.iload_n 3, 1) := by decide +kernel
theorem dX5_storesFor_45 : decode cX5_storesFor 45 = .ok (.aload_n 0, 1) := by decide +kernel
theorem dX5_storesFor_46 : decode cX5_storesFor 46 = .ok (.getfield 17, 3) := by decide +kernel
theorem dX5_storesFor_49 : decode cX5_storesFor 49 = .ok (.iload 4, 2) := by decide +kernel
theorem dX5_storesFor_51 : decode cX5_storesFor 51 = .ok (.aaload, 1) := by decide +kernel
theorem dX5_storesFor_52 : decode cX5_storesFor 52 = .ok (.getfield 49, 3) := by decide +kernel
theorem dX5_storesFor_55 : decode cX5_storesFor 55 = .ok (.iand, 1) := by decide +kernel
theorem dX5_storesFor_56 : decode cX5_storesFor 56 = .ok (.istore_n 3, 1) := by decide +kernel
theorem dX5_storesFor_57 : decode cX5_storesFor 57 = .ok (.iinc 4 1, 3) := by decide +kernel
theorem dX5_storesFor_60 : decode cX5_storesFor 60 = .ok (.goto (-54), 3) := by decide +kernel
theorem dX5_storesFor_63 : decode cX5_storesFor 63 = .ok (.iload_n 3, 1) := by decide +kernel
theorem dX5_storesFor_64 : decode cX5_storesFor 64 = .ok (.ireturn, 1) := by decide +kernel
theorem dX6_init_0 : decode cX6_init 0 = .ok (.aload_n 0, 1) := by decide +kernel
theorem dX6_init_1 : decode cX6_init 1 = .ok (.invokespecial 3, 3) := by decide +kernel
theorem dX6_init_4 : decode cX6_init 4 = .ok (.aload_n 0, 1) := by decide +kernel
theorem dX6_init_5 : decode cX6_init 5 = .ok (.bipush 24, 2) := by decide +kernel
theorem dX6_init_7 : decode cX6_init 7 = .ok (.newarray .int, 2) := by decide +kernel
theorem dX6_init_9 : decode cX6_init 9 = .ok (.putfield 9, 3) := by decide +kernel
theorem dX6_init_12 : decode cX6_init 12 = .ok (.return_, 1) := by decide +kernel
theorem dX6_settle_0 : decode cX6_settle 0 = .ok (.aload_n 0, 1) := by decide +kernel
theorem dX6_settle_1 : decode cX6_settle 1 = .ok (.iconst 0, 1) := by decide +kernel
theorem dX6_settle_2 : decode cX6_settle 2 = .ok (.putfield 15, 3) := by decide +kernel
theorem dX6_settle_5 : decode cX6_settle 5 = .ok (.aload_n 0, 1) := by decide +kernel
theorem dX6_settle_6 : decode cX6_settle 6 = .ok (.ldc 19, 2) := by decide +kernel
theorem dX6_settle_8 : decode cX6_settle 8 = .ok (.putfield 20, 3) := by decide +kernel
theorem dX6_settle_11 : decode cX6_settle 11 = .ok (.aload_n 0, 1) := by decide +kernel
theorem dX6_settle_12 : decode cX6_settle 12 = .ok (.iconst (-1), 1) := by decide +kernel
theorem dX6_settle_13 : decode cX6_settle 13 = .ok (.putfield 23, 3) := by decide +kernel
theorem dX6_settle_16 : decode cX6_settle 16 = .ok (.aload_n 0, 1) := by decide +kernel
theorem dX6_settle_17 : decode cX6_settle 17 = .ok (.iconst (-1), 1) := by decide +kernel
theorem dX6_settle_18 : decode cX6_settle 18 = .ok (.putfield 26, 3) := by decide +kernel
theorem dX6_settle_21 : decode cX6_settle 21 = .ok (.aload_n 0, 1) := by decide +kernel
theorem dX6_settle_22 : decode cX6_settle 22 = .ok (.iconst 0, 1) := by decide +kernel
theorem dX6_settle_23 : decode cX6_settle 23 = .ok (.putfield 29, 3) := by decide +kernel
theorem dX6_settle_26 : decode cX6_settle 26 = .ok (.aload_n 0, 1) := by decide +kernel
theorem dX6_settle_27 : decode cX6_settle 27 = .ok (.aload_n 1, 1) := by decide +kernel
theorem dX6_settle_28 : decode cX6_settle 28 = .ok (.getfield 32, 3) := by decide +kernel
theorem dX6_settle_31 : decode cX6_settle 31 = .ok (.iload_n 2, 1) := by decide +kernel
theorem dX6_settle_32 : decode cX6_settle 32 = .ok (.ishr, 1) := by decide +kernel
theorem dX6_settle_33 : decode cX6_settle 33 = .ok (.iconst 1, 1) := by decide +kernel
theorem dX6_settle_34 : decode cX6_settle 34 = .ok (.iand, 1) := by decide +kernel
theorem dX6_settle_35 : decode cX6_settle 35 = .ok (.ifCond .eq 7, 3) := by decide +kernel
theorem dX6_settle_38 : decode cX6_settle 38 = .ok (.iconst 1, 1) := by decide +kernel
theorem dX6_settle_39 : decode cX6_settle 39 = .ok (.goto 4, 3) := by decide +kernel
theorem dX6_settle_42 : decode cX6_settle 42 = .ok (.iconst 0, 1) := by decide +kernel
theorem dX6_settle_43 : decode cX6_settle 43 = .ok (.putfield 37, 3) := by decide +kernel
theorem dX6_settle_46 : decode cX6_settle 46 = .ok (.aload_n 0, 1) := by decide +kernel
theorem dX6_settle_47 : decode cX6_settle 47 = .ok (.aload_n 1, 1) := by decide +kernel
theorem dX6_settle_48 : decode cX6_settle 48 = .ok (.getfield 41, 3) := by decide +kernel
theorem dX6_settle_51 : decode cX6_settle 51 = .ok (.putfield 44, 3) := by decide +kernel
theorem dX6_settle_54 : decode cX6_settle 54 = .ok (.aload_n 3, 1) := by decide +kernel
theorem dX6_settle_55 : decode cX6_settle 55 = .ok (.ifnonnull 4, 3) := by decide +kernel
theorem dX6_settle_58 : decode cX6_settle 58 = .ok (.return_, 1) := by decide +kernel
theorem dX6_settle_59 : decode cX6_settle 59 = .ok (.iconst 0, 1) := by decide +kernel
theorem dX6_settle_60 : decode cX6_settle 60 = .ok (.istore 4, 2) := by decide +kernel
theorem dX6_settle_62 : decode cX6_settle 62 = .ok (.iload 4, 2) := by decide +kernel
theorem dX6_settle_64 : decode cX6_settle 64 = .ok (.aload_n 3, 1) := by decide +kernel
theorem dX6_settle_65 : decode cX6_settle 65 = .ok (.getfield 45, 3) := by decide +kernel
theorem dX6_settle_68 : decode cX6_settle 68 = .ok (.if_icmp .ge 54, 3) := by decide +kernel
theorem dX6_settle_71 : decode cX6_settle 71 = .ok (.aload_n 3, 1) := by decide +kernel
theorem dX6_settle_72 : decode cX6_settle 72 = .ok (.getfield 50, 3) := by decide +kernel
theorem dX6_settle_75 : decode cX6_settle 75 = .ok (.iload 4, 2) := by decide +kernel
theorem dX6_settle_77 : decode cX6_settle 77 = .ok (.iaload, 1) := by decide +kernel
theorem dX6_settle_78 : decode cX6_settle 78 = .ok (.istore 5, 2) := by decide +kernel
theorem dX6_settle_80 : decode cX6_settle 80 = .ok (.aload_n 3, 1) := by decide +kernel
theorem dX6_settle_81 : decode cX6_settle 81 = .ok (.getfield 53, 3) := by decide +kernel
theorem dX6_settle_84 : decode cX6_settle 84 = .ok (.iload 5, 2) := by decide +kernel
theorem dX6_settle_86 : decode cX6_settle 86 = .ok (.aaload, 1) := by decide +kernel
theorem dX6_settle_87 : decode cX6_settle 87 = .ok (.astore 6, 2) := by decide +kernel
theorem dX6_settle_89 : decode cX6_settle 89 = .ok (.aload 6, 2) := by decide +kernel
theorem dX6_settle_91 : decode cX6_settle 91 = .ok (.aload_n 1, 1) := by decide +kernel
theorem dX6_settle_92 : decode cX6_settle 92 = .ok (.iload_n 2, 1) := by decide +kernel
theorem dX6_settle_93 : decode cX6_settle 93 = .ok (.invokevirtual 57, 3) := by decide +kernel
theorem dX6_settle_96 : decode cX6_settle 96 = .ok (.ifCond .eq 20, 3) := by decide +kernel
theorem dX6_settle_99 : decode cX6_settle 99 = .ok (.aload_n 0, 1) := by decide +kernel
theorem dX6_settle_100 : decode cX6_settle 100 = .ok (.aload 6, 2) := by decide +kernel
theorem dX6_settle_102 : decode cX6_settle 102 = .ok (.getfield 63, 3) := by decide +kernel
theorem dX6_settle_105 : decode cX6_settle 105 = .ok (.iload 5, 2) := by decide +kernel
theorem dX6_settle_107 : decode cX6_settle 107 = .ok (.aload 6, 2) := by decide +kernel
theorem dX6_settle_109 : decode cX6_settle 109 = .ok (.aload_n 1, 1) := by decide +kernel
theorem dX6_settle_110 : decode cX6_settle 110 = .ok (.invokevirtual 66, 3) := by decide +kernel
theorem dX6_settle_113 : decode cX6_settle 113 = .ok (.invokevirtual 70, 3) := by decide +kernel
theorem dX6_settle_116 : decode cX6_settle 116 = .ok (.iinc 4 1, 3) := by decide +kernel
theorem dX6_settle_119 : decode cX6_settle 119 = .ok (.goto (-57), 3) := by decide +kernel
theorem dX6_settle_122 : decode cX6_settle 122 = .ok (.return_, 1) := by decide +kernel
theorem dX6_take_0 : decode cX6_take 0 = .ok (.iload_n 1, 1) := by decide +kernel
theorem dX6_take_1 : decode cX6_take 1 = .ok (.ifCond .ne 22, 3) := by decide +kernel
theorem dX6_take_4 : decode cX6_take 4 = .ok (.aload_n 0, 1) := by decide +kernel
theorem dX6_take_5 : decode cX6_take 5 = .ok (.iload_n 3, 1) := by decide +kernel
theorem dX6_take_6 : decode cX6_take 6 = .ok (.iconst (-1), 1) := by decide +kernel
theorem dX6_take_7 : decode cX6_take 7 = .ok (.if_icmp .ne 8, 3) := by decide +kernel
theorem dX6_take_10 : decode cX6_take 10 = .ok (.ldc 19, 2) := by decide +kernel
theorem dX6_take_12 : decode cX6_take 12 = .ok (.goto 4, 3) := by decide +kernel
theorem dX6_take_15 : decode cX6_take 15 = .ok (.iload_n 3, 1) := by decide +kernel
theorem dX6_take_16 : decode cX6_take 16 = .ok (.iload_n 2, 1) := by decide +kernel
theorem dX6_take_17 : decode cX6_take 17 = .ok (.invokevirtual 74, 3) := by decide +kernel
theorem dX6_take_20 : decode cX6_take 20 = .ok (.goto 14, 3) := by decide +kernel
theorem dX6_take_23 : decode cX6_take 23 = .ok (.iload_n 3, 1) := by decide +kernel
theorem dX6_take_24 : decode cX6_take 24 = .ok (.iconst (-1), 1) := by decide +kernel
theorem dX6_take_25 : decode cX6_take 25 = .ok (.if_icmp .eq 9, 3) := by decide +kernel
theorem dX6_take_28 : decode cX6_take 28 = .ok (.aload_n 0, 1) := by decide +kernel
theorem dX6_take_29 : decode cX6_take 29 = .ok (.iload_n 3, 1) := by decide +kernel
theorem dX6_take_30 : decode cX6_take 30 = .ok (.iload_n 2, 1) := by decide +kernel
theorem dX6_take_31 : decode cX6_take 31 = .ok (.invokevirtual 78, 3) := by decide +kernel
theorem dX6_take_34 : decode cX6_take 34 = .ok (.return_, 1) := by decide +kernel
theorem dX6_keepUntil_0 : decode cX6_keepUntil 0 = .ok (.iload_n 1, 1) := by decide +kernel
theorem dX6_keepUntil_1 : decode cX6_keepUntil 1 = .ok (.aload_n 0, 1) := by decide +kernel
theorem dX6_keepUntil_2 : decode cX6_keepUntil 2 = .ok (.getfield 20, 3) := by decide +kernel
theorem dX6_keepUntil_5 : decode cX6_keepUntil 5 = .ok (.if_icmp .le 11, 3) := by decide +kernel
theorem dX6_keepUntil_8 : decode cX6_keepUntil 8 = .ok (.aload_n 0, 1) := by decide +kernel
theorem dX6_keepUntil_9 : decode cX6_keepUntil 9 = .ok (.iload_n 2, 1) := by decide +kernel
theorem dX6_keepUntil_10 : decode cX6_keepUntil 10 = .ok (.invokevirtual 81, 3) := by decide +kernel
theorem dX6_keepUntil_13 : decode cX6_keepUntil 13 = .ok (.goto 21, 3) := by decide +kernel
theorem dX6_keepUntil_16 : decode cX6_keepUntil 16 = .ok (.iload_n 1, 1) := by decide +kernel
theorem dX6_keepUntil_17 : decode cX6_keepUntil 17 = .ok (.aload_n 0, 1) := by decide +kernel
theorem dX6_keepUntil_18 : decode cX6_keepUntil 18 = .ok (.getfield 15, 3) := by decide +kernel
theorem dX6_keepUntil_21 : decode cX6_keepUntil 21 = .ok (.if_icmp .le 13, 3) := by decide +kernel
theorem dX6_keepUntil_24 : decode cX6_keepUntil 24 = .ok (.aload_n 0, 1) := by decide +kernel
theorem dX6_keepUntil_25 : decode cX6_keepUntil 25 = .ok (.iload_n 1, 1) := by decide +kernel
theorem dX6_keepUntil_26 : decode cX6_keepUntil 26 = .ok (.putfield 15, 3) := by decide +kernel
theorem dX6_keepUntil_29 : decode cX6_keepUntil 29 = .ok (.aload_n 0, 1) := by decide +kernel
theorem dX6_keepUntil_30 : decode cX6_keepUntil 30 = .ok (.iload_n 2, 1) := by decide +kernel
theorem dX6_keepUntil_31 : decode cX6_keepUntil 31 = .ok (.putfield 23, 3) := by decide +kernel
theorem dX6_keepUntil_34 : decode cX6_keepUntil 34 = .ok (.return_, 1) := by decide +kernel
theorem dX6_endAt_0 : decode cX6_endAt 0 = .ok (.iload_n 1, 1) := by decide +kernel
theorem dX6_endAt_1 : decode cX6_endAt 1 = .ok (.aload_n 0, 1) := by decide +kernel
theorem dX6_endAt_2 : decode cX6_endAt 2 = .ok (.getfield 15, 3) := by decide +kernel
theorem dX6_endAt_5 : decode cX6_endAt 5 = .ok (.if_icmp .ge 11, 3) := by decide +kernel
theorem dX6_endAt_8 : decode cX6_endAt 8 = .ok (.aload_n 0, 1) := by decide +kernel
theorem dX6_endAt_9 : decode cX6_endAt 9 = .ok (.iload_n 2, 1) := by decide +kernel
theorem dX6_endAt_10 : decode cX6_endAt 10 = .ok (.invokevirtual 81, 3) := by decide +kernel
theorem dX6_endAt_13 : decode cX6_endAt 13 = .ok (.goto 21, 3) := by decide +kernel
theorem dX6_endAt_16 : decode cX6_endAt 16 = .ok (.iload_n 1, 1) := by decide +kernel
theorem dX6_endAt_17 : decode cX6_endAt 17 = .ok (.aload_n 0, 1) := by decide +kernel
theorem dX6_endAt_18 : decode cX6_endAt 18 = .ok (.getfield 20, 3) := by decide +kernel
theorem dX6_endAt_21 : decode cX6_endAt 21 = .ok (.if_icmp .ge 13, 3) := by decide +kernel
theorem dX6_endAt_24 : decode cX6_endAt 24 = .ok (.aload_n 0, 1) := by decide +kernel
theorem dX6_endAt_25 : decode cX6_endAt 25 = .ok (.iload_n 1, 1) := by decide +kernel
theorem dX6_endAt_26 : decode cX6_endAt 26 = .ok (.putfield 20, 3) := by decide +kernel
theorem dX6_endAt_29 : decode cX6_endAt 29 = .ok (.aload_n 0, 1) := by decide +kernel
theorem dX6_endAt_30 : decode cX6_endAt 30 = .ok (.iload_n 2, 1) := by decide +kernel
theorem dX6_endAt_31 : decode cX6_endAt 31 = .ok (.putfield 26, 3) := by decide +kernel
theorem dX6_endAt_34 : decode cX6_endAt 34 = .ok (.return_, 1) := by decide +kernel
theorem dX6_lose_0 : decode cX6_lose 0 = .ok (.aload_n 0, 1) := by decide +kernel
theorem dX6_lose_1 : decode cX6_lose 1 = .ok (.getfield 29, 3) := by decide +kernel
theorem dX6_lose_4 : decode cX6_lose 4 = .ok (.bipush 24, 2) := by decide +kernel
theorem dX6_lose_6 : decode cX6_lose 6 = .ok (.if_icmp .ge 23, 3) := by decide +kernel
theorem dX6_lose_9 : decode cX6_lose 9 = .ok (.aload_n 0, 1) := by decide +kernel
theorem dX6_lose_10 : decode cX6_lose 10 = .ok (.getfield 9, 3) := by decide +kernel
theorem dX6_lose_13 : decode cX6_lose 13 = .ok (.aload_n 0, 1) := by decide +kernel
theorem dX6_lose_14 : decode cX6_lose 14 = .ok (.getfield 29, 3) := by decide +kernel
theorem dX6_lose_17 : decode cX6_lose 17 = .ok (.iload_n 1, 1) := by decide +kernel
theorem dX6_lose_18 : decode cX6_lose 18 = .ok (.iastore, 1) := by decide +kernel
theorem dX6_lose_19 : decode cX6_lose 19 = .ok (.aload_n 0, 1) := by decide +kernel
theorem dX6_lose_20 : decode cX6_lose 20 = .ok (.dup, 1) := by decide +kernel
theorem dX6_lose_21 : decode cX6_lose 21 = .ok (.getfield 29, 3) := by decide +kernel
theorem dX6_lose_24 : decode cX6_lose 24 = .ok (.iconst 1, 1) := by decide +kernel
theorem dX6_lose_25 : decode cX6_lose 25 = .ok (.iadd, 1) := by decide +kernel
theorem dX6_lose_26 : decode cX6_lose 26 = .ok (.putfield 29, 3) := by decide +kernel
theorem dX6_lose_29 : decode cX6_lose 29 = .ok (.return_, 1) := by decide +kernel
theorem dX6_isDue_0 : decode cX6_isDue 0 = .ok (.aload_n 0, 1) := by decide +kernel
theorem dX6_isDue_1 : decode cX6_isDue 1 = .ok (.getfield 37, 3) := by decide +kernel
theorem dX6_isDue_4 : decode cX6_isDue 4 = .ok (.ifCond .ne 31, 3) := by decide +kernel
theorem dX6_isDue_7 : decode cX6_isDue 7 = .ok (.aload_n 0, 1) := by decide +kernel
theorem dX6_isDue_8 : decode cX6_isDue 8 = .ok (.getfield 15, 3) := by decide +kernel
theorem dX6_isDue_11 : decode cX6_isDue 11 = .ok (.iload_n 1, 1) := by decide +kernel
theorem dX6_isDue_12 : decode cX6_isDue 12 = .ok (.if_icmp .gt 23, 3) := by decide +kernel
theorem dX6_isDue_15 : decode cX6_isDue 15 = .ok (.aload_n 0, 1) := by decide +kernel
theorem dX6_isDue_16 : decode cX6_isDue 16 = .ok (.getfield 20, 3) := by decide +kernel
theorem dX6_isDue_19 : decode cX6_isDue 19 = .ok (.ldc 19, 2) := by decide +kernel
theorem dX6_isDue_21 : decode cX6_isDue 21 = .ok (.if_icmp .ne 10, 3) := by decide +kernel
theorem dX6_isDue_24 : decode cX6_isDue 24 = .ok (.aload_n 0, 1) := by decide +kernel
theorem dX6_isDue_25 : decode cX6_isDue 25 = .ok (.getfield 44, 3) := by decide +kernel
theorem dX6_isDue_28 : decode cX6_isDue 28 = .ok (.ifCond .eq 7, 3) := by decide +kernel
theorem dX6_isDue_31 : decode cX6_isDue 31 = .ok (.iconst 1, 1) := by decide +kernel
theorem dX6_isDue_32 : decode cX6_isDue 32 = .ok (.goto 4, 3) := by decide +kernel
theorem dX6_isDue_35 : decode cX6_isDue 35 = .ok (.iconst 0, 1) := by decide +kernel
theorem dX6_isDue_36 : decode cX6_isDue 36 = .ok (.ireturn, 1) := by decide +kernel
theorem dX7_init_0 : decode cX7_init 0 = .ok (.aload_n 0, 1) := by decide +kernel
theorem dX7_init_1 : decode cX7_init 1 = .ok (.invokespecial 3, 3) := by decide +kernel
theorem dX7_init_4 : decode cX7_init 4 = .ok (.aload_n 0, 1) := by decide +kernel
theorem dX7_init_5 : decode cX7_init 5 = .ok (.iconst 1, 1) := by decide +kernel
theorem dX7_init_6 : decode cX7_init 6 = .ok (.putfield 9, 3) := by decide +kernel
theorem dX7_init_9 : decode cX7_init 9 = .ok (.return_, 1) := by decide +kernel
theorem dX7_firstFrom_0 : decode cX7_firstFrom 0 = .ok (.iload_n 1, 1) := by decide +kernel
theorem dX7_firstFrom_1 : decode cX7_firstFrom 1 = .ok (.aload_n 0, 1) := by decide +kernel
theorem dX7_firstFrom_2 : decode cX7_firstFrom 2 = .ok (.getfield 15, 3) := by decide +kernel
theorem dX7_firstFrom_5 : decode cX7_firstFrom 5 = .ok (.if_icmp .gt 8, 3) := by decide +kernel
theorem dX7_firstFrom_8 : decode cX7_firstFrom 8 = .ok (.aload_n 0, 1) := by decide +kernel
theorem dX7_firstFrom_9 : decode cX7_firstFrom 9 = .ok (.getfield 15, 3) := by decide +kernel
theorem dX7_firstFrom_12 : decode cX7_firstFrom 12 = .ok (.ireturn, 1) := by decide +kernel
theorem dX7_firstFrom_13 : decode cX7_firstFrom 13 = .ok (.aload_n 0, 1) := by decide +kernel
theorem dX7_firstFrom_14 : decode cX7_firstFrom 14 = .ok (.getfield 9, 3) := by decide +kernel
theorem dX7_firstFrom_17 : decode cX7_firstFrom 17 = .ok (.iconst 1, 1) := by decide +kernel
theorem dX7_firstFrom_18 : decode cX7_firstFrom 18 = .ok (.if_icmp .ge 7, 3) := by decide +kernel
theorem dX7_firstFrom_21 : decode cX7_firstFrom 21 = .ok (.iconst 0, 1) := by decide +kernel
theorem dX7_firstFrom_22 : decode cX7_firstFrom 22 = .ok (.goto 14, 3) := by decide +kernel
theorem dX7_firstFrom_25 : decode cX7_firstFrom 25 = .ok (.iload_n 1, 1) := by decide +kernel
theorem dX7_firstFrom_26 : decode cX7_firstFrom 26 = .ok (.aload_n 0, 1) := by decide +kernel
theorem dX7_firstFrom_27 : decode cX7_firstFrom 27 = .ok (.getfield 15, 3) := by decide +kernel
theorem dX7_firstFrom_30 : decode cX7_firstFrom 30 = .ok (.isub, 1) := by decide +kernel
theorem dX7_firstFrom_31 : decode cX7_firstFrom 31 = .ok (.aload_n 0, 1) := by decide +kernel
theorem dX7_firstFrom_32 : decode cX7_firstFrom 32 = .ok (.getfield 9, 3) := by decide +kernel
theorem dX7_firstFrom_35 : decode cX7_firstFrom 35 = .ok (.irem, 1) := by decide +kernel
theorem dX7_firstFrom_36 : decode cX7_firstFrom 36 = .ok (.istore_n 2, 1) := by decide +kernel
theorem dX7_firstFrom_37 : decode cX7_firstFrom 37 = .ok (.iload_n 2, 1) := by decide +kernel
theorem dX7_firstFrom_38 : decode cX7_firstFrom 38 = .ok (.ifCond .ne 7, 3) := by decide +kernel
theorem dX7_firstFrom_41 : decode cX7_firstFrom 41 = .ok (.iload_n 1, 1) := by decide +kernel
theorem dX7_firstFrom_42 : decode cX7_firstFrom 42 = .ok (.goto 11, 3) := by decide +kernel
theorem dX7_firstFrom_45 : decode cX7_firstFrom 45 = .ok (.iload_n 1, 1) := by decide +kernel
theorem dX7_firstFrom_46 : decode cX7_firstFrom 46 = .ok (.aload_n 0, 1) := by decide +kernel
theorem dX7_firstFrom_47 : decode cX7_firstFrom 47 = .ok (.getfield 9, 3) := by decide +kernel
theorem dX7_firstFrom_50 : decode cX7_firstFrom 50 = .ok (.iadd, 1) := by decide +kernel
theorem dX7_firstFrom_51 : decode cX7_firstFrom 51 = .ok (.iload_n 2, 1) := by decide +kernel
theorem dX7_firstFrom_52 : decode cX7_firstFrom 52 = .ok (.isub, 1) := by decide +kernel
theorem dX7_firstFrom_53 : decode cX7_firstFrom 53 = .ok (.istore_n 3, 1) := by decide +kernel
theorem dX7_firstFrom_54 : decode cX7_firstFrom 54 = .ok (.iload_n 3, 1) := by decide +kernel
theorem dX7_firstFrom_55 : decode cX7_firstFrom 55 = .ok (.ldc 18, 2) := by decide +kernel
theorem dX7_firstFrom_57 : decode cX7_firstFrom 57 = .ok (.if_icmp .le 8, 3) := by decide +kernel
theorem dX7_firstFrom_60 : decode cX7_firstFrom 60 = .ok (.ldc 19, 2) := by decide +kernel
theorem dX7_firstFrom_62 : decode cX7_firstFrom 62 = .ok (.goto 4, 3) := by decide +kernel
theorem dX7_firstFrom_65 : decode cX7_firstFrom 65 = .ok (.iload_n 3, 1) := by decide +kernel
theorem dX7_firstFrom_66 : decode cX7_firstFrom 66 = .ok (.ireturn, 1) := by decide +kernel
theorem dX8_init_0 : decode cX8_init 0 = .ok (.aload_n 0, 1) := by decide +kernel
theorem dX8_init_1 : decode cX8_init 1 = .ok (.invokespecial 3, 3) := by decide +kernel
theorem dX8_init_4 : decode cX8_init 4 = .ok (.aload_n 0, 1) := by decide +kernel
theorem dX8_init_5 : decode cX8_init 5 = .ok (.iload_n 1, 1) := by decide +kernel
theorem dX8_init_6 : decode cX8_init 6 = .ok (.putfield 9, 3) := by decide +kernel
theorem dX8_init_9 : decode cX8_init 9 = .ok (.aload_n 0, 1) := by decide +kernel
theorem dX8_init_10 : decode cX8_init 10 = .ok (.iconst 4, 1) := by decide +kernel
theorem dX8_init_11 : decode cX8_init 11 = .ok (.newarray .int, 2) := by decide +kernel
theorem dX8_init_13 : decode cX8_init 13 = .ok (.putfield 15, 3) := by decide +kernel
theorem dX8_init_16 : decode cX8_init 16 = .ok (.aload_n 0, 1) := by decide +kernel
theorem dX8_init_17 : decode cX8_init 17 = .ok (.iconst 4, 1) := by decide +kernel
theorem dX8_init_18 : decode cX8_init 18 = .ok (.newarray .int, 2) := by decide +kernel
theorem dX8_init_20 : decode cX8_init 20 = .ok (.putfield 19, 3) := by decide +kernel
theorem dX8_init_23 : decode cX8_init 23 = .ok (.iconst 0, 1) := by decide +kernel
theorem dX8_init_24 : decode cX8_init 24 = .ok (.istore_n 2, 1) := by decide +kernel
theorem dX8_init_25 : decode cX8_init 25 = .ok (.iload_n 2, 1) := by decide +kernel
theorem dX8_init_26 : decode cX8_init 26 = .ok (.iconst 4, 1) := by decide +kernel
theorem dX8_init_27 : decode cX8_init 27 = .ok (.if_icmp .ge 16, 3) := by decide +kernel
theorem dX8_init_30 : decode cX8_init 30 = .ok (.aload_n 0, 1) := by decide +kernel
theorem dX8_init_31 : decode cX8_init 31 = .ok (.getfield 19, 3) := by decide +kernel
theorem dX8_init_34 : decode cX8_init 34 = .ok (.iload_n 2, 1) := by decide +kernel
theorem dX8_init_35 : decode cX8_init 35 = .ok (.iconst (-1), 1) := by decide +kernel
theorem dX8_init_36 : decode cX8_init 36 = .ok (.iastore, 1) := by decide +kernel
theorem dX8_init_37 : decode cX8_init 37 = .ok (.iinc 2 1, 3) := by decide +kernel
theorem dX8_init_40 : decode cX8_init 40 = .ok (.goto (-15), 3) := by decide +kernel
theorem dX8_init_43 : decode cX8_init 43 = .ok (.aload_n 0, 1) := by decide +kernel
theorem dX8_init_44 : decode cX8_init 44 = .ok (.bipush 8, 2) := by decide +kernel
theorem dX8_init_46 : decode cX8_init 46 = .ok (.newarray .int, 2) := by decide +kernel
theorem dX8_init_48 : decode cX8_init 48 = .ok (.putfield 22, 3) := by decide +kernel
theorem dX8_init_51 : decode cX8_init 51 = .ok (.return_, 1) := by decide +kernel
theorem dX8_hasCopy_0 : decode cX8_hasCopy 0 = .ok (.aload_n 0, 1) := by decide +kernel
theorem dX8_hasCopy_1 : decode cX8_hasCopy 1 = .ok (.getfield 22, 3) := by decide +kernel
theorem dX8_hasCopy_4 : decode cX8_hasCopy 4 = .ok (.iload_n 1, 1) := by decide +kernel
theorem dX8_hasCopy_5 : decode cX8_hasCopy 5 = .ok (.iaload, 1) := by decide +kernel
theorem dX8_hasCopy_6 : decode cX8_hasCopy 6 = .ok (.iload_n 2, 1) := by decide +kernel
theorem dX8_hasCopy_7 : decode cX8_hasCopy 7 = .ok (.ishr, 1) := by decide +kernel
theorem dX8_hasCopy_8 : decode cX8_hasCopy 8 = .ok (.iconst 1, 1) := by decide +kernel
theorem dX8_hasCopy_9 : decode cX8_hasCopy 9 = .ok (.iand, 1) := by decide +kernel
theorem dX8_hasCopy_10 : decode cX8_hasCopy 10 = .ok (.ifCond .eq 7, 3) := by decide +kernel
theorem dX8_hasCopy_13 : decode cX8_hasCopy 13 = .ok (.iconst 1, 1) := by decide +kernel
theorem dX8_hasCopy_14 : decode cX8_hasCopy 14 = .ok (.goto 4, 3) := by decide +kernel
theorem dX8_hasCopy_17 : decode cX8_hasCopy 17 = .ok (.iconst 0, 1) := by decide +kernel
theorem dX8_hasCopy_18 : decode cX8_hasCopy 18 = .ok (.ireturn, 1) := by decide +kernel
theorem dJ6_bitCount_0f7a4_0 : decode cJ6_bitCount_0f7a4 0 = .ok (.iload_n 0, 1) := by decide +kernel
theorem dJ6_bitCount_0f7a4_1 : decode cJ6_bitCount_0f7a4 1 = .ok (.iload_n 0, 1) := by decide +kernel
theorem dJ6_bitCount_0f7a4_2 : decode cJ6_bitCount_0f7a4 2 = .ok (.iconst 1, 1) := by decide +kernel
theorem dJ6_bitCount_0f7a4_3 : decode cJ6_bitCount_0f7a4 3 = .ok (.iushr, 1) := by decide +kernel
theorem dJ6_bitCount_0f7a4_4 : decode cJ6_bitCount_0f7a4 4 = .ok (.ldc_w 265, 3) := by decide +kernel
theorem dJ6_bitCount_0f7a4_7 : decode cJ6_bitCount_0f7a4 7 = .ok (.iand, 1) := by decide +kernel
theorem dJ6_bitCount_0f7a4_8 : decode cJ6_bitCount_0f7a4 8 = .ok (.isub, 1) := by decide +kernel
theorem dJ6_bitCount_0f7a4_9 : decode cJ6_bitCount_0f7a4 9 = .ok (.istore_n 0, 1) := by decide +kernel
theorem dJ6_bitCount_0f7a4_10 : decode cJ6_bitCount_0f7a4 10 = .ok (.iload_n 0, 1) := by decide +kernel
theorem dJ6_bitCount_0f7a4_11 : decode cJ6_bitCount_0f7a4 11 = .ok (.ldc_w 266, 3) := by decide +kernel
theorem dJ6_bitCount_0f7a4_14 : decode cJ6_bitCount_0f7a4 14 = .ok (.iand, 1) := by decide +kernel
theorem dJ6_bitCount_0f7a4_15 : decode cJ6_bitCount_0f7a4 15 = .ok (.iload_n 0, 1) := by decide +kernel
theorem dJ6_bitCount_0f7a4_16 : decode cJ6_bitCount_0f7a4 16 = .ok (.iconst 2, 1) := by decide +kernel
theorem dJ6_bitCount_0f7a4_17 : decode cJ6_bitCount_0f7a4 17 = .ok (.iushr, 1) := by decide +kernel
theorem dJ6_bitCount_0f7a4_18 : decode cJ6_bitCount_0f7a4 18 = .ok (.ldc_w 266, 3) := by decide +kernel
theorem dJ6_bitCount_0f7a4_21 : decode cJ6_bitCount_0f7a4 21 = .ok (.iand, 1) := by decide +kernel
theorem dJ6_bitCount_0f7a4_22 : decode cJ6_bitCount_0f7a4 22 = .ok (.iadd, 1) := by decide +kernel
theorem dJ6_bitCount_0f7a4_23 : decode cJ6_bitCount_0f7a4 23 = .ok (.istore_n 0, 1) := by decide +kernel
theorem dJ6_bitCount_0f7a4_24 : decode cJ6_bitCount_0f7a4 24 = .ok (.iload_n 0, 1) := by decide +kernel
theorem dJ6_bitCount_0f7a4_25 : decode cJ6_bitCount_0f7a4 25 = .ok (.iload_n 0, 1) := by decide +kernel
theorem dJ6_bitCount_0f7a4_26 : decode cJ6_bitCount_0f7a4 26 = .ok (.iconst 4, 1) := by decide +kernel
theorem dJ6_bitCount_0f7a4_27 : decode cJ6_bitCount_0f7a4 27 = .ok (.iushr, 1) := by decide +kernel
theorem dJ6_bitCount_0f7a4_28 : decode cJ6_bitCount_0f7a4 28 = .ok (.iadd, 1) := by decide +kernel
theorem dJ6_bitCount_0f7a4_29 : decode cJ6_bitCount_0f7a4 29 = .ok (.ldc_w 267, 3) := by decide +kernel
theorem dJ6_bitCount_0f7a4_32 : decode cJ6_bitCount_0f7a4 32 = .ok (.iand, 1) := by decide +kernel
theorem dJ6_bitCount_0f7a4_33 : decode cJ6_bitCount_0f7a4 33 = .ok (.istore_n 0, 1) := by decide +kernel
theorem dJ6_bitCount_0f7a4_34 : decode cJ6_bitCount_0f7a4 34 = .ok (.iload_n 0, 1) := by decide +kernel
theorem dJ6_bitCount_0f7a4_35 : decode cJ6_bitCount_0f7a4 35 = .ok (.iload_n 0, 1) := by decide +kernel
theorem dJ6_bitCount_0f7a4_36 : decode cJ6_bitCount_0f7a4 36 = .ok (.bipush 8, 2) := by decide +kernel
theorem dJ6_bitCount_0f7a4_38 : decode cJ6_bitCount_0f7a4 38 = .ok (.iushr, 1) := by decide +kernel
theorem dJ6_bitCount_0f7a4_39 : decode cJ6_bitCount_0f7a4 39 = .ok (.iadd, 1) := by decide +kernel
theorem dJ6_bitCount_0f7a4_40 : decode cJ6_bitCount_0f7a4 40 = .ok (.istore_n 0, 1) := by decide +kernel
theorem dJ6_bitCount_0f7a4_41 : decode cJ6_bitCount_0f7a4 41 = .ok (.iload_n 0, 1) := by decide +kernel
theorem dJ6_bitCount_0f7a4_42 : decode cJ6_bitCount_0f7a4 42 = .ok (.iload_n 0, 1) := by decide +kernel
theorem dJ6_bitCount_0f7a4_43 : decode cJ6_bitCount_0f7a4 43 = .ok (.bipush 16, 2) := by decide +kernel
theorem dJ6_bitCount_0f7a4_45 : decode cJ6_bitCount_0f7a4 45 = .ok (.iushr, 1) := by decide +kernel
theorem dJ6_bitCount_0f7a4_46 : decode cJ6_bitCount_0f7a4 46 = .ok (.iadd, 1) := by decide +kernel
theorem dJ6_bitCount_0f7a4_47 : decode cJ6_bitCount_0f7a4 47 = .ok (.istore_n 0, 1) := by decide +kernel
theorem dJ6_bitCount_0f7a4_48 : decode cJ6_bitCount_0f7a4 48 = .ok (.iload_n 0, 1) := by decide +kernel
theorem dJ6_bitCount_0f7a4_49 : decode cJ6_bitCount_0f7a4 49 = .ok (.bipush 63, 2) := by decide +kernel
theorem dJ6_bitCount_0f7a4_51 : decode cJ6_bitCount_0f7a4 51 = .ok (.iand, 1) := by decide +kernel
theorem dJ6_bitCount_0f7a4_52 : decode cJ6_bitCount_0f7a4 52 = .ok (.ireturn, 1) := by decide +kernel
theorem dJ9_max_7cf53_0 : decode cJ9_max_7cf53 0 = .ok (.iload_n 0, 1) := by decide +kernel
theorem dJ9_max_7cf53_1 : decode cJ9_max_7cf53 1 = .ok (.iload_n 1, 1) := by decide +kernel
theorem dJ9_max_7cf53_2 : decode cJ9_max_7cf53 2 = .ok (.if_icmp .lt 7, 3) := by decide +kernel
theorem dJ9_max_7cf53_5 : decode cJ9_max_7cf53 5 = .ok (.iload_n 0, 1) := by decide +kernel
theorem dJ9_max_7cf53_6 : decode cJ9_max_7cf53 6 = .ok (.goto 4, 3) := by decide +kernel
theorem dJ9_max_7cf53_9 : decode cJ9_max_7cf53 9 = .ok (.iload_n 1, 1) := by decide +kernel
theorem dJ9_max_7cf53_10 : decode cJ9_max_7cf53 10 = .ok (.ireturn, 1) := by decide +kernel
theorem dJ9_min_7cf53_0 : decode cJ9_min_7cf53 0 = .ok (.iload_n 0, 1) := by decide +kernel
theorem dJ9_min_7cf53_1 : decode cJ9_min_7cf53 1 = .ok (.iload_n 1, 1) := by decide +kernel
theorem dJ9_min_7cf53_2 : decode cJ9_min_7cf53 2 = .ok (.if_icmp .gt 7, 3) := by decide +kernel
theorem dJ9_min_7cf53_5 : decode cJ9_min_7cf53 5 = .ok (.iload_n 0, 1) := by decide +kernel
theorem dJ9_min_7cf53_6 : decode cJ9_min_7cf53 6 = .ok (.goto 4, 3) := by decide +kernel
theorem dJ9_min_7cf53_9 : decode cJ9_min_7cf53 9 = .ok (.iload_n 1, 1) := by decide +kernel
theorem dJ9_min_7cf53_10 : decode cJ9_min_7cf53 10 = .ok (.ireturn, 1) := by decide +kernel
theorem dJ0_length_8abf5_0 : decode cJ0_length_8abf5 0 = .ok (.aload_n 0, 1) := by decide +kernel
theorem dJ0_length_8abf5_1 : decode cJ0_length_8abf5 1 = .ok (.getfield 9, 3) := by decide +kernel
theorem dJ0_length_8abf5_4 : decode cJ0_length_8abf5 4 = .ok (.arraylength, 1) := by decide +kernel
theorem dJ0_length_8abf5_5 : decode cJ0_length_8abf5 5 = .ok (.aload_n 0, 1) := by decide +kernel
theorem dJ0_length_8abf5_6 : decode cJ0_length_8abf5 6 = .ok (.invokevirtual 335, 3) := by decide +kernel
theorem dJ0_length_8abf5_9 : decode cJ0_length_8abf5 9 = .ok (.ishr, 1) := by decide +kernel
theorem dJ0_length_8abf5_10 : decode cJ0_length_8abf5 10 = .ok (.ireturn, 1) := by decide +kernel
theorem dJ0_charAt_5068e_0 : decode cJ0_charAt_5068e 0 = .ok (.aload_n 0, 1) := by decide +kernel
theorem dJ0_charAt_5068e_1 : decode cJ0_charAt_5068e 1 = .ok (.invokevirtual 492, 3) := by decide +kernel
theorem dJ0_charAt_5068e_4 : decode cJ0_charAt_5068e 4 = .ok (.ifCond .eq 12, 3) := by decide +kernel
theorem dJ0_charAt_5068e_7 : decode cJ0_charAt_5068e 7 = .ok (.aload_n 0, 1) := by decide +kernel
theorem dJ0_charAt_5068e_8 : decode cJ0_charAt_5068e 8 = .ok (.getfield 9, 3) := by decide +kernel
theorem dJ0_charAt_5068e_11 : decode cJ0_charAt_5068e 11 = .ok (.iload_n 1, 1) := by decide +kernel
theorem dJ0_charAt_5068e_12 : decode cJ0_charAt_5068e 12 = .ok (.invokestatic 495, 3) := by decide +kernel
theorem dJ0_charAt_5068e_15 : decode cJ0_charAt_5068e 15 = .ok (.ireturn, 1) := by decide +kernel
theorem dJ0_charAt_5068e_16 : decode cJ0_charAt_5068e 16 = .ok (.aload_n 0, 1) := by decide +kernel
theorem dJ0_charAt_5068e_17 : decode cJ0_charAt_5068e 17 = .ok (.getfield 9, 3) := by decide +kernel
theorem dJ0_charAt_5068e_20 : decode cJ0_charAt_5068e 20 = .ok (.iload_n 1, 1) := by decide +kernel
theorem dJ0_charAt_5068e_21 : decode cJ0_charAt_5068e 21 = .ok (.invokestatic 498, 3) := by decide +kernel
theorem dJ0_charAt_5068e_24 : decode cJ0_charAt_5068e 24 = .ok (.ireturn, 1) := by decide +kernel
theorem dJ0_coder_7d493_0 : decode cJ0_coder_7d493 0 = .ok (.getstatic 38, 3) := by decide +kernel
theorem dJ0_coder_7d493_3 : decode cJ0_coder_7d493 3 = .ok (.ifCond .eq 10, 3) := by decide +kernel
theorem dJ0_coder_7d493_6 : decode cJ0_coder_7d493 6 = .ok (.aload_n 0, 1) := by decide +kernel
theorem dJ0_coder_7d493_7 : decode cJ0_coder_7d493 7 = .ok (.getfield 15, 3) := by decide +kernel
theorem dJ0_coder_7d493_10 : decode cJ0_coder_7d493 10 = .ok (.goto 4, 3) := by decide +kernel
theorem dJ0_coder_7d493_13 : decode cJ0_coder_7d493 13 = .ok (.iconst 1, 1) := by decide +kernel
theorem dJ0_coder_7d493_14 : decode cJ0_coder_7d493 14 = .ok (.ireturn, 1) := by decide +kernel
theorem dJ0_isLatin1_aae02_0 : decode cJ0_isLatin1_aae02 0 = .ok (.getstatic 38, 3) := by decide +kernel
theorem dJ0_isLatin1_aae02_3 : decode cJ0_isLatin1_aae02 3 = .ok (.ifCond .eq 14, 3) := by decide +kernel
theorem dJ0_isLatin1_aae02_6 : decode cJ0_isLatin1_aae02 6 = .ok (.aload_n 0, 1) := by decide +kernel
theorem dJ0_isLatin1_aae02_7 : decode cJ0_isLatin1_aae02 7 = .ok (.getfield 15, 3) := by decide +kernel
theorem dJ0_isLatin1_aae02_10 : decode cJ0_isLatin1_aae02 10 = .ok (.ifCond .ne 7, 3) := by decide +kernel
theorem dJ0_isLatin1_aae02_13 : decode cJ0_isLatin1_aae02 13 = .ok (.iconst 1, 1) := by decide +kernel
theorem dJ0_isLatin1_aae02_14 : decode cJ0_isLatin1_aae02 14 = .ok (.goto 4, 3) := by decide +kernel
theorem dJ0_isLatin1_aae02_17 : decode cJ0_isLatin1_aae02 17 = .ok (.iconst 0, 1) := by decide +kernel
theorem dJ0_isLatin1_aae02_18 : decode cJ0_isLatin1_aae02 18 = .ok (.ireturn, 1) := by decide +kernel
theorem dJ0_checkIndex_df160_0 : decode cJ0_checkIndex_df160 0 = .ok (.iload_n 0, 1) := by decide +kernel
theorem dJ0_checkIndex_df160_1 : decode cJ0_checkIndex_df160 1 = .ok (.iload_n 1, 1) := by decide +kernel
theorem dJ0_checkIndex_df160_2 : decode cJ0_checkIndex_df160 2 = .ok (.getstatic 1053, 3) := by decide +kernel
theorem dJ0_checkIndex_df160_5 : decode cJ0_checkIndex_df160 5 = .ok (.invokestatic 1059, 3) := by decide +kernel
theorem dJ0_checkIndex_df160_8 : decode cJ0_checkIndex_df160 8 = .ok (.pop, 1) := by decide +kernel
theorem dJ0_checkIndex_df160_9 : decode cJ0_checkIndex_df160 9 = .ok (.return_, 1) := by decide +kernel
theorem dJ1_charAt_3b067_0 : decode cJ1_charAt_3b067 0 = .ok (.iload_n 1, 1) := by decide +kernel
theorem dJ1_charAt_3b067_1 : decode cJ1_charAt_3b067 1 = .ok (.aload_n 0, 1) := by decide +kernel
theorem dJ1_charAt_3b067_2 : decode cJ1_charAt_3b067 2 = .ok (.arraylength, 1) := by decide +kernel
theorem dJ1_charAt_3b067_3 : decode cJ1_charAt_3b067 3 = .ok (.invokestatic 9, 3) := by decide +kernel
theorem dJ1_charAt_3b067_6 : decode cJ1_charAt_3b067 6 = .ok (.aload_n 0, 1) := by decide +kernel
theorem dJ1_charAt_3b067_7 : decode cJ1_charAt_3b067 7 = .ok (.iload_n 1, 1) := by decide +kernel
theorem dJ1_charAt_3b067_8 : decode cJ1_charAt_3b067 8 = .ok (.baload, 1) := by decide +kernel
theorem dJ1_charAt_3b067_9 : decode cJ1_charAt_3b067 9 = .ok (.sipush 255, 3) := by decide +kernel
theorem dJ1_charAt_3b067_12 : decode cJ1_charAt_3b067 12 = .ok (.iand, 1) := by decide +kernel
theorem dJ1_charAt_3b067_13 : decode cJ1_charAt_3b067 13 = .ok (.i2c, 1) := by decide +kernel
theorem dJ1_charAt_3b067_14 : decode cJ1_charAt_3b067 14 = .ok (.ireturn, 1) := by decide +kernel
theorem dJ2_getChar_3b067_0 : decode cJ2_getChar_3b067 0 = .ok (.getstatic 44, 3) := by decide +kernel
theorem dJ2_getChar_3b067_3 : decode cJ2_getChar_3b067 3 = .ok (.ifCond .ne 25, 3) := by decide +kernel
theorem dJ2_getChar_3b067_6 : decode cJ2_getChar_3b067 6 = .ok (.iload_n 1, 1) := by decide +kernel
theorem dJ2_getChar_3b067_7 : decode cJ2_getChar_3b067 7 = .ok (.ifCond .lt 11, 3) := by decide +kernel
theorem dJ2_getChar_3b067_10 : decode cJ2_getChar_3b067 10 = .ok (.iload_n 1, 1) := by decide +kernel
theorem dJ2_getChar_3b067_11 : decode cJ2_getChar_3b067 11 = .ok (.aload_n 0, 1) := by decide +kernel
theorem dJ2_getChar_3b067_12 : decode cJ2_getChar_3b067 12 = .ok (.invokestatic 48, 3) := by decide +kernel
theorem dJ2_getChar_3b067_15 : decode cJ2_getChar_3b067 15 = .ok (.if_icmp .lt 13, 3) := by decide +kernel
theorem dJ2_getChar_3b067_18 : decode cJ2_getChar_3b067 18 = .ok (.new 52, 3) := by decide +kernel
theorem dJ2_getChar_3b067_21 : decode cJ2_getChar_3b067 21 = .ok (.dup, 1) := by decide +kernel
theorem dJ2_getChar_3b067_22 : decode cJ2_getChar_3b067 22 = .ok (.ldc 54, 2) := by decide +kernel
theorem dJ2_getChar_3b067_24 : decode cJ2_getChar_3b067 24 = .ok (.invokespecial 56, 3) := by decide +kernel
theorem dJ2_getChar_3b067_27 : decode cJ2_getChar_3b067 27 = .ok (.athrow, 1) := by decide +kernel
theorem dJ2_getChar_3b067_28 : decode cJ2_getChar_3b067 28 = .ok (.iload_n 1, 1) := by decide +kernel
theorem dJ2_getChar_3b067_29 : decode cJ2_getChar_3b067 29 = .ok (.iconst 1, 1) := by decide +kernel
theorem dJ2_getChar_3b067_30 : decode cJ2_getChar_3b067 30 = .ok (.ishl, 1) := by decide +kernel
theorem dJ2_getChar_3b067_31 : decode cJ2_getChar_3b067 31 = .ok (.istore_n 1, 1) := by decide +kernel
theorem dJ2_getChar_3b067_32 : decode cJ2_getChar_3b067 32 = .ok (.aload_n 0, 1) := by decide +kernel
theorem dJ2_getChar_3b067_33 : decode cJ2_getChar_3b067 33 = .ok (.iload_n 1, 1) := by decide +kernel
theorem dJ2_getChar_3b067_34 : decode cJ2_getChar_3b067 34 = .ok (.iinc 1 1, 3) := by decide +kernel
theorem dJ2_getChar_3b067_37 : decode cJ2_getChar_3b067 37 = .ok (.baload, 1) := by decide +kernel
theorem dJ2_getChar_3b067_38 : decode cJ2_getChar_3b067 38 = .ok (.sipush 255, 3) := by decide +kernel
theorem dJ2_getChar_3b067_41 : decode cJ2_getChar_3b067 41 = .ok (.iand, 1) := by decide +kernel
theorem dJ2_getChar_3b067_42 : decode cJ2_getChar_3b067 42 = .ok (.getstatic 59, 3) := by decide +kernel
theorem dJ2_getChar_3b067_45 : decode cJ2_getChar_3b067 45 = .ok (.ishl, 1) := by decide +kernel
theorem dJ2_getChar_3b067_46 : decode cJ2_getChar_3b067 46 = .ok (.aload_n 0, 1) := by decide +kernel
theorem dJ2_getChar_3b067_47 : decode cJ2_getChar_3b067 47 = .ok (.iload_n 1, 1) := by decide +kernel
theorem dJ2_getChar_3b067_48 : decode cJ2_getChar_3b067 48 = .ok (.baload, 1) := by decide +kernel
theorem dJ2_getChar_3b067_49 : decode cJ2_getChar_3b067 49 = .ok (.sipush 255, 3) := by decide +kernel
theorem dJ2_getChar_3b067_52 : decode cJ2_getChar_3b067 52 = .ok (.iand, 1) := by decide +kernel
theorem dJ2_getChar_3b067_53 : decode cJ2_getChar_3b067 53 = .ok (.getstatic 63, 3) := by decide +kernel
theorem dJ2_getChar_3b067_56 : decode cJ2_getChar_3b067 56 = .ok (.ishl, 1) := by decide +kernel
theorem dJ2_getChar_3b067_57 : decode cJ2_getChar_3b067 57 = .ok (.ior, 1) := by decide +kernel
theorem dJ2_getChar_3b067_58 : decode cJ2_getChar_3b067 58 = .ok (.i2c, 1) := by decide +kernel
theorem dJ2_getChar_3b067_59 : decode cJ2_getChar_3b067 59 = .ok (.ireturn, 1) := by decide +kernel
theorem dJ2_length_9d52b_0 : decode cJ2_length_9d52b 0 = .ok (.aload_n 0, 1) := by decide +kernel
theorem dJ2_length_9d52b_1 : decode cJ2_length_9d52b 1 = .ok (.arraylength, 1) := by decide +kernel
theorem dJ2_length_9d52b_2 : decode cJ2_length_9d52b 2 = .ok (.iconst 1, 1) := by decide +kernel
theorem dJ2_length_9d52b_3 : decode cJ2_length_9d52b 3 = .ok (.ishr, 1) := by decide +kernel
theorem dJ2_length_9d52b_4 : decode cJ2_length_9d52b 4 = .ok (.ireturn, 1) := by decide +kernel
theorem dJ2_charAt_3b067_0 : decode cJ2_charAt_3b067 0 = .ok (.iload_n 1, 1) := by decide +kernel
theorem dJ2_charAt_3b067_1 : decode cJ2_charAt_3b067 1 = .ok (.aload_n 0, 1) := by decide +kernel
theorem dJ2_charAt_3b067_2 : decode cJ2_charAt_3b067 2 = .ok (.invokestatic 67, 3) := by decide +kernel
theorem dJ2_charAt_3b067_5 : decode cJ2_charAt_3b067 5 = .ok (.aload_n 0, 1) := by decide +kernel
theorem dJ2_charAt_3b067_6 : decode cJ2_charAt_3b067 6 = .ok (.iload_n 1, 1) := by decide +kernel
theorem dJ2_charAt_3b067_7 : decode cJ2_charAt_3b067 7 = .ok (.invokestatic 71, 3) := by decide +kernel
theorem dJ2_charAt_3b067_10 : decode cJ2_charAt_3b067 10 = .ok (.ireturn, 1) := by decide +kernel
theorem dJ2_checkIndex_2214a_0 : decode cJ2_checkIndex_2214a 0 = .ok (.iload_n 0, 1) := by decide +kernel
theorem dJ2_checkIndex_2214a_1 : decode cJ2_checkIndex_2214a 1 = .ok (.aload_n 1, 1) := by decide +kernel
theorem dJ2_checkIndex_2214a_2 : decode cJ2_checkIndex_2214a 2 = .ok (.invokestatic 48, 3) := by decide +kernel
theorem dJ2_checkIndex_2214a_5 : decode cJ2_checkIndex_2214a 5 = .ok (.invokestatic 414, 3) := by decide +kernel
theorem dJ2_checkIndex_2214a_8 : decode cJ2_checkIndex_2214a 8 = .ok (.return_, 1) := by decide +kernel
theorem dJ3_checkIndex_8e157_0 : decode cJ3_checkIndex_8e157 0 = .ok (.iload_n 0, 1) := by decide +kernel
theorem dJ3_checkIndex_8e157_1 : decode cJ3_checkIndex_8e157 1 = .ok (.ifCond .lt 8, 3) := by decide +kernel
theorem dJ3_checkIndex_8e157_4 : decode cJ3_checkIndex_8e157 4 = .ok (.iload_n 0, 1) := by decide +kernel
theorem dJ3_checkIndex_8e157_5 : decode cJ3_checkIndex_8e157 5 = .ok (.iload_n 1, 1) := by decide +kernel
theorem dJ3_checkIndex_8e157_6 : decode cJ3_checkIndex_8e157 6 = .ok (.if_icmp .lt 10, 3) := by decide +kernel
theorem dJ3_checkIndex_8e157_9 : decode cJ3_checkIndex_8e157 9 = .ok (.aload_n 2, 1) := by decide +kernel
theorem dJ3_checkIndex_8e157_10 : decode cJ3_checkIndex_8e157 10 = .ok (.iload_n 0, 1) := by decide +kernel
theorem dJ3_checkIndex_8e157_11 : decode cJ3_checkIndex_8e157 11 = .ok (.iload_n 1, 1) := by decide +kernel
theorem dJ3_checkIndex_8e157_12 : decode cJ3_checkIndex_8e157 12 = .ok (.invokestatic 95, 3) := by decide +kernel
theorem dJ3_checkIndex_8e157_15 : decode cJ3_checkIndex_8e157 15 = .ok (.athrow, 1) := by decide +kernel
theorem dJ3_checkIndex_8e157_16 : decode cJ3_checkIndex_8e157 16 = .ok (.iload_n 0, 1) := by decide +kernel
theorem dJ3_checkIndex_8e157_17 : decode cJ3_checkIndex_8e157 17 = .ok (.ireturn, 1) := by decide +kernel
