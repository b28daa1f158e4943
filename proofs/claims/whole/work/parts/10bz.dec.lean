theorem dX9_init_0 : decode cX9_init 0 = .ok (.aload_n 0, 1) := by decide +kernel
theorem dX9_init_1 : decode cX9_init 1 = .ok (.invokespecial 1, 3) := by decide +kernel
theorem dX9_init_4 : decode cX9_init 4 = .ok (.aload_n 0, 1) := by decide +kernel
theorem dX9_init_5 : decode cX9_init 5 = .ok (.sipush 1000, 3) := by decide +kernel
theorem dX9_init_8 : decode cX9_init 8 = .ok (.newarray .byte, 2) := by decide +kernel
theorem dX9_init_10 : decode cX9_init 10 = .ok (.putfield 9, 3) := by decide +kernel
theorem dX9_init_13 : decode cX9_init 13 = .ok (.aload_n 0, 1) := by decide +kernel
theorem dX9_init_14 : decode cX9_init 14 = .ok (.iconst (-1), 1) := by decide +kernel
theorem dX9_init_15 : decode cX9_init 15 = .ok (.putfield 13, 3) := by decide +kernel
theorem dX9_init_18 : decode cX9_init 18 = .ok (.aload_n 0, 1) := by decide +kernel
theorem dX9_init_19 : decode cX9_init 19 = .ok (.bipush 8, 2) := by decide +kernel
theorem dX9_init_21 : decode cX9_init 21 = .ok (.anewarray 17, 3) := by decide +kernel
theorem dX9_init_24 : decode cX9_init 24 = .ok (.putfield 19, 3) := by decide +kernel
theorem dX9_init_27 : decode cX9_init 27 = .ok (.aload_n 0, 1) := by decide +kernel
theorem dX9_init_28 : decode cX9_init 28 = .ok (.bipush 30, 2) := by decide +kernel
theorem dX9_init_30 : decode cX9_init 30 = .ok (.anewarray 23, 3) := by decide +kernel
theorem dX9_init_33 : decode cX9_init 33 = .ok (.putfield 25, 3) := by decide +kernel
theorem dX9_init_36 : decode cX9_init 36 = .ok (.aload_n 0, 1) := by decide +kernel
theorem dX9_init_37 : decode cX9_init 37 = .ok (.iconst 4, 1) := by decide +kernel
theorem dX9_init_38 : decode cX9_init 38 = .ok (.anewarray 29, 3) := by decide +kernel
theorem dX9_init_41 : decode cX9_init 41 = .ok (.putfield 31, 3) := by decide +kernel
theorem dX9_init_44 : decode cX9_init 44 = .ok (.iconst 0, 1) := by decide +kernel
theorem dX9_init_45 : decode cX9_init 45 = .ok (.istore_n 1, 1) := by decide +kernel
theorem dX9_init_46 : decode cX9_init 46 = .ok (.iload_n 1, 1) := by decide +kernel
theorem dX9_init_47 : decode cX9_init 47 = .ok (.iconst 4, 1) := by decide +kernel
theorem dX9_init_48 : decode cX9_init 48 = .ok (.if_icmp .ge 22, 3) := by decide +kernel
theorem dX9_init_51 : decode cX9_init 51 = .ok (.aload_n 0, 1) := by decide +kernel
theorem dX9_init_52 : decode cX9_init 52 = .ok (.getfield 31, 3) := by decide +kernel
theorem dX9_init_55 : decode cX9_init 55 = .ok (.iload_n 1, 1) := by decide +kernel
theorem dX9_init_56 : decode cX9_init 56 = .ok (.new 29, 3) := by decide +kernel
theorem dX9_init_59 : decode cX9_init 59 = .ok (.dup, 1) := by decide +kernel
theorem dX9_init_60 : decode cX9_init 60 = .ok (.invokespecial 35, 3) := by decide +kernel
theorem dX9_init_63 : decode cX9_init 63 = .ok (.aastore, 1) := by decide +kernel
theorem dX9_init_64 : decode cX9_init 64 = .ok (.iinc 1 1, 3) := by decide +kernel
theorem dX9_init_67 : decode cX9_init 67 = .ok (.goto (-21), 3) := by decide +kernel
theorem dX9_init_70 : decode cX9_init 70 = .ok (.aload_n 0, 1) := by decide +kernel
theorem dX9_init_71 : decode cX9_init 71 = .ok (.bipush 40, 2) := by decide +kernel
theorem dX9_init_73 : decode cX9_init 73 = .ok (.anewarray 36, 3) := by decide +kernel
theorem dX9_init_76 : decode cX9_init 76 = .ok (.putfield 38, 3) := by decide +kernel
theorem dX9_init_79 : decode cX9_init 79 = .ok (.aload_n 0, 1) := by decide +kernel
theorem dX9_init_80 : decode cX9_init 80 = .ok (.new 42, 3) := by decide +kernel
theorem dX9_init_83 : decode cX9_init 83 = .ok (.dup, 1) := by decide +kernel
theorem dX9_init_84 : decode cX9_init 84 = .ok (.invokespecial 44, 3) := by decide +kernel
theorem dX9_init_87 : decode cX9_init 87 = .ok (.putfield 45, 3) := by decide +kernel
theorem dX9_init_90 : decode cX9_init 90 = .ok (.aload_n 0, 1) := by decide +kernel
theorem dX9_init_91 : decode cX9_init 91 = .ok (.new 49, 3) := by decide +kernel
theorem dX9_init_94 : decode cX9_init 94 = .ok (.dup, 1) := by decide +kernel
theorem dX9_init_95 : decode cX9_init 95 = .ok (.invokespecial 51, 3) := by decide +kernel
theorem dX9_init_98 : decode cX9_init 98 = .ok (.putfield 52, 3) := by decide +kernel
theorem dX9_init_101 : decode cX9_init 101 = .ok (.return_, 1) := by decide +kernel
theorem dX9_day_0 : decode cX9_day 0 = .ok (.iload_n 1, 1) := by decide +kernel
theorem dX9_day_1 : decode cX9_day 1 = .ok (.sipush 2000, 3) := by decide +kernel
theorem dX9_day_4 : decode cX9_day 4 = .ok (.if_icmp .lt 21, 3) := by decide +kernel
theorem dX9_day_7 : decode cX9_day 7 = .ok (.iload_n 1, 1) := by decide +kernel
theorem dX9_day_8 : decode cX9_day 8 = .ok (.sipush 2547, 3) := by decide +kernel
theorem dX9_day_11 : decode cX9_day 11 = .ok (.if_icmp .gt 14, 3) := by decide +kernel
theorem dX9_day_14 : decode cX9_day 14 = .ok (.iload_n 2, 1) := by decide +kernel
theorem dX9_day_15 : decode cX9_day 15 = .ok (.iconst 1, 1) := by decide +kernel
theorem dX9_day_16 : decode cX9_day 16 = .ok (.if_icmp .lt 9, 3) := by decide +kernel
theorem dX9_day_19 : decode cX9_day 19 = .ok (.iload_n 2, 1) := by decide +kernel
theorem dX9_day_20 : decode cX9_day 20 = .ok (.bipush 12, 2) := by decide +kernel
theorem dX9_day_22 : decode cX9_day 22 = .ok (.if_icmp .le 13, 3) := by decide +kernel
theorem dX9_day_25 : decode cX9_day 25 = .ok (.new 56, 3) := by decide +kernel
theorem dX9_day_28 : decode cX9_day 28 = .ok (.dup, 1) := by decide +kernel
theorem dX9_day_29 : decode cX9_day 29 = .ok (.ldc 58, 2) := by decide +kernel
theorem dX9_day_31 : decode cX9_day 31 = .ok (.invokespecial 60, 3) := by decide +kernel
theorem dX9_day_34 : decode cX9_day 34 = .ok (.athrow, 1) := by decide +kernel
theorem dX9_day_35 : decode cX9_day 35 = .ok (.iload_n 1, 1) := by decide +kernel
theorem dX9_day_36 : decode cX9_day 36 = .ok (.sipush 2000, 3) := by decide +kernel
theorem dX9_day_39 : decode cX9_day 39 = .ok (.isub, 1) := by decide +kernel
theorem dX9_day_40 : decode cX9_day 40 = .ok (.bipush 12, 2) := by decide +kernel
theorem dX9_day_42 : decode cX9_day 42 = .ok (.imul, 1) := by decide +kernel
theorem dX9_day_43 : decode cX9_day 43 = .ok (.iload_n 2, 1) := by decide +kernel
theorem dX9_day_44 : decode cX9_day 44 = .ok (.iadd, 1) := by decide +kernel
theorem dX9_day_45 : decode cX9_day 45 = .ok (.iconst 1, 1) := by decide +kernel
theorem dX9_day_46 : decode cX9_day 46 = .ok (.isub, 1) := by decide +kernel
theorem dX9_day_47 : decode cX9_day 47 = .ok (.istore 4, 2) := by decide +kernel
theorem dX9_day_49 : decode cX9_day 49 = .ok (.iload_n 3, 1) := by decide +kernel
theorem dX9_day_50 : decode cX9_day 50 = .ok (.iconst 1, 1) := by decide +kernel
theorem dX9_day_51 : decode cX9_day 51 = .ok (.if_icmp .lt 12, 3) := by decide +kernel
theorem dX9_day_54 : decode cX9_day 54 = .ok (.iload_n 3, 1) := by decide +kernel
theorem dX9_day_55 : decode cX9_day 55 = .ok (.iload 4, 2) := by decide +kernel
theorem dX9_day_57 : decode cX9_day 57 = .ok (.invokestatic 63, 3) := by decide +kernel
theorem dX9_day_60 : decode cX9_day 60 = .ok (.if_icmp .le 13, 3) := by decide +kernel
theorem dX9_day_63 : decode cX9_day 63 = .ok (.new 56, 3) := by decide +kernel
theorem dX9_day_66 : decode cX9_day 66 = .ok (.dup, 1) := by decide +kernel
theorem dX9_day_67 : decode cX9_day 67 = .ok (.ldc 69, 2) := by decide +kernel
theorem dX9_day_69 : decode cX9_day 69 = .ok (.invokespecial 60, 3) := by decide +kernel
theorem dX9_day_72 : decode cX9_day 72 = .ok (.athrow, 1) := by decide +kernel
theorem dX9_day_73 : decode cX9_day 73 = .ok (.iload 4, 2) := by decide +kernel
theorem dX9_day_75 : decode cX9_day 75 = .ok (.invokestatic 71, 3) := by decide +kernel
theorem dX9_day_78 : decode cX9_day 78 = .ok (.iload_n 3, 1) := by decide +kernel
theorem dX9_day_79 : decode cX9_day 79 = .ok (.iadd, 1) := by decide +kernel
theorem dX9_day_80 : decode cX9_day 80 = .ok (.iconst 1, 1) := by decide +kernel
theorem dX9_day_81 : decode cX9_day 81 = .ok (.isub, 1) := by decide +kernel
theorem dX9_day_82 : decode cX9_day 82 = .ok (.istore 5, 2) := by decide +kernel
theorem dX9_day_84 : decode cX9_day 84 = .ok (.iload 5, 2) := by decide +kernel
theorem dX9_day_86 : decode cX9_day 86 = .ok (.ldc 74, 2) := by decide +kernel
theorem dX9_day_88 : decode cX9_day 88 = .ok (.if_icmp .le 13, 3) := by decide +kernel
theorem dX9_day_91 : decode cX9_day 91 = .ok (.new 56, 3) := by decide +kernel
theorem dX9_day_94 : decode cX9_day 94 = .ok (.dup, 1) := by decide +kernel
theorem dX9_day_95 : decode cX9_day 95 = .ok (.ldc 75, 2) := by decide +kernel
theorem dX9_day_97 : decode cX9_day 97 = .ok (.invokespecial 60, 3) := by decide +kernel
theorem dX9_day_100 : decode cX9_day 100 = .ok (.athrow, 1) := by decide +kernel
theorem dX9_day_101 : decode cX9_day 101 = .ok (.iload 5, 2) := by decide +kernel
theorem dX9_day_103 : decode cX9_day 103 = .ok (.ireturn, 1) := by decide +kernel
theorem dX9_date_0 : decode cX9_date 0 = .ok (.iload_n 1, 1) := by decide +kernel
theorem dX9_date_1 : decode cX9_date 1 = .ok (.invokestatic 77, 3) := by decide +kernel
theorem dX9_date_4 : decode cX9_date 4 = .ok (.iload_n 1, 1) := by decide +kernel
theorem dX9_date_5 : decode cX9_date 5 = .ok (.invokestatic 81, 3) := by decide +kernel
theorem dX9_date_8 : decode cX9_date 8 = .ok (.istore_n 3, 1) := by decide +kernel
theorem dX9_date_9 : decode cX9_date 9 = .ok (.iload_n 2, 1) := by decide +kernel
theorem dX9_date_10 : decode cX9_date 10 = .ok (.tableswitch 51 0 2 #[26, 35, 42], 26) := by decide +kernel
theorem dX9_date_36 : decode cX9_date 36 = .ok (.sipush 2000, 3) := by decide +kernel
theorem dX9_date_39 : decode cX9_date 39 = .ok (.iload_n 3, 1) := by decide +kernel
theorem dX9_date_40 : decode cX9_date 40 = .ok (.bipush 12, 2) := by decide +kernel
theorem dX9_date_42 : decode cX9_date 42 = .ok (.idiv, 1) := by decide +kernel
theorem dX9_date_43 : decode cX9_date 43 = .ok (.iadd, 1) := by decide +kernel
theorem dX9_date_44 : decode cX9_date 44 = .ok (.ireturn, 1) := by decide +kernel
theorem dX9_date_45 : decode cX9_date 45 = .ok (.iload_n 3, 1) := by decide +kernel
theorem dX9_date_46 : decode cX9_date 46 = .ok (.bipush 12, 2) := by decide +kernel
theorem dX9_date_48 : decode cX9_date 48 = .ok (.irem, 1) := by decide +kernel
theorem dX9_date_49 : decode cX9_date 49 = .ok (.iconst 1, 1) := by decide +kernel
theorem dX9_date_50 : decode cX9_date 50 = .ok (.iadd, 1) := by decide +kernel
theorem dX9_date_51 : decode cX9_date 51 = .ok (.ireturn, 1) := by decide +kernel
theorem dX9_date_52 : decode cX9_date 52 = .ok (.iload_n 1, 1) := by decide +kernel
theorem dX9_date_53 : decode cX9_date 53 = .ok (.iload_n 3, 1) := by decide +kernel
theorem dX9_date_54 : decode cX9_date 54 = .ok (.invokestatic 71, 3) := by decide +kernel
theorem dX9_date_57 : decode cX9_date 57 = .ok (.isub, 1) := by decide +kernel
theorem dX9_date_58 : decode cX9_date 58 = .ok (.iconst 1, 1) := by decide +kernel
theorem dX9_date_59 : decode cX9_date 59 = .ok (.iadd, 1) := by decide +kernel
theorem dX9_date_60 : decode cX9_date 60 = .ok (.ireturn, 1) := by decide +kernel
theorem dX9_date_61 : decode cX9_date 61 = .ok (.new 56, 3) := by decide +kernel
theorem dX9_date_64 : decode cX9_date 64 = .ok (.dup, 1) := by decide +kernel
theorem dX9_date_65 : decode cX9_date 65 = .ok (.ldc 84, 2) := by decide +kernel
theorem dX9_date_67 : decode cX9_date 67 = .ok (.invokespecial 60, 3) := by decide +kernel
theorem dX9_date_70 : decode cX9_date 70 = .ok (.athrow, 1) := by decide +kernel
theorem dX9_later_0 : decode cX9_later 0 = .ok (.iload_n 1, 1) := by decide +kernel
theorem dX9_later_1 : decode cX9_later 1 = .ok (.invokestatic 77, 3) := by decide +kernel
theorem dX9_later_4 : decode cX9_later 4 = .ok (.iload_n 2, 1) := by decide +kernel
theorem dX9_later_5 : decode cX9_later 5 = .ok (.ifCond .lt 9, 3) := by decide +kernel
theorem dX9_later_8 : decode cX9_later 8 = .ok (.iload_n 2, 1) := by decide +kernel
theorem dX9_later_9 : decode cX9_later 9 = .ok (.ldc 86, 2) := by decide +kernel
theorem dX9_later_11 : decode cX9_later 11 = .ok (.if_icmp .le 13, 3) := by decide +kernel
theorem dX9_later_14 : decode cX9_later 14 = .ok (.new 56, 3) := by decide +kernel
theorem dX9_later_17 : decode cX9_later 17 = .ok (.dup, 1) := by decide +kernel
theorem dX9_later_18 : decode cX9_later 18 = .ok (.ldc 87, 2) := by decide +kernel
theorem dX9_later_20 : decode cX9_later 20 = .ok (.invokespecial 60, 3) := by decide +kernel
theorem dX9_later_23 : decode cX9_later 23 = .ok (.athrow, 1) := by decide +kernel
theorem dX9_later_24 : decode cX9_later 24 = .ok (.iload_n 1, 1) := by decide +kernel
theorem dX9_later_25 : decode cX9_later 25 = .ok (.iload_n 2, 1) := by decide +kernel
theorem dX9_later_26 : decode cX9_later 26 = .ok (.invokestatic 89, 3) := by decide +kernel
theorem dX9_later_29 : decode cX9_later 29 = .ok (.ireturn, 1) := by decide +kernel
theorem dX9_feed_0 : decode cX9_feed 0 = .ok (.aload_n 0, 1) := by decide +kernel
theorem dX9_feed_1 : decode cX9_feed 1 = .ok (.getfield 93, 3) := by decide +kernel
theorem dX9_feed_4 : decode cX9_feed 4 = .ok (.bipush 20, 2) := by decide +kernel
theorem dX9_feed_6 : decode cX9_feed 6 = .ok (.iadd, 1) := by decide +kernel
theorem dX9_feed_7 : decode cX9_feed 7 = .ok (.sipush 1000, 3) := by decide +kernel
theorem dX9_feed_10 : decode cX9_feed 10 = .ok (.if_icmp .le 5, 3) := by decide +kernel
theorem dX9_feed_13 : decode cX9_feed 13 = .ok (.iconst (-1), 1) := by decide +kernel
theorem dX9_feed_14 : decode cX9_feed 14 = .ok (.ireturn, 1) := by decide +kernel
theorem dX9_feed_15 : decode cX9_feed 15 = .ok (.aload_n 0, 1) := by decide +kernel
theorem dX9_feed_16 : decode cX9_feed 16 = .ok (.iload_n 1, 1) := by decide +kernel
theorem dX9_feed_17 : decode cX9_feed 17 = .ok (.invokevirtual 96, 3) := by decide +kernel
theorem dX9_feed_20 : decode cX9_feed 20 = .ok (.aload_n 0, 1) := by decide +kernel
theorem dX9_feed_21 : decode cX9_feed 21 = .ok (.iload_n 2, 1) := by decide +kernel
theorem dX9_feed_22 : decode cX9_feed 22 = .ok (.invokevirtual 96, 3) := by decide +kernel
theorem dX9_feed_25 : decode cX9_feed 25 = .ok (.aload_n 0, 1) := by decide +kernel
theorem dX9_feed_26 : decode cX9_feed 26 = .ok (.iload_n 3, 1) := by decide +kernel
theorem dX9_feed_27 : decode cX9_feed 27 = .ok (.invokevirtual 96, 3) := by decide +kernel
theorem dX9_feed_30 : decode cX9_feed 30 = .ok (.aload_n 0, 1) := by decide +kernel
theorem dX9_feed_31 : decode cX9_feed 31 = .ok (.iload 4, 2) := by decide +kernel
theorem dX9_feed_33 : decode cX9_feed 33 = .ok (.invokevirtual 96, 3) := by decide +kernel
theorem dX9_feed_36 : decode cX9_feed 36 = .ok (.aload_n 0, 1) := by decide +kernel
theorem dX9_feed_37 : decode cX9_feed 37 = .ok (.iload 5, 2) := by decide +kernel
theorem dX9_feed_39 : decode cX9_feed 39 = .ok (.invokevirtual 96, 3) := by decide +kernel
theorem dX9_feed_42 : decode cX9_feed 42 = .ok (.aload_n 0, 1) := by decide +kernel
theorem dX9_feed_43 : decode cX9_feed 43 = .ok (.getfield 93, 3) := by decide +kernel
theorem dX9_feed_46 : decode cX9_feed 46 = .ok (.ireturn, 1) := by decide +kernel
theorem dX9_rules_0 : decode cX9_rules 0 = .ok (.iload_n 2, 1) := by decide +kernel
theorem dX9_rules_1 : decode cX9_rules 1 = .ok (.invokestatic 77, 3) := by decide +kernel
theorem dX9_rules_4 : decode cX9_rules 4 = .ok (.iload_n 1, 1) := by decide +kernel
theorem dX9_rules_5 : decode cX9_rules 5 = .ok (.ifCond .lt 11, 3) := by decide +kernel
theorem dX9_rules_8 : decode cX9_rules 8 = .ok (.iload_n 1, 1) := by decide +kernel
theorem dX9_rules_9 : decode cX9_rules 9 = .ok (.aload_n 0, 1) := by decide +kernel
theorem dX9_rules_10 : decode cX9_rules 10 = .ok (.getfield 93, 3) := by decide +kernel
theorem dX9_rules_13 : decode cX9_rules 13 = .ok (.if_icmp .le 13, 3) := by decide +kernel
theorem dX9_rules_16 : decode cX9_rules 16 = .ok (.new 56, 3) := by decide +kernel
theorem dX9_rules_19 : decode cX9_rules 19 = .ok (.dup, 1) := by decide +kernel
theorem dX9_rules_20 : decode cX9_rules 20 = .ok (.ldc 99, 2) := by decide +kernel
theorem dX9_rules_22 : decode cX9_rules 22 = .ok (.invokespecial 60, 3) := by decide +kernel
theorem dX9_rules_25 : decode cX9_rules 25 = .ok (.athrow, 1) := by decide +kernel
theorem dX9_rules_26 : decode cX9_rules 26 = .ok (.aload_n 0, 1) := by decide +kernel
theorem dX9_rules_27 : decode cX9_rules 27 = .ok (.iconst 0, 1) := by decide +kernel
theorem dX9_rules_28 : decode cX9_rules 28 = .ok (.putfield 93, 3) := by decide +kernel
theorem dX9_rules_31 : decode cX9_rules 31 = .ok (.aload_n 0, 1) := by decide +kernel
theorem dX9_rules_32 : decode cX9_rules 32 = .ok (.iconst (-1), 1) := by decide +kernel
theorem dX9_rules_33 : decode cX9_rules 33 = .ok (.putfield 13, 3) := by decide +kernel
theorem dX9_rules_36 : decode cX9_rules 36 = .ok (.aload_n 0, 1) := by decide +kernel
theorem dX9_rules_37 : decode cX9_rules 37 = .ok (.getfield 101, 3) := by decide +kernel
theorem dX9_rules_40 : decode cX9_rules 40 = .ok (.bipush 8, 2) := by decide +kernel
theorem dX9_rules_42 : decode cX9_rules 42 = .ok (.if_icmp .lt 6, 3) := by decide +kernel
theorem dX9_rules_45 : decode cX9_rules 45 = .ok (.bipush (-9), 2) := by decide +kernel
theorem dX9_rules_47 : decode cX9_rules 47 = .ok (.ireturn, 1) := by decide +kernel
theorem dX9_rules_48 : decode cX9_rules 48 = .ok (.new 17, 3) := by decide +kernel
theorem dX9_rules_51 : decode cX9_rules 51 = .ok (.dup, 1) := by decide +kernel
theorem dX9_rules_52 : decode cX9_rules 52 = .ok (.iload_n 2, 1) := by decide +kernel
theorem dX9_rules_53 : decode cX9_rules 53 = .ok (.invokespecial 104, 3) := by decide +kernel
theorem dX9_rules_56 : decode cX9_rules 56 = .ok (.astore_n 3, 1) := by decide +kernel
theorem dX9_rules_57 : decode cX9_rules 57 = .ok (.new 106, 3) := by decide +kernel
theorem dX9_rules_60 : decode cX9_rules 60 = .ok (.dup, 1) := by decide +kernel
theorem dX9_rules_61 : decode cX9_rules 61 = .ok (.aload_n 0, 1) := by decide +kernel
theorem dX9_rules_62 : decode cX9_rules 62 = .ok (.getfield 9, 3) := by decide +kernel
theorem dX9_rules_65 : decode cX9_rules 65 = .ok (.iload_n 1, 1) := by decide +kernel
theorem dX9_rules_66 : decode cX9_rules 66 = .ok (.invokespecial 108, 3) := by decide +kernel
theorem dX9_rules_69 : decode cX9_rules 69 = .ok (.astore 4, 2) := by decide +kernel
theorem dX9_rules_71 : decode cX9_rules 71 = .ok (.aload 4, 2) := by decide +kernel
theorem dX9_rules_73 : decode cX9_rules 73 = .ok (.aload_n 3, 1) := by decide +kernel
theorem dX9_rules_74 : decode cX9_rules 74 = .ok (.invokevirtual 111, 3) := by decide +kernel
theorem dX9_rules_77 : decode cX9_rules 77 = .ok (.aload 4, 2) := by decide +kernel
theorem dX9_rules_79 : decode cX9_rules 79 = .ok (.getfield 115, 3) := by decide +kernel
theorem dX9_rules_82 : decode cX9_rules 82 = .ok (.ifCond .eq 20, 3) := by decide +kernel
theorem dX9_rules_85 : decode cX9_rules 85 = .ok (.aload_n 0, 1) := by decide +kernel
theorem dX9_rules_86 : decode cX9_rules 86 = .ok (.aload 4, 2) := by decide +kernel
theorem dX9_rules_88 : decode cX9_rules 88 = .ok (.getfield 118, 3) := by decide +kernel
theorem dX9_rules_91 : decode cX9_rules 91 = .ok (.putfield 13, 3) := by decide +kernel
theorem dX9_rules_94 : decode cX9_rules 94 = .ok (.iconst (-1), 1) := by decide +kernel
theorem dX9_rules_95 : decode cX9_rules 95 = .ok (.aload 4, 2) := by decide +kernel
theorem dX9_rules_97 : decode cX9_rules 97 = .ok (.getfield 115, 3) := by decide +kernel
theorem dX9_rules_100 : decode cX9_rules 100 = .ok (.isub, 1) := by decide +kernel
theorem dX9_rules_101 : decode cX9_rules 101 = .ok (.ireturn, 1) := by decide +kernel
theorem dX9_rules_102 : decode cX9_rules 102 = .ok (.aload_n 0, 1) := by decide +kernel
theorem dX9_rules_103 : decode cX9_rules 103 = .ok (.getfield 19, 3) := by decide +kernel
theorem dX9_rules_106 : decode cX9_rules 106 = .ok (.aload_n 0, 1) := by decide +kernel
theorem dX9_rules_107 : decode cX9_rules 107 = .ok (.getfield 101, 3) := by decide +kernel
theorem dX9_rules_110 : decode cX9_rules 110 = .ok (.aload_n 3, 1) := by decide +kernel
theorem dX9_rules_111 : decode cX9_rules 111 = .ok (.aastore, 1) := by decide +kernel
theorem dX9_rules_112 : decode cX9_rules 112 = .ok (.aload_n 0, 1) := by decide +kernel
theorem dX9_rules_113 : decode cX9_rules 113 = .ok (.dup, 1) := by decide +kernel
theorem dX9_rules_114 : decode cX9_rules 114 = .ok (.getfield 101, 3) := by decide +kernel
theorem dX9_rules_117 : decode cX9_rules 117 = .ok (.iconst 1, 1) := by decide +kernel
theorem dX9_rules_118 : decode cX9_rules 118 = .ok (.iadd, 1) := by decide +kernel
theorem dX9_rules_119 : decode cX9_rules 119 = .ok (.putfield 101, 3) := by decide +kernel
theorem dX9_rules_122 : decode cX9_rules 122 = .ok (.aload_n 0, 1) := by decide +kernel
theorem dX9_rules_123 : decode cX9_rules 123 = .ok (.getfield 101, 3) := by decide +kernel
theorem dX9_rules_126 : decode cX9_rules 126 = .ok (.iconst 1, 1) := by decide +kernel
theorem dX9_rules_127 : decode cX9_rules 127 = .ok (.isub, 1) := by decide +kernel
theorem dX9_rules_128 : decode cX9_rules 128 = .ok (.ireturn, 1) := by decide +kernel
theorem dX9_fault_0 : decode cX9_fault 0 = .ok (.aload_n 0, 1) := by decide +kernel
theorem dX9_fault_1 : decode cX9_fault 1 = .ok (.getfield 13, 3) := by decide +kernel
theorem dX9_fault_4 : decode cX9_fault 4 = .ok (.ireturn, 1) := by decide +kernel
theorem dX9_thing_0 : decode cX9_thing 0 = .ok (.aload_n 0, 1) := by decide +kernel
theorem dX9_thing_1 : decode cX9_thing 1 = .ok (.getfield 119, 3) := by decide +kernel
theorem dX9_thing_4 : decode cX9_thing 4 = .ok (.bipush 30, 2) := by decide +kernel
theorem dX9_thing_6 : decode cX9_thing 6 = .ok (.if_icmp .ge 12, 3) := by decide +kernel
theorem dX9_thing_9 : decode cX9_thing 9 = .ok (.iload_n 1, 1) := by decide +kernel
theorem dX9_thing_10 : decode cX9_thing 10 = .ok (.ifCond .lt 8, 3) := by decide +kernel
theorem dX9_thing_13 : decode cX9_thing 13 = .ok (.iload_n 1, 1) := by decide +kernel
theorem dX9_thing_14 : decode cX9_thing 14 = .ok (.iconst 4, 1) := by decide +kernel
theorem dX9_thing_15 : decode cX9_thing 15 = .ok (.if_icmp .lt 5, 3) := by decide +kernel
theorem dX9_thing_18 : decode cX9_thing 18 = .ok (.iconst (-1), 1) := by decide +kernel
theorem dX9_thing_19 : decode cX9_thing 19 = .ok (.ireturn, 1) := by decide +kernel
theorem dX9_thing_20 : decode cX9_thing 20 = .ok (.aload_n 0, 1) := by decide +kernel
theorem dX9_thing_21 : decode cX9_thing 21 = .ok (.getfield 25, 3) := by decide +kernel
theorem dX9_thing_24 : decode cX9_thing 24 = .ok (.aload_n 0, 1) := by decide +kernel
theorem dX9_thing_25 : decode cX9_thing 25 = .ok (.getfield 119, 3) := by decide +kernel
theorem dX9_thing_28 : decode cX9_thing 28 = .ok (.new 23, 3) := by decide +kernel
theorem dX9_thing_31 : decode cX9_thing 31 = .ok (.dup, 1) := by decide +kernel
theorem dX9_thing_32 : decode cX9_thing 32 = .ok (.iload_n 1, 1) := by decide +kernel
theorem dX9_thing_33 : decode cX9_thing 33 = .ok (.invokespecial 122, 3) := by decide +kernel
theorem dX9_thing_36 : decode cX9_thing 36 = .ok (.aastore, 1) := by decide +kernel
theorem dX9_thing_37 : decode cX9_thing 37 = .ok (.aload_n 0, 1) := by decide +kernel
theorem dX9_thing_38 : decode cX9_thing 38 = .ok (.dup, 1) := by decide +kernel
theorem dX9_thing_39 : decode cX9_thing 39 = .ok (.getfield 119, 3) := by decide +kernel
theorem dX9_thing_42 : decode cX9_thing 42 = .ok (.iconst 1, 1) := by decide +kernel
theorem dX9_thing_43 : decode cX9_thing 43 = .ok (.iadd, 1) := by decide +kernel
theorem dX9_thing_44 : decode cX9_thing 44 = .ok (.putfield 119, 3) := by decide +kernel
theorem dX9_thing_47 : decode cX9_thing 47 = .ok (.aload_n 0, 1) := by decide +kernel
theorem dX9_thing_48 : decode cX9_thing 48 = .ok (.getfield 119, 3) := by decide +kernel
theorem dX9_thing_51 : decode cX9_thing 51 = .ok (.iconst 1, 1) := by decide +kernel
theorem dX9_thing_52 : decode cX9_thing 52 = .ok (.isub, 1) := by decide +kernel
theorem dX9_thing_53 : decode cX9_thing 53 = .ok (.ireturn, 1) := by decide +kernel
theorem dX9_fact_0 : decode cX9_fact 0 = .ok (.aload_n 0, 1) := by decide +kernel
theorem dX9_fact_1 : decode cX9_fact 1 = .ok (.iload_n 1, 1) := by decide +kernel
theorem dX9_fact_2 : decode cX9_fact 2 = .ok (.invokevirtual 123, 3) := by decide +kernel
theorem dX9_fact_5 : decode cX9_fact 5 = .ok (.astore 4, 2) := by decide +kernel
theorem dX9_fact_7 : decode cX9_fact 7 = .ok (.iload_n 2, 1) := by decide +kernel
theorem dX9_fact_8 : decode cX9_fact 8 = .ok (.ifCond .lt 8, 3) := by decide +kernel
theorem dX9_fact_11 : decode cX9_fact 11 = .ok (.iload_n 2, 1) := by decide +kernel
theorem dX9_fact_12 : decode cX9_fact 12 = .ok (.iconst 4, 1) := by decide +kernel
theorem dX9_fact_13 : decode cX9_fact 13 = .ok (.if_icmp .lt 13, 3) := by decide +kernel
theorem dX9_fact_16 : decode cX9_fact 16 = .ok (.new 127, 3) := by decide +kernel
theorem dX9_fact_19 : decode cX9_fact 19 = .ok (.dup, 1) := by decide +kernel
theorem dX9_fact_20 : decode cX9_fact 20 = .ok (.ldc 129, 2) := by decide +kernel
theorem dX9_fact_22 : decode cX9_fact 22 = .ok (.invokespecial 131, 3) := by decide +kernel
theorem dX9_fact_25 : decode cX9_fact 25 = .ok (.athrow, 1) := by decide +kernel
theorem dX9_fact_26 : decode cX9_fact 26 = .ok (.iload_n 3, 1) := by decide +kernel
theorem dX9_fact_27 : decode cX9_fact 27 = .ok (.ifCond .lt 10, 3) := by decide +kernel
theorem dX9_fact_30 : decode cX9_fact 30 = .ok (.iload_n 3, 1) := by decide +kernel
theorem dX9_fact_31 : decode cX9_fact 31 = .ok (.sipush 9999, 3) := by decide +kernel
theorem dX9_fact_34 : decode cX9_fact 34 = .ok (.if_icmp .le 13, 3) := by decide +kernel
theorem dX9_fact_37 : decode cX9_fact 37 = .ok (.new 56, 3) := by decide +kernel
theorem dX9_fact_40 : decode cX9_fact 40 = .ok (.dup, 1) := by decide +kernel
theorem dX9_fact_41 : decode cX9_fact 41 = .ok (.ldc 132, 2) := by decide +kernel
theorem dX9_fact_43 : decode cX9_fact 43 = .ok (.invokespecial 60, 3) := by decide +kernel
theorem dX9_fact_46 : decode cX9_fact 46 = .ok (.athrow, 1) := by decide +kernel
theorem dX9_fact_47 : decode cX9_fact 47 = .ok (.aload 4, 2) := by decide +kernel
theorem dX9_fact_49 : decode cX9_fact 49 = .ok (.getfield 134, 3) := by decide +kernel
theorem dX9_fact_52 : decode cX9_fact 52 = .ok (.iload_n 2, 1) := by decide +kernel
theorem dX9_fact_53 : decode cX9_fact 53 = .ok (.iaload, 1) := by decide +kernel
theorem dX9_fact_54 : decode cX9_fact 54 = .ok (.istore 5, 2) := by decide +kernel
theorem dX9_fact_56 : decode cX9_fact 56 = .ok (.aload 4, 2) := by decide +kernel
theorem dX9_fact_58 : decode cX9_fact 58 = .ok (.getfield 134, 3) := by decide +kernel
theorem dX9_fact_61 : decode cX9_fact 61 = .ok (.iload_n 2, 1) := by decide +kernel
theorem dX9_fact_62 : decode cX9_fact 62 = .ok (.iload_n 3, 1) := by decide +kernel
theorem dX9_fact_63 : decode cX9_fact 63 = .ok (.iastore, 1) := by decide +kernel
theorem dX9_fact_64 : decode cX9_fact 64 = .ok (.iload 5, 2) := by decide +kernel
theorem dX9_fact_66 : decode cX9_fact 66 = .ok (.ireturn, 1) := by decide +kernel
theorem dX9_event_0 : decode cX9_event 0 = .ok (.aload_n 0, 1) := by decide +kernel
theorem dX9_event_1 : decode cX9_event 1 = .ok (.iload_n 1, 1) := by decide +kernel
theorem dX9_event_2 : decode cX9_event 2 = .ok (.invokevirtual 123, 3) := by decide +kernel
theorem dX9_event_5 : decode cX9_event 5 = .ok (.astore 4, 2) := by decide +kernel
theorem dX9_event_7 : decode cX9_event 7 = .ok (.iload_n 2, 1) := by decide +kernel
theorem dX9_event_8 : decode cX9_event 8 = .ok (.ifCond .lt 8, 3) := by decide +kernel
theorem dX9_event_11 : decode cX9_event 11 = .ok (.iload_n 2, 1) := by decide +kernel
theorem dX9_event_12 : decode cX9_event 12 = .ok (.iconst 4, 1) := by decide +kernel
theorem dX9_event_13 : decode cX9_event 13 = .ok (.if_icmp .lt 13, 3) := by decide +kernel
theorem dX9_event_16 : decode cX9_event 16 = .ok (.new 127, 3) := by decide +kernel
theorem dX9_event_19 : decode cX9_event 19 = .ok (.dup, 1) := by decide +kernel
theorem dX9_event_20 : decode cX9_event 20 = .ok (.ldc 138, 2) := by decide +kernel
theorem dX9_event_22 : decode cX9_event 22 = .ok (.invokespecial 131, 3) := by decide +kernel
theorem dX9_event_25 : decode cX9_event 25 = .ok (.athrow, 1) := by decide +kernel
theorem dX9_event_26 : decode cX9_event 26 = .ok (.iload_n 3, 1) := by decide +kernel
theorem dX9_event_27 : decode cX9_event 27 = .ok (.iconst (-1), 1) := by decide +kernel
theorem dX9_event_28 : decode cX9_event 28 = .ok (.if_icmp .eq 7, 3) := by decide +kernel
theorem dX9_event_31 : decode cX9_event 31 = .ok (.iload_n 3, 1) := by decide +kernel
theorem dX9_event_32 : decode cX9_event 32 = .ok (.invokestatic 77, 3) := by decide +kernel
theorem dX9_event_35 : decode cX9_event 35 = .ok (.aload 4, 2) := by decide +kernel
theorem dX9_event_37 : decode cX9_event 37 = .ok (.getfield 140, 3) := by decide +kernel
theorem dX9_event_40 : decode cX9_event 40 = .ok (.iload_n 2, 1) := by decide +kernel
theorem dX9_event_41 : decode cX9_event 41 = .ok (.iaload, 1) := by decide +kernel
theorem dX9_event_42 : decode cX9_event 42 = .ok (.istore 5, 2) := by decide +kernel
theorem dX9_event_44 : decode cX9_event 44 = .ok (.aload 4, 2) := by decide +kernel
theorem dX9_event_46 : decode cX9_event 46 = .ok (.getfield 140, 3) := by decide +kernel
theorem dX9_event_49 : decode cX9_event 49 = .ok (.iload_n 2, 1) := by decide +kernel
theorem dX9_event_50 : decode cX9_event 50 = .ok (.iload_n 3, 1) := by decide +kernel
theorem dX9_event_51 : decode cX9_event 51 = .ok (.iastore, 1) := by decide +kernel
theorem dX9_event_52 : decode cX9_event 52 = .ok (.iload 5, 2) := by decide +kernel
theorem dX9_event_54 : decode cX9_event 54 = .ok (.ireturn, 1) := by decide +kernel
theorem dX9_copy_0 : decode cX9_copy 0 = .ok (.aload_n 0, 1) := by decide +kernel
theorem dX9_copy_1 : decode cX9_copy 1 = .ok (.iload_n 1, 1) := by decide +kernel
theorem dX9_copy_2 : decode cX9_copy 2 = .ok (.invokevirtual 123, 3) := by decide +kernel
theorem dX9_copy_5 : decode cX9_copy 5 = .ok (.astore 4, 2) := by decide +kernel
theorem dX9_copy_7 : decode cX9_copy 7 = .ok (.iload_n 2, 1) := by decide +kernel
theorem dX9_copy_8 : decode cX9_copy 8 = .ok (.invokestatic 143, 3) := by decide +kernel
theorem dX9_copy_11 : decode cX9_copy 11 = .ok (.iload_n 3, 1) := by decide +kernel
theorem dX9_copy_12 : decode cX9_copy 12 = .ok (.invokestatic 146, 3) := by decide +kernel
theorem dX9_copy_15 : decode cX9_copy 15 = .ok (.aload 4, 2) := by decide +kernel
theorem dX9_copy_17 : decode cX9_copy 17 = .ok (.iload_n 2, 1) := by decide +kernel
theorem dX9_copy_18 : decode cX9_copy 18 = .ok (.iload_n 3, 1) := by decide +kernel
theorem dX9_copy_19 : decode cX9_copy 19 = .ok (.invokevirtual 149, 3) := by decide +kernel
theorem dX9_copy_22 : decode cX9_copy 22 = .ok (.ifCond .ne 17, 3) := by decide +kernel
theorem dX9_copy_25 : decode cX9_copy 25 = .ok (.aload_n 0, 1) := by decide +kernel
theorem dX9_copy_26 : decode cX9_copy 26 = .ok (.aload 4, 2) := by decide +kernel
theorem dX9_copy_28 : decode cX9_copy 28 = .ok (.iload_n 2, 1) := by decide +kernel
theorem dX9_copy_29 : decode cX9_copy 29 = .ok (.invokevirtual 153, 3) := by decide +kernel
theorem dX9_copy_32 : decode cX9_copy 32 = .ok (.iload_n 3, 1) := by decide +kernel
theorem dX9_copy_33 : decode cX9_copy 33 = .ok (.ishr, 1) := by decide +kernel
theorem dX9_copy_34 : decode cX9_copy 34 = .ok (.iconst 1, 1) := by decide +kernel
theorem dX9_copy_35 : decode cX9_copy 35 = .ok (.iand, 1) := by decide +kernel
theorem dX9_copy_36 : decode cX9_copy 36 = .ok (.ifCond .ne 5, 3) := by decide +kernel
theorem dX9_copy_39 : decode cX9_copy 39 = .ok (.iconst 0, 1) := by decide +kernel
theorem dX9_copy_40 : decode cX9_copy 40 = .ok (.ireturn, 1) := by decide +kernel
theorem dX9_copy_41 : decode cX9_copy 41 = .ok (.aload 4, 2) := by decide +kernel
theorem dX9_copy_43 : decode cX9_copy 43 = .ok (.getfield 157, 3) := by decide +kernel
theorem dX9_copy_46 : decode cX9_copy 46 = .ok (.iload_n 2, 1) := by decide +kernel
theorem dX9_copy_47 : decode cX9_copy 47 = .ok (.dup2, 1) := by decide +kernel
theorem dX9_copy_48 : decode cX9_copy 48 = .ok (.iaload, 1) := by decide +kernel
theorem dX9_copy_49 : decode cX9_copy 49 = .ok (.iconst 1, 1) := by decide +kernel
theorem dX9_copy_50 : decode cX9_copy 50 = .ok (.iload_n 3, 1) := by decide +kernel
theorem dX9_copy_51 : decode cX9_copy 51 = .ok (.ishl, 1) := by decide +kernel
theorem dX9_copy_52 : decode cX9_copy 52 = .ok (.ior, 1) := by decide +kernel
theorem dX9_copy_53 : decode cX9_copy 53 = .ok (.iastore, 1) := by decide +kernel
theorem dX9_copy_54 : decode cX9_copy 54 = .ok (.iconst 1, 1) := by decide +kernel
theorem dX9_copy_55 : decode cX9_copy 55 = .ok (.ireturn, 1) := by decide +kernel
theorem dX9_copies_0 : decode cX9_copies 0 = .ok (.aload_n 0, 1) := by decide +kernel
theorem dX9_copies_1 : decode cX9_copies 1 = .ok (.iload_n 1, 1) := by decide +kernel
theorem dX9_copies_2 : decode cX9_copies 2 = .ok (.invokevirtual 123, 3) := by decide +kernel
theorem dX9_copies_5 : decode cX9_copies 5 = .ok (.astore_n 3, 1) := by decide +kernel
theorem dX9_copies_6 : decode cX9_copies 6 = .ok (.iload_n 2, 1) := by decide +kernel
theorem dX9_copies_7 : decode cX9_copies 7 = .ok (.invokestatic 143, 3) := by decide +kernel
theorem dX9_copies_10 : decode cX9_copies 10 = .ok (.aload_n 3, 1) := by decide +kernel
theorem dX9_copies_11 : decode cX9_copies 11 = .ok (.getfield 157, 3) := by decide +kernel
theorem dX9_copies_14 : decode cX9_copies 14 = .ok (.iload_n 2, 1) := by decide +kernel
theorem dX9_copies_15 : decode cX9_copies 15 = .ok (.iaload, 1) := by decide +kernel
theorem dX9_copies_16 : decode cX9_copies 16 = .ok (.ireturn, 1) := by decide +kernel
theorem dX9_store_0 : decode cX9_store 0 = .ok (.iload_n 1, 1) := by decide +kernel
theorem dX9_store_1 : decode cX9_store 1 = .ok (.invokestatic 146, 3) := by decide +kernel
theorem dX9_store_4 : decode cX9_store 4 = .ok (.iload_n 2, 1) := by decide +kernel
theorem dX9_store_5 : decode cX9_store 5 = .ok (.iconst 1, 1) := by decide +kernel
theorem dX9_store_6 : decode cX9_store 6 = .ok (.if_icmp .lt 21, 3) := by decide +kernel
theorem dX9_store_9 : decode cX9_store 9 = .ok (.iload_n 2, 1) := by decide +kernel
theorem dX9_store_10 : decode cX9_store 10 = .ok (.sipush 400, 3) := by decide +kernel
theorem dX9_store_13 : decode cX9_store 13 = .ok (.if_icmp .gt 14, 3) := by decide +kernel
theorem dX9_store_16 : decode cX9_store 16 = .ok (.iload_n 3, 1) := by decide +kernel
theorem dX9_store_17 : decode cX9_store 17 = .ok (.ifCond .lt 10, 3) := by decide +kernel
theorem dX9_store_20 : decode cX9_store 20 = .ok (.iload_n 3, 1) := by decide +kernel
theorem dX9_store_21 : decode cX9_store 21 = .ok (.sipush 399, 3) := by decide +kernel
theorem dX9_store_24 : decode cX9_store 24 = .ok (.if_icmp .le 13, 3) := by decide +kernel
theorem dX9_store_27 : decode cX9_store 27 = .ok (.new 56, 3) := by decide +kernel
theorem dX9_store_30 : decode cX9_store 30 = .ok (.dup, 1) := by decide +kernel
theorem dX9_store_31 : decode cX9_store 31 = .ok (.ldc 160, 2) := by decide +kernel
theorem dX9_store_33 : decode cX9_store 33 = .ok (.invokespecial 60, 3) := by decide +kernel
theorem dX9_store_36 : decode cX9_store 36 = .ok (.athrow, 1) := by decide +kernel
theorem dX9_store_37 : decode cX9_store 37 = .ok (.aload_n 0, 1) := by decide +kernel
theorem dX9_store_38 : decode cX9_store 38 = .ok (.getfield 31, 3) := by decide +kernel
theorem dX9_store_41 : decode cX9_store 41 = .ok (.iload_n 1, 1) := by decide +kernel
theorem dX9_store_42 : decode cX9_store 42 = .ok (.aaload, 1) := by decide +kernel
theorem dX9_store_43 : decode cX9_store 43 = .ok (.iload_n 2, 1) := by decide +kernel
theorem dX9_store_44 : decode cX9_store 44 = .ok (.putfield 162, 3) := by decide +kernel
theorem dX9_store_47 : decode cX9_store 47 = .ok (.aload_n 0, 1) := by decide +kernel
theorem dX9_store_48 : decode cX9_store 48 = .ok (.getfield 31, 3) := by decide +kernel
theorem dX9_store_51 : decode cX9_store 51 = .ok (.iload_n 1, 1) := by decide +kernel
theorem dX9_store_52 : decode cX9_store 52 = .ok (.aaload, 1) := by decide +kernel
theorem dX9_store_53 : decode cX9_store 53 = .ok (.iload_n 3, 1) := by decide +kernel
theorem dX9_store_54 : decode cX9_store 54 = .ok (.putfield 165, 3) := by decide +kernel
theorem dX9_store_57 : decode cX9_store 57 = .ok (.return_, 1) := by decide +kernel
theorem dX9_hold_0 : decode cX9_hold 0 = .ok (.aload_n 0, 1) := by decide +kernel
theorem dX9_hold_1 : decode cX9_hold 1 = .ok (.iload_n 1, 1) := by decide +kernel
theorem dX9_hold_2 : decode cX9_hold 2 = .ok (.invokevirtual 123, 3) := by decide +kernel
theorem dX9_hold_5 : decode cX9_hold 5 = .ok (.astore_n 3, 1) := by decide +kernel
theorem dX9_hold_6 : decode cX9_hold 6 = .ok (.aload_n 0, 1) := by decide +kernel
theorem dX9_hold_7 : decode cX9_hold 7 = .ok (.getfield 168, 3) := by decide +kernel
theorem dX9_hold_10 : decode cX9_hold 10 = .ok (.bipush 40, 2) := by decide +kernel
theorem dX9_hold_12 : decode cX9_hold 12 = .ok (.if_icmp .ge 15, 3) := by decide +kernel
theorem dX9_hold_15 : decode cX9_hold 15 = .ok (.iload_n 2, 1) := by decide +kernel
theorem dX9_hold_16 : decode cX9_hold 16 = .ok (.iconst 1, 1) := by decide +kernel
theorem dX9_hold_17 : decode cX9_hold 17 = .ok (.if_icmp .lt 10, 3) := by decide +kernel
theorem dX9_hold_20 : decode cX9_hold 20 = .ok (.iload_n 2, 1) := by decide +kernel
theorem dX9_hold_21 : decode cX9_hold 21 = .ok (.sipush 255, 3) := by decide +kernel
theorem dX9_hold_24 : decode cX9_hold 24 = .ok (.if_icmp .le 5, 3) := by decide +kernel
theorem dX9_hold_27 : decode cX9_hold 27 = .ok (.iconst (-1), 1) := by decide +kernel
theorem dX9_hold_28 : decode cX9_hold 28 = .ok (.ireturn, 1) := by decide +kernel
theorem dX9_hold_29 : decode cX9_hold 29 = .ok (.aload_n 0, 1) := by decide +kernel
theorem dX9_hold_30 : decode cX9_hold 30 = .ok (.getfield 38, 3) := by decide +kernel
theorem dX9_hold_33 : decode cX9_hold 33 = .ok (.aload_n 0, 1) := by decide +kernel
theorem dX9_hold_34 : decode cX9_hold 34 = .ok (.getfield 168, 3) := by decide +kernel
theorem dX9_hold_37 : decode cX9_hold 37 = .ok (.new 36, 3) := by decide +kernel
theorem dX9_hold_40 : decode cX9_hold 40 = .ok (.dup, 1) := by decide +kernel
theorem dX9_hold_41 : decode cX9_hold 41 = .ok (.aload_n 3, 1) := by decide +kernel
theorem dX9_hold_42 : decode cX9_hold 42 = .ok (.iload_n 2, 1) := by decide +kernel
theorem dX9_hold_43 : decode cX9_hold 43 = .ok (.invokespecial 171, 3) := by decide +kernel
theorem dX9_hold_46 : decode cX9_hold 46 = .ok (.aastore, 1) := by decide +kernel
theorem dX9_hold_47 : decode cX9_hold 47 = .ok (.aload_n 0, 1) := by decide +kernel
theorem dX9_hold_48 : decode cX9_hold 48 = .ok (.dup, 1) := by decide +kernel
theorem dX9_hold_49 : decode cX9_hold 49 = .ok (.getfield 168, 3) := by decide +kernel
theorem dX9_hold_52 : decode cX9_hold 52 = .ok (.iconst 1, 1) := by decide +kernel
theorem dX9_hold_53 : decode cX9_hold 53 = .ok (.iadd, 1) := by decide +kernel
theorem dX9_hold_54 : decode cX9_hold 54 = .ok (.putfield 168, 3) := by decide +kernel
theorem dX9_hold_57 : decode cX9_hold 57 = .ok (.aload_n 3, 1) := by decide +kernel
theorem dX9_hold_58 : decode cX9_hold 58 = .ok (.dup, 1) := by decide +kernel
theorem dX9_hold_59 : decode cX9_hold 59 = .ok (.getfield 174, 3) := by decide +kernel
theorem dX9_hold_62 : decode cX9_hold 62 = .ok (.iload_n 2, 1) := by decide +kernel
theorem dX9_hold_63 : decode cX9_hold 63 = .ok (.ior, 1) := by decide +kernel
theorem dX9_hold_64 : decode cX9_hold 64 = .ok (.putfield 174, 3) := by decide +kernel
theorem dX9_hold_67 : decode cX9_hold 67 = .ok (.aload_n 0, 1) := by decide +kernel
theorem dX9_hold_68 : decode cX9_hold 68 = .ok (.getfield 168, 3) := by decide +kernel
theorem dX9_hold_71 : decode cX9_hold 71 = .ok (.iconst 1, 1) := by decide +kernel
theorem dX9_hold_72 : decode cX9_hold 72 = .ok (.isub, 1) := by decide +kernel
theorem dX9_hold_73 : decode cX9_hold 73 = .ok (.ireturn, 1) := by decide +kernel
theorem dX9_lift_0 : decode cX9_lift 0 = .ok (.iload_n 1, 1) := by decide +kernel
theorem dX9_lift_1 : decode cX9_lift 1 = .ok (.ifCond .lt 11, 3) := by decide +kernel
theorem dX9_lift_4 : decode cX9_lift 4 = .ok (.iload_n 1, 1) := by decide +kernel
theorem dX9_lift_5 : decode cX9_lift 5 = .ok (.aload_n 0, 1) := by decide +kernel
theorem dX9_lift_6 : decode cX9_lift 6 = .ok (.getfield 168, 3) := by decide +kernel
theorem dX9_lift_9 : decode cX9_lift 9 = .ok (.if_icmp .lt 13, 3) := by decide +kernel
theorem dX9_lift_12 : decode cX9_lift 12 = .ok (.new 127, 3) := by decide +kernel
theorem dX9_lift_15 : decode cX9_lift 15 = .ok (.dup, 1) := by decide +kernel
theorem dX9_lift_16 : decode cX9_lift 16 = .ok (.ldc 177, 2) := by decide +kernel
theorem dX9_lift_18 : decode cX9_lift 18 = .ok (.invokespecial 131, 3) := by decide +kernel
theorem dX9_lift_21 : decode cX9_lift 21 = .ok (.athrow, 1) := by decide +kernel
theorem dX9_lift_22 : decode cX9_lift 22 = .ok (.aload_n 0, 1) := by decide +kernel
theorem dX9_lift_23 : decode cX9_lift 23 = .ok (.getfield 38, 3) := by decide +kernel
theorem dX9_lift_26 : decode cX9_lift 26 = .ok (.iload_n 1, 1) := by decide +kernel
theorem dX9_lift_27 : decode cX9_lift 27 = .ok (.aaload, 1) := by decide +kernel
theorem dX9_lift_28 : decode cX9_lift 28 = .ok (.astore_n 2, 1) := by decide +kernel
theorem dX9_lift_29 : decode cX9_lift 29 = .ok (.aload_n 2, 1) := by decide +kernel
theorem dX9_lift_30 : decode cX9_lift 30 = .ok (.getfield 179, 3) := by decide +kernel
theorem dX9_lift_33 : decode cX9_lift 33 = .ok (.ifCond .eq 5, 3) := by decide +kernel
theorem dX9_lift_36 : decode cX9_lift 36 = .ok (.iconst 0, 1) := by decide +kernel
theorem dX9_lift_37 : decode cX9_lift 37 = .ok (.ireturn, 1) := by decide +kernel
theorem dX9_lift_38 : decode cX9_lift 38 = .ok (.aload_n 2, 1) := by decide +kernel
theorem dX9_lift_39 : decode cX9_lift 39 = .ok (.iconst 1, 1) := by decide +kernel
theorem dX9_lift_40 : decode cX9_lift 40 = .ok (.putfield 179, 3) := by decide +kernel
theorem dX9_lift_43 : decode cX9_lift 43 = .ok (.aload_n 2, 1) := by decide +kernel
theorem dX9_lift_44 : decode cX9_lift 44 = .ok (.getfield 183, 3) := by decide +kernel
theorem dX9_lift_47 : decode cX9_lift 47 = .ok (.aload_n 0, 1) := by decide +kernel
theorem dX9_lift_48 : decode cX9_lift 48 = .ok (.aload_n 2, 1) := by decide +kernel
theorem dX9_lift_49 : decode cX9_lift 49 = .ok (.getfield 183, 3) := by decide +kernel
theorem dX9_lift_52 : decode cX9_lift 52 = .ok (.invokevirtual 187, 3) := by decide +kernel
theorem dX9_lift_55 : decode cX9_lift 55 = .ok (.putfield 174, 3) := by decide +kernel
theorem dX9_lift_58 : decode cX9_lift 58 = .ok (.iconst 1, 1) := by decide +kernel
theorem dX9_lift_59 : decode cX9_lift 59 = .ok (.ireturn, 1) := by decide +kernel
theorem dX9_wish_0 : decode cX9_wish 0 = .ok (.aload_n 0, 1) := by decide +kernel
theorem dX9_wish_1 : decode cX9_wish 1 = .ok (.iload_n 1, 1) := by decide +kernel
theorem dX9_wish_2 : decode cX9_wish 2 = .ok (.invokevirtual 123, 3) := by decide +kernel
theorem dX9_wish_5 : decode cX9_wish 5 = .ok (.astore_n 2, 1) := by decide +kernel
theorem dX9_wish_6 : decode cX9_wish 6 = .ok (.aload_n 2, 1) := by decide +kernel
theorem dX9_wish_7 : decode cX9_wish 7 = .ok (.iconst 1, 1) := by decide +kernel
theorem dX9_wish_8 : decode cX9_wish 8 = .ok (.putfield 191, 3) := by decide +kernel
theorem dX9_wish_11 : decode cX9_wish 11 = .ok (.aload_n 0, 1) := by decide +kernel
theorem dX9_wish_12 : decode cX9_wish 12 = .ok (.invokevirtual 194, 3) := by decide +kernel
theorem dX9_wish_15 : decode cX9_wish 15 = .ok (.astore_n 3, 1) := by decide +kernel
theorem dX9_wish_16 : decode cX9_wish 16 = .ok (.iconst 0, 1) := by decide +kernel
theorem dX9_wish_17 : decode cX9_wish 17 = .ok (.istore 4, 2) := by decide +kernel
theorem dX9_wish_19 : decode cX9_wish 19 = .ok (.iconst 0, 1) := by decide +kernel
theorem dX9_wish_20 : decode cX9_wish 20 = .ok (.istore 5, 2) := by decide +kernel
theorem dX9_wish_22 : decode cX9_wish 22 = .ok (.iload 5, 2) := by decide +kernel
theorem dX9_wish_24 : decode cX9_wish 24 = .ok (.bipush 8, 2) := by decide +kernel
theorem dX9_wish_26 : decode cX9_wish 26 = .ok (.if_icmp .ge 57, 3) := by decide +kernel
theorem dX9_wish_29 : decode cX9_wish 29 = .ok (.aload_n 2, 1) := by decide +kernel
theorem dX9_wish_30 : decode cX9_wish 30 = .ok (.getfield 157, 3) := by decide +kernel
theorem dX9_wish_33 : decode cX9_wish 33 = .ok (.iload 5, 2) := by decide +kernel
theorem dX9_wish_35 : decode cX9_wish 35 = .ok (.iaload, 1) := by decide +kernel
theorem dX9_wish_36 : decode cX9_wish 36 = .ok (.ifCond .eq 41, 3) := by decide +kernel
theorem dX9_wish_39 : decode cX9_wish 39 = .ok (.aload_n 0, 1) := by decide +kernel
theorem dX9_wish_40 : decode cX9_wish 40 = .ok (.getfield 52, 3) := by decide +kernel
theorem dX9_wish_43 : decode cX9_wish 43 = .ok (.aload_n 2, 1) := by decide +kernel
theorem dX9_wish_44 : decode cX9_wish 44 = .ok (.iload 5, 2) := by decide +kernel
theorem dX9_wish_46 : decode cX9_wish 46 = .ok (.aload_n 3, 1) := by decide +kernel
theorem dX9_wish_47 : decode cX9_wish 47 = .ok (.invokevirtual 198, 3) := by decide +kernel
theorem dX9_wish_50 : decode cX9_wish 50 = .ok (.iload 4, 2) := by decide +kernel
theorem dX9_wish_52 : decode cX9_wish 52 = .ok (.aload_n 0, 1) := by decide +kernel
theorem dX9_wish_53 : decode cX9_wish 53 = .ok (.getfield 52, 3) := by decide +kernel
theorem dX9_wish_56 : decode cX9_wish 56 = .ok (.aload_n 0, 1) := by decide +kernel
theorem dX9_wish_57 : decode cX9_wish 57 = .ok (.getfield 202, 3) := by decide +kernel
theorem dX9_wish_60 : decode cX9_wish 60 = .ok (.invokevirtual 205, 3) := by decide +kernel
theorem dX9_wish_63 : decode cX9_wish 63 = .ok (.ifCond .eq 10, 3) := by decide +kernel
theorem dX9_wish_66 : decode cX9_wish 66 = .ok (.iconst 1, 1) := by decide +kernel
theorem dX9_wish_67 : decode cX9_wish 67 = .ok (.iload 5, 2) := by decide +kernel
theorem dX9_wish_69 : decode cX9_wish 69 = .ok (.ishl, 1) := by decide +kernel
theorem dX9_wish_70 : decode cX9_wish 70 = .ok (.goto 4, 3) := by decide +kernel
theorem dX9_wish_73 : decode cX9_wish 73 = .ok (.iconst 0, 1) := by decide +kernel
theorem dX9_wish_74 : decode cX9_wish 74 = .ok (.ior, 1) := by decide +kernel
theorem dX9_wish_75 : decode cX9_wish 75 = .ok (.istore 4, 2) := by decide +kernel
theorem dX9_wish_77 : decode cX9_wish 77 = .ok (.iinc 5 1, 3) := by decide +kernel
theorem dX9_wish_80 : decode cX9_wish 80 = .ok (.goto (-58), 3) := by decide +kernel
theorem dX9_wish_83 : decode cX9_wish 83 = .ok (.iload 4, 2) := by decide +kernel
theorem dX9_wish_85 : decode cX9_wish 85 = .ok (.ireturn, 1) := by decide +kernel
theorem dX9_span_0 : decode cX9_span 0 = .ok (.aload_n 0, 1) := by decide +kernel
theorem dX9_span_1 : decode cX9_span 1 = .ok (.iload_n 1, 1) := by decide +kernel
theorem dX9_span_2 : decode cX9_span 2 = .ok (.invokevirtual 123, 3) := by decide +kernel
theorem dX9_span_5 : decode cX9_span 5 = .ok (.astore 5, 2) := by decide +kernel
theorem dX9_span_7 : decode cX9_span 7 = .ok (.iload_n 2, 1) := by decide +kernel
theorem dX9_span_8 : decode cX9_span 8 = .ok (.invokestatic 143, 3) := by decide +kernel
theorem dX9_span_11 : decode cX9_span 11 = .ok (.aload_n 0, 1) := by decide +kernel
theorem dX9_span_12 : decode cX9_span 12 = .ok (.getfield 52, 3) := by decide +kernel
theorem dX9_span_15 : decode cX9_span 15 = .ok (.aload 5, 2) := by decide +kernel
theorem dX9_span_17 : decode cX9_span 17 = .ok (.iload_n 2, 1) := by decide +kernel
theorem dX9_span_18 : decode cX9_span 18 = .ok (.aload_n 0, 1) := by decide +kernel
theorem dX9_span_19 : decode cX9_span 19 = .ok (.iload_n 3, 1) := by decide +kernel
theorem dX9_span_20 : decode cX9_span 20 = .ok (.invokevirtual 209, 3) := by decide +kernel
theorem dX9_span_23 : decode cX9_span 23 = .ok (.invokevirtual 198, 3) := by decide +kernel
theorem dX9_span_26 : decode cX9_span 26 = .ok (.iload 4, 2) := by decide +kernel
theorem dX9_span_28 : decode cX9_span 28 = .ok (.tableswitch 76 0 4 #[36, 44, 52, 60, 68], 36) := by decide +kernel
theorem dX9_span_64 : decode cX9_span 64 = .ok (.aload_n 0, 1) := by decide +kernel
theorem dX9_span_65 : decode cX9_span 65 = .ok (.getfield 52, 3) := by decide +kernel
theorem dX9_span_68 : decode cX9_span 68 = .ok (.getfield 213, 3) := by decide +kernel
theorem dX9_span_71 : decode cX9_span 71 = .ok (.ireturn, 1) := by decide +kernel
theorem dX9_span_72 : decode cX9_span 72 = .ok (.aload_n 0, 1) := by decide +kernel
theorem dX9_span_73 : decode cX9_span 73 = .ok (.getfield 52, 3) := by decide +kernel
theorem dX9_span_76 : decode cX9_span 76 = .ok (.getfield 216, 3) := by decide +kernel
theorem dX9_span_79 : decode cX9_span 79 = .ok (.ireturn, 1) := by decide +kernel
theorem dX9_span_80 : decode cX9_span 80 = .ok (.aload_n 0, 1) := by decide +kernel
theorem dX9_span_81 : decode cX9_span 81 = .ok (.getfield 52, 3) := by decide +kernel
theorem dX9_span_84 : decode cX9_span 84 = .ok (.getfield 219, 3) := by decide +kernel
theorem dX9_span_87 : decode cX9_span 87 = .ok (.ireturn, 1) := by decide +kernel
theorem dX9_span_88 : decode cX9_span 88 = .ok (.aload_n 0, 1) := by decide +kernel
theorem dX9_span_89 : decode cX9_span 89 = .ok (.getfield 52, 3) := by decide +kernel
theorem dX9_span_92 : decode cX9_span 92 = .ok (.getfield 222, 3) := by decide +kernel
theorem dX9_span_95 : decode cX9_span 95 = .ok (.ireturn, 1) := by decide +kernel
theorem dX9_span_96 : decode cX9_span 96 = .ok (.aload_n 0, 1) := by decide +kernel
theorem dX9_span_97 : decode cX9_span 97 = .ok (.getfield 52, 3) := by decide +kernel
theorem dX9_span_100 : decode cX9_span 100 = .ok (.getfield 225, 3) := by decide +kernel
theorem dX9_span_103 : decode cX9_span 103 = .ok (.ireturn, 1) := by decide +kernel
theorem dX9_span_104 : decode cX9_span 104 = .ok (.new 127, 3) := by decide +kernel
theorem dX9_span_107 : decode cX9_span 107 = .ok (.dup, 1) := by decide +kernel
theorem dX9_span_108 : decode cX9_span 108 = .ok (.ldc 228, 2) := by decide +kernel
theorem dX9_span_110 : decode cX9_span 110 = .ok (.invokespecial 131, 3) := by decide +kernel
theorem dX9_span_113 : decode cX9_span 113 = .ok (.athrow, 1) := by decide +kernel
theorem dX9_lost_0 : decode cX9_lost 0 = .ok (.aload_n 0, 1) := by decide +kernel
theorem dX9_lost_1 : decode cX9_lost 1 = .ok (.iload_n 1, 1) := by decide +kernel
theorem dX9_lost_2 : decode cX9_lost 2 = .ok (.invokevirtual 123, 3) := by decide +kernel
theorem dX9_lost_5 : decode cX9_lost 5 = .ok (.astore 5, 2) := by decide +kernel
theorem dX9_lost_7 : decode cX9_lost 7 = .ok (.iload_n 2, 1) := by decide +kernel
theorem dX9_lost_8 : decode cX9_lost 8 = .ok (.invokestatic 143, 3) := by decide +kernel
theorem dX9_lost_11 : decode cX9_lost 11 = .ok (.aload_n 0, 1) := by decide +kernel
theorem dX9_lost_12 : decode cX9_lost 12 = .ok (.getfield 52, 3) := by decide +kernel
theorem dX9_lost_15 : decode cX9_lost 15 = .ok (.aload 5, 2) := by decide +kernel
theorem dX9_lost_17 : decode cX9_lost 17 = .ok (.iload_n 2, 1) := by decide +kernel
theorem dX9_lost_18 : decode cX9_lost 18 = .ok (.aload_n 0, 1) := by decide +kernel
theorem dX9_lost_19 : decode cX9_lost 19 = .ok (.iload_n 3, 1) := by decide +kernel
theorem dX9_lost_20 : decode cX9_lost 20 = .ok (.invokevirtual 209, 3) := by decide +kernel
theorem dX9_lost_23 : decode cX9_lost 23 = .ok (.invokevirtual 198, 3) := by decide +kernel
theorem dX9_lost_26 : decode cX9_lost 26 = .ok (.iload 4, 2) := by decide +kernel
theorem dX9_lost_28 : decode cX9_lost 28 = .ok (.ifCond .lt 15, 3) := by decide +kernel
theorem dX9_lost_31 : decode cX9_lost 31 = .ok (.iload 4, 2) := by decide +kernel
theorem dX9_lost_33 : decode cX9_lost 33 = .ok (.aload_n 0, 1) := by decide +kernel
theorem dX9_lost_34 : decode cX9_lost 34 = .ok (.getfield 52, 3) := by decide +kernel
theorem dX9_lost_37 : decode cX9_lost 37 = .ok (.getfield 225, 3) := by decide +kernel
theorem dX9_lost_40 : decode cX9_lost 40 = .ok (.if_icmp .lt 13, 3) := by decide +kernel
theorem dX9_lost_43 : decode cX9_lost 43 = .ok (.new 127, 3) := by decide +kernel
theorem dX9_lost_46 : decode cX9_lost 46 = .ok (.dup, 1) := by decide +kernel
theorem dX9_lost_47 : decode cX9_lost 47 = .ok (.ldc 230, 2) := by decide +kernel
theorem dX9_lost_49 : decode cX9_lost 49 = .ok (.invokespecial 131, 3) := by decide +kernel
theorem dX9_lost_52 : decode cX9_lost 52 = .ok (.athrow, 1) := by decide +kernel
theorem dX9_lost_53 : decode cX9_lost 53 = .ok (.aload_n 0, 1) := by decide +kernel
theorem dX9_lost_54 : decode cX9_lost 54 = .ok (.getfield 52, 3) := by decide +kernel
theorem dX9_lost_57 : decode cX9_lost 57 = .ok (.getfield 232, 3) := by decide +kernel
theorem dX9_lost_60 : decode cX9_lost 60 = .ok (.iload 4, 2) := by decide +kernel
theorem dX9_lost_62 : decode cX9_lost 62 = .ok (.iaload, 1) := by decide +kernel
theorem dX9_lost_63 : decode cX9_lost 63 = .ok (.ireturn, 1) := by decide +kernel
theorem dX9_why_0 : decode cX9_why 0 = .ok (.aload_n 0, 1) := by decide +kernel
theorem dX9_why_1 : decode cX9_why 1 = .ok (.iload_n 1, 1) := by decide +kernel
theorem dX9_why_2 : decode cX9_why 2 = .ok (.invokevirtual 123, 3) := by decide +kernel
theorem dX9_why_5 : decode cX9_why 5 = .ok (.astore_n 3, 1) := by decide +kernel
theorem dX9_why_6 : decode cX9_why 6 = .ok (.iload_n 2, 1) := by decide +kernel
theorem dX9_why_7 : decode cX9_why 7 = .ok (.invokestatic 143, 3) := by decide +kernel
theorem dX9_why_10 : decode cX9_why 10 = .ok (.aload_n 0, 1) := by decide +kernel
theorem dX9_why_11 : decode cX9_why 11 = .ok (.getfield 52, 3) := by decide +kernel
theorem dX9_why_14 : decode cX9_why 14 = .ok (.aload_n 3, 1) := by decide +kernel
theorem dX9_why_15 : decode cX9_why 15 = .ok (.iload_n 2, 1) := by decide +kernel
theorem dX9_why_16 : decode cX9_why 16 = .ok (.aload_n 0, 1) := by decide +kernel
theorem dX9_why_17 : decode cX9_why 17 = .ok (.invokevirtual 194, 3) := by decide +kernel
theorem dX9_why_20 : decode cX9_why 20 = .ok (.invokevirtual 198, 3) := by decide +kernel
theorem dX9_why_23 : decode cX9_why 23 = .ok (.aload_n 0, 1) := by decide +kernel
theorem dX9_why_24 : decode cX9_why 24 = .ok (.getfield 52, 3) := by decide +kernel
theorem dX9_why_27 : decode cX9_why 27 = .ok (.getfield 235, 3) := by decide +kernel
theorem dX9_why_30 : decode cX9_why 30 = .ok (.ifCond .eq 5, 3) := by decide +kernel
theorem dX9_why_33 : decode cX9_why 33 = .ok (.iconst 1, 1) := by decide +kernel
theorem dX9_why_34 : decode cX9_why 34 = .ok (.ireturn, 1) := by decide +kernel
theorem dX9_why_35 : decode cX9_why 35 = .ok (.aload_n 0, 1) := by decide +kernel
theorem dX9_why_36 : decode cX9_why 36 = .ok (.getfield 52, 3) := by decide +kernel
theorem dX9_why_39 : decode cX9_why 39 = .ok (.getfield 213, 3) := by decide +kernel
theorem dX9_why_42 : decode cX9_why 42 = .ok (.aload_n 0, 1) := by decide +kernel
theorem dX9_why_43 : decode cX9_why 43 = .ok (.getfield 202, 3) := by decide +kernel
theorem dX9_why_46 : decode cX9_why 46 = .ok (.if_icmp .le 5, 3) := by decide +kernel
theorem dX9_why_49 : decode cX9_why 49 = .ok (.iconst 2, 1) := by decide +kernel
theorem dX9_why_50 : decode cX9_why 50 = .ok (.ireturn, 1) := by decide +kernel
theorem dX9_why_51 : decode cX9_why 51 = .ok (.aload_n 0, 1) := by decide +kernel
theorem dX9_why_52 : decode cX9_why 52 = .ok (.getfield 52, 3) := by decide +kernel
theorem dX9_why_55 : decode cX9_why 55 = .ok (.aload_n 0, 1) := by decide +kernel
theorem dX9_why_56 : decode cX9_why 56 = .ok (.getfield 202, 3) := by decide +kernel
theorem dX9_why_59 : decode cX9_why 59 = .ok (.invokevirtual 205, 3) := by decide +kernel
theorem dX9_why_62 : decode cX9_why 62 = .ok (.ifCond .eq 7, 3) := by decide +kernel
theorem dX9_why_65 : decode cX9_why 65 = .ok (.iconst 0, 1) := by decide +kernel
theorem dX9_why_66 : decode cX9_why 66 = .ok (.goto 4, 3) := by decide +kernel
theorem dX9_why_69 : decode cX9_why 69 = .ok (.iconst 3, 1) := by decide +kernel
theorem dX9_why_70 : decode cX9_why 70 = .ok (.ireturn, 1) := by decide +kernel
theorem dX9_places_0 : decode cX9_places 0 = .ok (.aload_n 0, 1) := by decide +kernel
theorem dX9_places_1 : decode cX9_places 1 = .ok (.iload_n 1, 1) := by decide +kernel
theorem dX9_places_2 : decode cX9_places 2 = .ok (.invokevirtual 123, 3) := by decide +kernel
theorem dX9_places_5 : decode cX9_places 5 = .ok (.astore_n 3, 1) := by decide +kernel
theorem dX9_places_6 : decode cX9_places 6 = .ok (.iload_n 2, 1) := by decide +kernel
theorem dX9_places_7 : decode cX9_places 7 = .ok (.invokestatic 143, 3) := by decide +kernel
theorem dX9_places_10 : decode cX9_places 10 = .ok (.aload_n 0, 1) := by decide +kernel
theorem dX9_places_11 : decode cX9_places 11 = .ok (.aload_n 3, 1) := by decide +kernel
theorem dX9_places_12 : decode cX9_places 12 = .ok (.iload_n 2, 1) := by decide +kernel
theorem dX9_places_13 : decode cX9_places 13 = .ok (.invokevirtual 153, 3) := by decide +kernel
theorem dX9_places_16 : decode cX9_places 16 = .ok (.ireturn, 1) := by decide +kernel
theorem dX9_misplaced_0 : decode cX9_misplaced 0 = .ok (.iconst 0, 1) := by decide +kernel
theorem dX9_misplaced_1 : decode cX9_misplaced 1 = .ok (.istore_n 1, 1) := by decide +kernel
theorem dX9_misplaced_2 : decode cX9_misplaced 2 = .ok (.iconst 0, 1) := by decide +kernel
theorem dX9_misplaced_3 : decode cX9_misplaced 3 = .ok (.istore_n 2, 1) := by decide +kernel
theorem dX9_misplaced_4 : decode cX9_misplaced 4 = .ok (.iload_n 2, 1) := by decide +kernel
theorem dX9_misplaced_5 : decode cX9_misplaced 5 = .ok (.aload_n 0, 1) := by decide +kernel
theorem dX9_misplaced_6 : decode cX9_misplaced 6 = .ok (.getfield 119, 3) := by decide +kernel
theorem dX9_misplaced_9 : decode cX9_misplaced 9 = .ok (.if_icmp .ge 63, 3) := by decide +kernel
theorem dX9_misplaced_12 : decode cX9_misplaced 12 = .ok (.iconst 0, 1) := by decide +kernel
theorem dX9_misplaced_13 : decode cX9_misplaced 13 = .ok (.istore_n 3, 1) := by decide +kernel
theorem dX9_misplaced_14 : decode cX9_misplaced 14 = .ok (.iload_n 3, 1) := by decide +kernel
theorem dX9_misplaced_15 : decode cX9_misplaced 15 = .ok (.bipush 8, 2) := by decide +kernel
theorem dX9_misplaced_17 : decode cX9_misplaced 17 = .ok (.if_icmp .ge 49, 3) := by decide +kernel
theorem dX9_misplaced_20 : decode cX9_misplaced 20 = .ok (.aload_n 0, 1) := by decide +kernel
theorem dX9_misplaced_21 : decode cX9_misplaced 21 = .ok (.getfield 25, 3) := by decide +kernel
theorem dX9_misplaced_24 : decode cX9_misplaced 24 = .ok (.iload_n 2, 1) := by decide +kernel
theorem dX9_misplaced_25 : decode cX9_misplaced 25 = .ok (.aaload, 1) := by decide +kernel
theorem dX9_misplaced_26 : decode cX9_misplaced 26 = .ok (.getfield 157, 3) := by decide +kernel
theorem dX9_misplaced_29 : decode cX9_misplaced 29 = .ok (.iload_n 3, 1) := by decide +kernel
theorem dX9_misplaced_30 : decode cX9_misplaced 30 = .ok (.iaload, 1) := by decide +kernel
theorem dX9_misplaced_31 : decode cX9_misplaced 31 = .ok (.istore 4, 2) := by decide +kernel
theorem dX9_misplaced_33 : decode cX9_misplaced 33 = .ok (.iload 4, 2) := by decide +kernel
theorem dX9_misplaced_35 : decode cX9_misplaced 35 = .ok (.ifCond .eq 25, 3) := by decide +kernel
theorem dX9_misplaced_38 : decode cX9_misplaced 38 = .ok (.iload_n 1, 1) := by decide +kernel
theorem dX9_misplaced_39 : decode cX9_misplaced 39 = .ok (.iload 4, 2) := by decide +kernel
theorem dX9_misplaced_41 : decode cX9_misplaced 41 = .ok (.aload_n 0, 1) := by decide +kernel
theorem dX9_misplaced_42 : decode cX9_misplaced 42 = .ok (.aload_n 0, 1) := by decide +kernel
theorem dX9_misplaced_43 : decode cX9_misplaced 43 = .ok (.getfield 25, 3) := by decide +kernel
theorem dX9_misplaced_46 : decode cX9_misplaced 46 = .ok (.iload_n 2, 1) := by decide +kernel
theorem dX9_misplaced_47 : decode cX9_misplaced 47 = .ok (.aaload, 1) := by decide +kernel
theorem dX9_misplaced_48 : decode cX9_misplaced 48 = .ok (.iload_n 3, 1) := by decide +kernel
theorem dX9_misplaced_49 : decode cX9_misplaced 49 = .ok (.invokevirtual 153, 3) := by decide +kernel
theorem dX9_misplaced_52 : decode cX9_misplaced 52 = .ok (.iconst (-1), 1) := by decide +kernel
theorem dX9_misplaced_53 : decode cX9_misplaced 53 = .ok (.ixor, 1) := by decide +kernel
theorem dX9_misplaced_54 : decode cX9_misplaced 54 = .ok (.iand, 1) := by decide +kernel
theorem dX9_misplaced_55 : decode cX9_misplaced 55 = .ok (.invokestatic 238, 3) := by decide +kernel
theorem dX9_misplaced_58 : decode cX9_misplaced 58 = .ok (.iadd, 1) := by decide +kernel
theorem dX9_misplaced_59 : decode cX9_misplaced 59 = .ok (.istore_n 1, 1) := by decide +kernel
theorem dX9_misplaced_60 : decode cX9_misplaced 60 = .ok (.iinc 3 1, 3) := by decide +kernel
theorem dX9_misplaced_63 : decode cX9_misplaced 63 = .ok (.goto (-49), 3) := by decide +kernel
theorem dX9_misplaced_66 : decode cX9_misplaced 66 = .ok (.iinc 2 1, 3) := by decide +kernel
theorem dX9_misplaced_69 : decode cX9_misplaced 69 = .ok (.goto (-65), 3) := by decide +kernel
theorem dX9_misplaced_72 : decode cX9_misplaced 72 = .ok (.iload_n 1, 1) := by decide +kernel
theorem dX9_misplaced_73 : decode cX9_misplaced 73 = .ok (.ireturn, 1) := by decide +kernel
theorem dX9_planned_0 : decode cX9_planned 0 = .ok (.aload_n 0, 1) := by decide +kernel
theorem dX9_planned_1 : decode cX9_planned 1 = .ok (.iload_n 1, 1) := by decide +kernel
theorem dX9_planned_2 : decode cX9_planned 2 = .ok (.invokevirtual 123, 3) := by decide +kernel
theorem dX9_planned_5 : decode cX9_planned 5 = .ok (.astore 4, 2) := by decide +kernel
theorem dX9_planned_7 : decode cX9_planned 7 = .ok (.iload_n 2, 1) := by decide +kernel
theorem dX9_planned_8 : decode cX9_planned 8 = .ok (.invokestatic 143, 3) := by decide +kernel
theorem dX9_planned_11 : decode cX9_planned 11 = .ok (.iload_n 3, 1) := by decide +kernel
theorem dX9_planned_12 : decode cX9_planned 12 = .ok (.invokestatic 146, 3) := by decide +kernel
theorem dX9_planned_15 : decode cX9_planned 15 = .ok (.aload 4, 2) := by decide +kernel
theorem dX9_planned_17 : decode cX9_planned 17 = .ok (.iload_n 2, 1) := by decide +kernel
theorem dX9_planned_18 : decode cX9_planned 18 = .ok (.iload_n 3, 1) := by decide +kernel
theorem dX9_planned_19 : decode cX9_planned 19 = .ok (.invokevirtual 149, 3) := by decide +kernel
theorem dX9_planned_22 : decode cX9_planned 22 = .ok (.ifCond .ne 5, 3) := by decide +kernel
theorem dX9_planned_25 : decode cX9_planned 25 = .ok (.iconst (-1), 1) := by decide +kernel
theorem dX9_planned_26 : decode cX9_planned 26 = .ok (.ireturn, 1) := by decide +kernel
theorem dX9_planned_27 : decode cX9_planned 27 = .ok (.aload_n 0, 1) := by decide +kernel
theorem dX9_planned_28 : decode cX9_planned 28 = .ok (.getfield 52, 3) := by decide +kernel
theorem dX9_planned_31 : decode cX9_planned 31 = .ok (.aload 4, 2) := by decide +kernel
theorem dX9_planned_33 : decode cX9_planned 33 = .ok (.iload_n 2, 1) := by decide +kernel
theorem dX9_planned_34 : decode cX9_planned 34 = .ok (.aload_n 0, 1) := by decide +kernel
theorem dX9_planned_35 : decode cX9_planned 35 = .ok (.invokevirtual 194, 3) := by decide +kernel
theorem dX9_planned_38 : decode cX9_planned 38 = .ok (.invokevirtual 198, 3) := by decide +kernel
theorem dX9_planned_41 : decode cX9_planned 41 = .ok (.aload_n 0, 1) := by decide +kernel
theorem dX9_planned_42 : decode cX9_planned 42 = .ok (.iload_n 3, 1) := by decide +kernel
theorem dX9_planned_43 : decode cX9_planned 43 = .ok (.invokevirtual 243, 3) := by decide +kernel
theorem dX9_planned_46 : decode cX9_planned 46 = .ok (.ireturn, 1) := by decide +kernel
theorem dX9_differ_0 : decode cX9_differ 0 = .ok (.aload_n 0, 1) := by decide +kernel
theorem dX9_differ_1 : decode cX9_differ 1 = .ok (.iload_n 1, 1) := by decide +kernel
theorem dX9_differ_2 : decode cX9_differ 2 = .ok (.invokevirtual 246, 3) := by decide +kernel
theorem dX9_differ_5 : decode cX9_differ 5 = .ok (.astore_n 3, 1) := by decide +kernel
theorem dX9_differ_6 : decode cX9_differ 6 = .ok (.aload_n 0, 1) := by decide +kernel
theorem dX9_differ_7 : decode cX9_differ 7 = .ok (.iload_n 2, 1) := by decide +kernel
theorem dX9_differ_8 : decode cX9_differ 8 = .ok (.invokevirtual 246, 3) := by decide +kernel
theorem dX9_differ_11 : decode cX9_differ 11 = .ok (.astore 4, 2) := by decide +kernel
theorem dX9_differ_13 : decode cX9_differ 13 = .ok (.iconst 0, 1) := by decide +kernel
theorem dX9_differ_14 : decode cX9_differ 14 = .ok (.istore 5, 2) := by decide +kernel
theorem dX9_differ_16 : decode cX9_differ 16 = .ok (.iconst 0, 1) := by decide +kernel
theorem dX9_differ_17 : decode cX9_differ 17 = .ok (.istore 6, 2) := by decide +kernel
theorem dX9_differ_19 : decode cX9_differ 19 = .ok (.iload 6, 2) := by decide +kernel
theorem dX9_differ_21 : decode cX9_differ 21 = .ok (.aload_n 0, 1) := by decide +kernel
theorem dX9_differ_22 : decode cX9_differ 22 = .ok (.getfield 119, 3) := by decide +kernel
theorem dX9_differ_25 : decode cX9_differ 25 = .ok (.if_icmp .ge 112, 3) := by decide +kernel
theorem dX9_differ_28 : decode cX9_differ 28 = .ok (.iconst 0, 1) := by decide +kernel
theorem dX9_differ_29 : decode cX9_differ 29 = .ok (.istore 7, 2) := by decide +kernel
theorem dX9_differ_31 : decode cX9_differ 31 = .ok (.iload 7, 2) := by decide +kernel
theorem dX9_differ_33 : decode cX9_differ 33 = .ok (.bipush 8, 2) := by decide +kernel
theorem dX9_differ_35 : decode cX9_differ 35 = .ok (.if_icmp .ge 96, 3) := by decide +kernel
theorem dX9_differ_38 : decode cX9_differ 38 = .ok (.aload_n 0, 1) := by decide +kernel
theorem dX9_differ_39 : decode cX9_differ 39 = .ok (.getfield 52, 3) := by decide +kernel
theorem dX9_differ_42 : decode cX9_differ 42 = .ok (.aload_n 0, 1) := by decide +kernel
theorem dX9_differ_43 : decode cX9_differ 43 = .ok (.getfield 25, 3) := by decide +kernel
theorem dX9_differ_46 : decode cX9_differ 46 = .ok (.iload 6, 2) := by decide +kernel
theorem dX9_differ_48 : decode cX9_differ 48 = .ok (.aaload, 1) := by decide +kernel
theorem dX9_differ_49 : decode cX9_differ 49 = .ok (.iload 7, 2) := by decide +kernel
theorem dX9_differ_51 : decode cX9_differ 51 = .ok (.aload_n 3, 1) := by decide +kernel
theorem dX9_differ_52 : decode cX9_differ 52 = .ok (.invokevirtual 198, 3) := by decide +kernel
theorem dX9_differ_55 : decode cX9_differ 55 = .ok (.aload_n 0, 1) := by decide +kernel
theorem dX9_differ_56 : decode cX9_differ 56 = .ok (.getfield 52, 3) := by decide +kernel
theorem dX9_differ_59 : decode cX9_differ 59 = .ok (.getfield 213, 3) := by decide +kernel
theorem dX9_differ_62 : decode cX9_differ 62 = .ok (.istore 8, 2) := by decide +kernel
theorem dX9_differ_64 : decode cX9_differ 64 = .ok (.aload_n 0, 1) := by decide +kernel
theorem dX9_differ_65 : decode cX9_differ 65 = .ok (.getfield 52, 3) := by decide +kernel
theorem dX9_differ_68 : decode cX9_differ 68 = .ok (.getfield 216, 3) := by decide +kernel
theorem dX9_differ_71 : decode cX9_differ 71 = .ok (.istore 9, 2) := by decide +kernel
theorem dX9_differ_73 : decode cX9_differ 73 = .ok (.aload_n 0, 1) := by decide +kernel
theorem dX9_differ_74 : decode cX9_differ 74 = .ok (.getfield 52, 3) := by decide +kernel
theorem dX9_differ_77 : decode cX9_differ 77 = .ok (.aload_n 0, 1) := by decide +kernel
theorem dX9_differ_78 : decode cX9_differ 78 = .ok (.getfield 25, 3) := by decide +kernel
theorem dX9_differ_81 : decode cX9_differ 81 = .ok (.iload 6, 2) := by decide +kernel
theorem dX9_differ_83 : decode cX9_differ 83 = .ok (.aaload, 1) := by decide +kernel
theorem dX9_differ_84 : decode cX9_differ 84 = .ok (.iload 7, 2) := by decide +kernel
theorem dX9_differ_86 : decode cX9_differ 86 = .ok (.aload 4, 2) := by decide +kernel
theorem dX9_differ_88 : decode cX9_differ 88 = .ok (.invokevirtual 198, 3) := by decide +kernel
theorem dX9_differ_91 : decode cX9_differ 91 = .ok (.iload 5, 2) := by decide +kernel
theorem dX9_differ_93 : decode cX9_differ 93 = .ok (.iload 8, 2) := by decide +kernel
theorem dX9_differ_95 : decode cX9_differ 95 = .ok (.aload_n 0, 1) := by decide +kernel
theorem dX9_differ_96 : decode cX9_differ 96 = .ok (.getfield 52, 3) := by decide +kernel
theorem dX9_differ_99 : decode cX9_differ 99 = .ok (.getfield 213, 3) := by decide +kernel
theorem dX9_differ_102 : decode cX9_differ 102 = .ok (.if_icmp .ne 15, 3) := by decide +kernel
theorem dX9_differ_105 : decode cX9_differ 105 = .ok (.iload 9, 2) := by decide +kernel
theorem dX9_differ_107 : decode cX9_differ 107 = .ok (.aload_n 0, 1) := by decide +kernel
theorem dX9_differ_108 : decode cX9_differ 108 = .ok (.getfield 52, 3) := by decide +kernel
theorem dX9_differ_111 : decode cX9_differ 111 = .ok (.getfield 216, 3) := by decide +kernel
theorem dX9_differ_114 : decode cX9_differ 114 = .ok (.if_icmp .eq 7, 3) := by decide +kernel
theorem dX9_differ_117 : decode cX9_differ 117 = .ok (.iconst 1, 1) := by decide +kernel
theorem dX9_differ_118 : decode cX9_differ 118 = .ok (.goto 4, 3) := by decide +kernel
theorem dX9_differ_121 : decode cX9_differ 121 = .ok (.iconst 0, 1) := by decide +kernel
theorem dX9_differ_122 : decode cX9_differ 122 = .ok (.iadd, 1) := by decide +kernel
theorem dX9_differ_123 : decode cX9_differ 123 = .ok (.istore 5, 2) := by decide +kernel
theorem dX9_differ_125 : decode cX9_differ 125 = .ok (.iinc 7 1, 3) := by decide +kernel
theorem dX9_differ_128 : decode cX9_differ 128 = .ok (.goto (-97), 3) := by decide +kernel
theorem dX9_differ_131 : decode cX9_differ 131 = .ok (.iinc 6 1, 3) := by decide +kernel
theorem dX9_differ_134 : decode cX9_differ 134 = .ok (.goto (-115), 3) := by decide +kernel
theorem dX9_differ_137 : decode cX9_differ 137 = .ok (.iload 5, 2) := by decide +kernel
theorem dX9_differ_139 : decode cX9_differ 139 = .ok (.ireturn, 1) := by decide +kernel
theorem dX9_bites_0 : decode cX9_bites 0 = .ok (.aload_n 0, 1) := by decide +kernel
theorem dX9_bites_1 : decode cX9_bites 1 = .ok (.iload_n 1, 1) := by decide +kernel
theorem dX9_bites_2 : decode cX9_bites 2 = .ok (.invokevirtual 246, 3) := by decide +kernel
theorem dX9_bites_5 : decode cX9_bites 5 = .ok (.astore_n 3, 1) := by decide +kernel
theorem dX9_bites_6 : decode cX9_bites 6 = .ok (.iload_n 2, 1) := by decide +kernel
theorem dX9_bites_7 : decode cX9_bites 7 = .ok (.ifCond .lt 11, 3) := by decide +kernel
theorem dX9_bites_10 : decode cX9_bites 10 = .ok (.iload_n 2, 1) := by decide +kernel
theorem dX9_bites_11 : decode cX9_bites 11 = .ok (.aload_n 3, 1) := by decide +kernel
theorem dX9_bites_12 : decode cX9_bites 12 = .ok (.getfield 249, 3) := by decide +kernel
theorem dX9_bites_15 : decode cX9_bites 15 = .ok (.if_icmp .lt 13, 3) := by decide +kernel
theorem dX9_bites_18 : decode cX9_bites 18 = .ok (.new 127, 3) := by decide +kernel
theorem dX9_bites_21 : decode cX9_bites 21 = .ok (.dup, 1) := by decide +kernel
theorem dX9_bites_22 : decode cX9_bites 22 = .ok (.ldc 252, 2) := by decide +kernel
theorem dX9_bites_24 : decode cX9_bites 24 = .ok (.invokespecial 131, 3) := by decide +kernel
theorem dX9_bites_27 : decode cX9_bites 27 = .ok (.athrow, 1) := by decide +kernel
theorem dX9_bites_28 : decode cX9_bites 28 = .ok (.iconst 0, 1) := by decide +kernel
theorem dX9_bites_29 : decode cX9_bites 29 = .ok (.istore 4, 2) := by decide +kernel
theorem dX9_bites_31 : decode cX9_bites 31 = .ok (.iload 4, 2) := by decide +kernel
theorem dX9_bites_33 : decode cX9_bites 33 = .ok (.aload_n 0, 1) := by decide +kernel
theorem dX9_bites_34 : decode cX9_bites 34 = .ok (.getfield 119, 3) := by decide +kernel
theorem dX9_bites_37 : decode cX9_bites 37 = .ok (.if_icmp .ge 64, 3) := by decide +kernel
theorem dX9_bites_40 : decode cX9_bites 40 = .ok (.iconst 0, 1) := by decide +kernel
theorem dX9_bites_41 : decode cX9_bites 41 = .ok (.istore 5, 2) := by decide +kernel
theorem dX9_bites_43 : decode cX9_bites 43 = .ok (.iload 5, 2) := by decide +kernel
theorem dX9_bites_45 : decode cX9_bites 45 = .ok (.bipush 8, 2) := by decide +kernel
theorem dX9_bites_47 : decode cX9_bites 47 = .ok (.if_icmp .ge 48, 3) := by decide +kernel
theorem dX9_bites_50 : decode cX9_bites 50 = .ok (.aload_n 0, 1) := by decide +kernel
theorem dX9_bites_51 : decode cX9_bites 51 = .ok (.getfield 25, 3) := by decide +kernel
theorem dX9_bites_54 : decode cX9_bites 54 = .ok (.iload 4, 2) := by decide +kernel
theorem dX9_bites_56 : decode cX9_bites 56 = .ok (.aaload, 1) := by decide +kernel
theorem dX9_bites_57 : decode cX9_bites 57 = .ok (.getfield 157, 3) := by decide +kernel
theorem dX9_bites_60 : decode cX9_bites 60 = .ok (.iload 5, 2) := by decide +kernel
theorem dX9_bites_62 : decode cX9_bites 62 = .ok (.iaload, 1) := by decide +kernel
theorem dX9_bites_63 : decode cX9_bites 63 = .ok (.ifCond .eq 26, 3) := by decide +kernel
theorem dX9_bites_66 : decode cX9_bites 66 = .ok (.aload_n 3, 1) := by decide +kernel
theorem dX9_bites_67 : decode cX9_bites 67 = .ok (.getfield 254, 3) := by decide +kernel
theorem dX9_bites_70 : decode cX9_bites 70 = .ok (.iload_n 2, 1) := by decide +kernel
theorem dX9_bites_71 : decode cX9_bites 71 = .ok (.aaload, 1) := by decide +kernel
theorem dX9_bites_72 : decode cX9_bites 72 = .ok (.aload_n 0, 1) := by decide +kernel
theorem dX9_bites_73 : decode cX9_bites 73 = .ok (.getfield 25, 3) := by decide +kernel
theorem dX9_bites_76 : decode cX9_bites 76 = .ok (.iload 4, 2) := by decide +kernel
theorem dX9_bites_78 : decode cX9_bites 78 = .ok (.aaload, 1) := by decide +kernel
theorem dX9_bites_79 : decode cX9_bites 79 = .ok (.iload 5, 2) := by decide +kernel
theorem dX9_bites_81 : decode cX9_bites 81 = .ok (.invokevirtual 258, 3) := by decide +kernel
theorem dX9_bites_84 : decode cX9_bites 84 = .ok (.ifCond .eq 5, 3) := by decide +kernel
theorem dX9_bites_87 : decode cX9_bites 87 = .ok (.iconst 1, 1) := by decide +kernel
theorem dX9_bites_88 : decode cX9_bites 88 = .ok (.ireturn, 1) := by decide +kernel
theorem dX9_bites_89 : decode cX9_bites 89 = .ok (.iinc 5 1, 3) := by decide +kernel
theorem dX9_bites_92 : decode cX9_bites 92 = .ok (.goto (-49), 3) := by decide +kernel
theorem dX9_bites_95 : decode cX9_bites 95 = .ok (.iinc 4 1, 3) := by decide +kernel
theorem dX9_bites_98 : decode cX9_bites 98 = .ok (.goto (-67), 3) := by decide +kernel
theorem dX9_bites_101 : decode cX9_bites 101 = .ok (.iconst 0, 1) := by decide +kernel
theorem dX9_bites_102 : decode cX9_bites 102 = .ok (.ireturn, 1) := by decide +kernel
theorem dX9_days_0 : decode cX9_days 0 = .ok (.iload_n 1, 1) := by decide +kernel
theorem dX9_days_1 : decode cX9_days 1 = .ok (.ifCond .lt 21, 3) := by decide +kernel
theorem dX9_days_4 : decode cX9_days 4 = .ok (.iload_n 1, 1) := by decide +kernel
theorem dX9_days_5 : decode cX9_days 5 = .ok (.sipush 1000, 3) := by decide +kernel
theorem dX9_days_8 : decode cX9_days 8 = .ok (.if_icmp .gt 14, 3) := by decide +kernel
theorem dX9_days_11 : decode cX9_days 11 = .ok (.aload_n 0, 1) := by decide +kernel
theorem dX9_days_12 : decode cX9_days 12 = .ok (.getfield 202, 3) := by decide +kernel
theorem dX9_days_15 : decode cX9_days 15 = .ok (.iload_n 1, 1) := by decide +kernel
theorem dX9_days_16 : decode cX9_days 16 = .ok (.iadd, 1) := by decide +kernel
theorem dX9_days_17 : decode cX9_days 17 = .ok (.ldc 74, 2) := by decide +kernel
theorem dX9_days_19 : decode cX9_days 19 = .ok (.if_icmp .le 14, 3) := by decide +kernel
theorem dX9_days_22 : decode cX9_days 22 = .ok (.new 56, 3) := by decide +kernel
theorem dX9_days_25 : decode cX9_days 25 = .ok (.dup, 1) := by decide +kernel
theorem dX9_days_26 : decode cX9_days 26 = .ok (.ldc_w 264, 3) := by decide +kernel
theorem dX9_days_29 : decode cX9_days 29 = .ok (.invokespecial 60, 3) := by decide +kernel
theorem dX9_days_32 : decode cX9_days 32 = .ok (.athrow, 1) := by decide +kernel
theorem dX9_days_33 : decode cX9_days 33 = .ok (.aload_n 0, 1) := by decide +kernel
theorem dX9_days_34 : decode cX9_days 34 = .ok (.getfield 202, 3) := by decide +kernel
theorem dX9_days_37 : decode cX9_days 37 = .ok (.iload_n 1, 1) := by decide +kernel
theorem dX9_days_38 : decode cX9_days 38 = .ok (.iadd, 1) := by decide +kernel
theorem dX9_days_39 : decode cX9_days 39 = .ok (.istore_n 2, 1) := by decide +kernel
theorem dX9_days_40 : decode cX9_days 40 = .ok (.iconst 0, 1) := by decide +kernel
theorem dX9_days_41 : decode cX9_days 41 = .ok (.istore_n 3, 1) := by decide +kernel
theorem dX9_days_42 : decode cX9_days 42 = .ok (.iload_n 3, 1) := by decide +kernel
theorem dX9_days_43 : decode cX9_days 43 = .ok (.iload_n 1, 1) := by decide +kernel
theorem dX9_days_44 : decode cX9_days 44 = .ok (.if_icmp .ge 68, 3) := by decide +kernel
theorem dX9_days_47 : decode cX9_days 47 = .ok (.aload_n 0, 1) := by decide +kernel
theorem dX9_days_48 : decode cX9_days 48 = .ok (.getfield 202, 3) := by decide +kernel
theorem dX9_days_51 : decode cX9_days 51 = .ok (.iload_n 2, 1) := by decide +kernel
theorem dX9_days_52 : decode cX9_days 52 = .ok (.if_icmp .ge 60, 3) := by decide +kernel
theorem dX9_days_55 : decode cX9_days 55 = .ok (.aload_n 0, 1) := by decide +kernel
theorem dX9_days_56 : decode cX9_days 56 = .ok (.aload_n 0, 1) := by decide +kernel
theorem dX9_days_57 : decode cX9_days 57 = .ok (.iload_n 2, 1) := by decide +kernel
theorem dX9_days_58 : decode cX9_days 58 = .ok (.invokevirtual 266, 3) := by decide +kernel
theorem dX9_days_61 : decode cX9_days 61 = .ok (.putfield 202, 3) := by decide +kernel
theorem dX9_days_64 : decode cX9_days 64 = .ok (.iconst 0, 1) := by decide +kernel
theorem dX9_days_65 : decode cX9_days 65 = .ok (.istore 4, 2) := by decide +kernel
theorem dX9_days_67 : decode cX9_days 67 = .ok (.iload 4, 2) := by decide +kernel
theorem dX9_days_69 : decode cX9_days 69 = .ok (.iconst 4, 1) := by decide +kernel
theorem dX9_days_70 : decode cX9_days 70 = .ok (.if_icmp .ge 36, 3) := by decide +kernel
theorem dX9_days_73 : decode cX9_days 73 = .ok (.aload_n 0, 1) := by decide +kernel
theorem dX9_days_74 : decode cX9_days 74 = .ok (.getfield 31, 3) := by decide +kernel
theorem dX9_days_77 : decode cX9_days 77 = .ok (.iload 4, 2) := by decide +kernel
theorem dX9_days_79 : decode cX9_days 79 = .ok (.aaload, 1) := by decide +kernel
theorem dX9_days_80 : decode cX9_days 80 = .ok (.aload_n 0, 1) := by decide +kernel
theorem dX9_days_81 : decode cX9_days 81 = .ok (.getfield 202, 3) := by decide +kernel
theorem dX9_days_84 : decode cX9_days 84 = .ok (.invokevirtual 269, 3) := by decide +kernel
theorem dX9_days_87 : decode cX9_days 87 = .ok (.aload_n 0, 1) := by decide +kernel
theorem dX9_days_88 : decode cX9_days 88 = .ok (.getfield 202, 3) := by decide +kernel
theorem dX9_days_91 : decode cX9_days 91 = .ok (.if_icmp .ne 9, 3) := by decide +kernel
theorem dX9_days_94 : decode cX9_days 94 = .ok (.aload_n 0, 1) := by decide +kernel
theorem dX9_days_95 : decode cX9_days 95 = .ok (.iload 4, 2) := by decide +kernel
theorem dX9_days_97 : decode cX9_days 97 = .ok (.invokevirtual 272, 3) := by decide +kernel
theorem dX9_days_100 : decode cX9_days 100 = .ok (.iinc 4 1, 3) := by decide +kernel
theorem dX9_days_103 : decode cX9_days 103 = .ok (.goto (-36), 3) := by decide +kernel
theorem dX9_days_106 : decode cX9_days 106 = .ok (.iinc 3 1, 3) := by decide +kernel
theorem dX9_days_109 : decode cX9_days 109 = .ok (.goto (-67), 3) := by decide +kernel
theorem dX9_days_112 : decode cX9_days 112 = .ok (.aload_n 0, 1) := by decide +kernel
theorem dX9_days_113 : decode cX9_days 113 = .ok (.getfield 202, 3) := by decide +kernel
theorem dX9_days_116 : decode cX9_days 116 = .ok (.ireturn, 1) := by decide +kernel
theorem dX9_entry_0 : decode cX9_entry 0 = .ok (.iload_n 1, 1) := by decide +kernel
theorem dX9_entry_1 : decode cX9_entry 1 = .ok (.ifCond .lt 30, 3) := by decide +kernel
theorem dX9_entry_4 : decode cX9_entry 4 = .ok (.iload_n 1, 1) := by decide +kernel
theorem dX9_entry_5 : decode cX9_entry 5 = .ok (.aload_n 0, 1) := by decide +kernel
theorem dX9_entry_6 : decode cX9_entry 6 = .ok (.getfield 45, 3) := by decide +kernel
theorem dX9_entry_9 : decode cX9_entry 9 = .ok (.getfield 275, 3) := by decide +kernel
theorem dX9_entry_12 : decode cX9_entry 12 = .ok (.if_icmp .ge 19, 3) := by decide +kernel
theorem dX9_entry_15 : decode cX9_entry 15 = .ok (.iload_n 1, 1) := by decide +kernel
theorem dX9_entry_16 : decode cX9_entry 16 = .ok (.sipush 400, 3) := by decide +kernel
theorem dX9_entry_19 : decode cX9_entry 19 = .ok (.if_icmp .ge 12, 3) := by decide +kernel
theorem dX9_entry_22 : decode cX9_entry 22 = .ok (.iload_n 2, 1) := by decide +kernel
theorem dX9_entry_23 : decode cX9_entry 23 = .ok (.ifCond .lt 8, 3) := by decide +kernel
theorem dX9_entry_26 : decode cX9_entry 26 = .ok (.iload_n 2, 1) := by decide +kernel
theorem dX9_entry_27 : decode cX9_entry 27 = .ok (.iconst 5, 1) := by decide +kernel
theorem dX9_entry_28 : decode cX9_entry 28 = .ok (.if_icmp .lt 14, 3) := by decide +kernel
theorem dX9_entry_31 : decode cX9_entry 31 = .ok (.new 127, 3) := by decide +kernel
theorem dX9_entry_34 : decode cX9_entry 34 = .ok (.dup, 1) := by decide +kernel
theorem dX9_entry_35 : decode cX9_entry 35 = .ok (.ldc_w 278, 3) := by decide +kernel
theorem dX9_entry_38 : decode cX9_entry 38 = .ok (.invokespecial 131, 3) := by decide +kernel
theorem dX9_entry_41 : decode cX9_entry 41 = .ok (.athrow, 1) := by decide +kernel
theorem dX9_entry_42 : decode cX9_entry 42 = .ok (.aload_n 0, 1) := by decide +kernel
theorem dX9_entry_43 : decode cX9_entry 43 = .ok (.getfield 45, 3) := by decide +kernel
theorem dX9_entry_46 : decode cX9_entry 46 = .ok (.getfield 280, 3) := by decide +kernel
theorem dX9_entry_49 : decode cX9_entry 49 = .ok (.iload_n 1, 1) := by decide +kernel
theorem dX9_entry_50 : decode cX9_entry 50 = .ok (.iconst 5, 1) := by decide +kernel
theorem dX9_entry_51 : decode cX9_entry 51 = .ok (.imul, 1) := by decide +kernel
theorem dX9_entry_52 : decode cX9_entry 52 = .ok (.iload_n 2, 1) := by decide +kernel
theorem dX9_entry_53 : decode cX9_entry 53 = .ok (.iadd, 1) := by decide +kernel
theorem dX9_entry_54 : decode cX9_entry 54 = .ok (.iaload, 1) := by decide +kernel
theorem dX9_entry_55 : decode cX9_entry 55 = .ok (.ireturn, 1) := by decide +kernel
theorem dX9_count_0 : decode cX9_count 0 = .ok (.iload_n 1, 1) := by decide +kernel
theorem dX9_count_1 : decode cX9_count 1 = .ok (.tableswitch 124 0 9 #[55, 60, 65, 70, 75, 83, 91, 96, 101, 106], 55) := by decide +kernel
theorem dX9_count_56 : decode cX9_count 56 = .ok (.aload_n 0, 1) := by decide +kernel
theorem dX9_count_57 : decode cX9_count 57 = .ok (.getfield 202, 3) := by decide +kernel
theorem dX9_count_60 : decode cX9_count 60 = .ok (.ireturn, 1) := by decide +kernel
theorem dX9_count_61 : decode cX9_count 61 = .ok (.aload_n 0, 1) := by decide +kernel
theorem dX9_count_62 : decode cX9_count 62 = .ok (.getfield 119, 3) := by decide +kernel
theorem dX9_count_65 : decode cX9_count 65 = .ok (.ireturn, 1) := by decide +kernel
theorem dX9_count_66 : decode cX9_count 66 = .ok (.aload_n 0, 1) := by decide +kernel
theorem dX9_count_67 : decode cX9_count 67 = .ok (.getfield 101, 3) := by decide +kernel
theorem dX9_count_70 : decode cX9_count 70 = .ok (.ireturn, 1) := by decide +kernel
theorem dX9_count_71 : decode cX9_count 71 = .ok (.aload_n 0, 1) := by decide +kernel
theorem dX9_count_72 : decode cX9_count 72 = .ok (.invokevirtual 283, 3) := by decide +kernel
theorem dX9_count_75 : decode cX9_count 75 = .ok (.ireturn, 1) := by decide +kernel
theorem dX9_count_76 : decode cX9_count 76 = .ok (.aload_n 0, 1) := by decide +kernel
theorem dX9_count_77 : decode cX9_count 77 = .ok (.getfield 45, 3) := by decide +kernel
theorem dX9_count_80 : decode cX9_count 80 = .ok (.getfield 275, 3) := by decide +kernel
theorem dX9_count_83 : decode cX9_count 83 = .ok (.ireturn, 1) := by decide +kernel
theorem dX9_count_84 : decode cX9_count 84 = .ok (.aload_n 0, 1) := by decide +kernel
theorem dX9_count_85 : decode cX9_count 85 = .ok (.getfield 45, 3) := by decide +kernel
theorem dX9_count_88 : decode cX9_count 88 = .ok (.getfield 287, 3) := by decide +kernel
theorem dX9_count_91 : decode cX9_count 91 = .ok (.ireturn, 1) := by decide +kernel
theorem dX9_count_92 : decode cX9_count 92 = .ok (.aload_n 0, 1) := by decide +kernel
theorem dX9_count_93 : decode cX9_count 93 = .ok (.invokevirtual 290, 3) := by decide +kernel
theorem dX9_count_96 : decode cX9_count 96 = .ok (.ireturn, 1) := by decide +kernel
theorem dX9_count_97 : decode cX9_count 97 = .ok (.aload_n 0, 1) := by decide +kernel
theorem dX9_count_98 : decode cX9_count 98 = .ok (.invokevirtual 293, 3) := by decide +kernel
theorem dX9_count_101 : decode cX9_count 101 = .ok (.ireturn, 1) := by decide +kernel
theorem dX9_count_102 : decode cX9_count 102 = .ok (.aload_n 0, 1) := by decide +kernel
theorem dX9_count_103 : decode cX9_count 103 = .ok (.getfield 93, 3) := by decide +kernel
theorem dX9_count_106 : decode cX9_count 106 = .ok (.ireturn, 1) := by decide +kernel
theorem dX9_count_107 : decode cX9_count 107 = .ok (.aload_n 0, 1) := by decide +kernel
theorem dX9_count_108 : decode cX9_count 108 = .ok (.invokevirtual 194, 3) := by decide +kernel
theorem dX9_count_111 : decode cX9_count 111 = .ok (.astore_n 2, 1) := by decide +kernel
theorem dX9_count_112 : decode cX9_count 112 = .ok (.aload_n 2, 1) := by decide +kernel
theorem dX9_count_113 : decode cX9_count 113 = .ok (.ifnonnull 7, 3) := by decide +kernel
theorem dX9_count_116 : decode cX9_count 116 = .ok (.iconst 0, 1) := by decide +kernel
theorem dX9_count_117 : decode cX9_count 117 = .ok (.goto 7, 3) := by decide +kernel
theorem dX9_count_120 : decode cX9_count 120 = .ok (.aload_n 2, 1) := by decide +kernel
theorem dX9_count_121 : decode cX9_count 121 = .ok (.getfield 249, 3) := by decide +kernel
theorem dX9_count_124 : decode cX9_count 124 = .ok (.ireturn, 1) := by decide +kernel
theorem dX9_count_125 : decode cX9_count 125 = .ok (.new 127, 3) := by decide +kernel
theorem dX9_count_128 : decode cX9_count 128 = .ok (.dup, 1) := by decide +kernel
theorem dX9_count_129 : decode cX9_count 129 = .ok (.ldc_w 296, 3) := by decide +kernel
theorem dX9_count_132 : decode cX9_count 132 = .ok (.invokespecial 131, 3) := by decide +kernel
theorem dX9_count_135 : decode cX9_count 135 = .ok (.athrow, 1) := by decide +kernel
theorem dX9_checkDay_0 : decode cX9_checkDay 0 = .ok (.iload_n 0, 1) := by decide +kernel
theorem dX9_checkDay_1 : decode cX9_checkDay 1 = .ok (.ifCond .lt 9, 3) := by decide +kernel
theorem dX9_checkDay_4 : decode cX9_checkDay 4 = .ok (.iload_n 0, 1) := by decide +kernel
theorem dX9_checkDay_5 : decode cX9_checkDay 5 = .ok (.ldc 74, 2) := by decide +kernel
theorem dX9_checkDay_7 : decode cX9_checkDay 7 = .ok (.if_icmp .le 14, 3) := by decide +kernel
theorem dX9_checkDay_10 : decode cX9_checkDay 10 = .ok (.new 56, 3) := by decide +kernel
theorem dX9_checkDay_13 : decode cX9_checkDay 13 = .ok (.dup, 1) := by decide +kernel
theorem dX9_checkDay_14 : decode cX9_checkDay 14 = .ok (.ldc_w 298, 3) := by decide +kernel
theorem dX9_checkDay_17 : decode cX9_checkDay 17 = .ok (.invokespecial 60, 3) := by decide +kernel
theorem dX9_checkDay_20 : decode cX9_checkDay 20 = .ok (.athrow, 1) := by decide +kernel
theorem dX9_checkDay_21 : decode cX9_checkDay 21 = .ok (.return_, 1) := by decide +kernel
theorem dX9_checkField_0 : decode cX9_checkField 0 = .ok (.iload_n 0, 1) := by decide +kernel
theorem dX9_checkField_1 : decode cX9_checkField 1 = .ok (.ifCond .lt 9, 3) := by decide +kernel
theorem dX9_checkField_4 : decode cX9_checkField 4 = .ok (.iload_n 0, 1) := by decide +kernel
theorem dX9_checkField_5 : decode cX9_checkField 5 = .ok (.bipush 8, 2) := by decide +kernel
theorem dX9_checkField_7 : decode cX9_checkField 7 = .ok (.if_icmp .lt 14, 3) := by decide +kernel
theorem dX9_checkField_10 : decode cX9_checkField 10 = .ok (.new 127, 3) := by decide +kernel
theorem dX9_checkField_13 : decode cX9_checkField 13 = .ok (.dup, 1) := by decide +kernel
theorem dX9_checkField_14 : decode cX9_checkField 14 = .ok (.ldc_w 300, 3) := by decide +kernel
theorem dX9_checkField_17 : decode cX9_checkField 17 = .ok (.invokespecial 131, 3) := by decide +kernel
theorem dX9_checkField_20 : decode cX9_checkField 20 = .ok (.athrow, 1) := by decide +kernel
theorem dX9_checkField_21 : decode cX9_checkField 21 = .ok (.return_, 1) := by decide +kernel
theorem dX9_checkStore_0 : decode cX9_checkStore 0 = .ok (.iload_n 0, 1) := by decide +kernel
theorem dX9_checkStore_1 : decode cX9_checkStore 1 = .ok (.ifCond .lt 8, 3) := by decide +kernel
theorem dX9_checkStore_4 : decode cX9_checkStore 4 = .ok (.iload_n 0, 1) := by decide +kernel
theorem dX9_checkStore_5 : decode cX9_checkStore 5 = .ok (.iconst 4, 1) := by decide +kernel
theorem dX9_checkStore_6 : decode cX9_checkStore 6 = .ok (.if_icmp .lt 14, 3) := by decide +kernel
theorem dX9_checkStore_9 : decode cX9_checkStore 9 = .ok (.new 127, 3) := by decide +kernel
theorem dX9_checkStore_12 : decode cX9_checkStore 12 = .ok (.dup, 1) := by decide +kernel
theorem dX9_checkStore_13 : decode cX9_checkStore 13 = .ok (.ldc_w 302, 3) := by decide +kernel
theorem dX9_checkStore_16 : decode cX9_checkStore 16 = .ok (.invokespecial 131, 3) := by decide +kernel
theorem dX9_checkStore_19 : decode cX9_checkStore 19 = .ok (.athrow, 1) := by decide +kernel
theorem dX9_checkStore_20 : decode cX9_checkStore 20 = .ok (.return_, 1) := by decide +kernel
theorem dX9_thingAt_0 : decode cX9_thingAt 0 = .ok (.iload_n 1, 1) := by decide +kernel
theorem dX9_thingAt_1 : decode cX9_thingAt 1 = .ok (.ifCond .lt 11, 3) := by decide +kernel
theorem dX9_thingAt_4 : decode cX9_thingAt 4 = .ok (.iload_n 1, 1) := by decide +kernel
theorem dX9_thingAt_5 : decode cX9_thingAt 5 = .ok (.aload_n 0, 1) := by decide +kernel
theorem dX9_thingAt_6 : decode cX9_thingAt 6 = .ok (.getfield 119, 3) := by decide +kernel
theorem dX9_thingAt_9 : decode cX9_thingAt 9 = .ok (.if_icmp .lt 14, 3) := by decide +kernel
theorem dX9_thingAt_12 : decode cX9_thingAt 12 = .ok (.new 127, 3) := by decide +kernel
theorem dX9_thingAt_15 : decode cX9_thingAt 15 = .ok (.dup, 1) := by decide +kernel
theorem dX9_thingAt_16 : decode cX9_thingAt 16 = .ok (.ldc_w 304, 3) := by decide +kernel
theorem dX9_thingAt_19 : decode cX9_thingAt 19 = .ok (.invokespecial 131, 3) := by decide +kernel
theorem dX9_thingAt_22 : decode cX9_thingAt 22 = .ok (.athrow, 1) := by decide +kernel
theorem dX9_thingAt_23 : decode cX9_thingAt 23 = .ok (.aload_n 0, 1) := by decide +kernel
theorem dX9_thingAt_24 : decode cX9_thingAt 24 = .ok (.getfield 25, 3) := by decide +kernel
theorem dX9_thingAt_27 : decode cX9_thingAt 27 = .ok (.iload_n 1, 1) := by decide +kernel
theorem dX9_thingAt_28 : decode cX9_thingAt 28 = .ok (.aaload, 1) := by decide +kernel
theorem dX9_thingAt_29 : decode cX9_thingAt 29 = .ok (.areturn, 1) := by decide +kernel
theorem dX9_setAt_0 : decode cX9_setAt 0 = .ok (.iload_n 1, 1) := by decide +kernel
theorem dX9_setAt_1 : decode cX9_setAt 1 = .ok (.ifCond .lt 11, 3) := by decide +kernel
theorem dX9_setAt_4 : decode cX9_setAt 4 = .ok (.iload_n 1, 1) := by decide +kernel
theorem dX9_setAt_5 : decode cX9_setAt 5 = .ok (.aload_n 0, 1) := by decide +kernel
theorem dX9_setAt_6 : decode cX9_setAt 6 = .ok (.getfield 101, 3) := by decide +kernel
theorem dX9_setAt_9 : decode cX9_setAt 9 = .ok (.if_icmp .lt 14, 3) := by decide +kernel
theorem dX9_setAt_12 : decode cX9_setAt 12 = .ok (.new 127, 3) := by decide +kernel
theorem dX9_setAt_15 : decode cX9_setAt 15 = .ok (.dup, 1) := by decide +kernel
theorem dX9_setAt_16 : decode cX9_setAt 16 = .ok (.ldc_w 306, 3) := by decide +kernel
theorem dX9_setAt_19 : decode cX9_setAt 19 = .ok (.invokespecial 131, 3) := by decide +kernel
theorem dX9_setAt_22 : decode cX9_setAt 22 = .ok (.athrow, 1) := by decide +kernel
theorem dX9_setAt_23 : decode cX9_setAt 23 = .ok (.aload_n 0, 1) := by decide +kernel
theorem dX9_setAt_24 : decode cX9_setAt 24 = .ok (.getfield 19, 3) := by decide +kernel
theorem dX9_setAt_27 : decode cX9_setAt 27 = .ok (.iload_n 1, 1) := by decide +kernel
theorem dX9_setAt_28 : decode cX9_setAt 28 = .ok (.aaload, 1) := by decide +kernel
theorem dX9_setAt_29 : decode cX9_setAt 29 = .ok (.areturn, 1) := by decide +kernel
theorem dX9_chosenSet_0 : decode cX9_chosenSet 0 = .ok (.iload_n 1, 1) := by decide +kernel
theorem dX9_chosenSet_1 : decode cX9_chosenSet 1 = .ok (.iconst (-1), 1) := by decide +kernel
theorem dX9_chosenSet_2 : decode cX9_chosenSet 2 = .ok (.if_icmp .ne 10, 3) := by decide +kernel
theorem dX9_chosenSet_5 : decode cX9_chosenSet 5 = .ok (.aload_n 0, 1) := by decide +kernel
theorem dX9_chosenSet_6 : decode cX9_chosenSet 6 = .ok (.invokevirtual 194, 3) := by decide +kernel
theorem dX9_chosenSet_9 : decode cX9_chosenSet 9 = .ok (.goto 8, 3) := by decide +kernel
theorem dX9_chosenSet_12 : decode cX9_chosenSet 12 = .ok (.aload_n 0, 1) := by decide +kernel
theorem dX9_chosenSet_13 : decode cX9_chosenSet 13 = .ok (.iload_n 1, 1) := by decide +kernel
theorem dX9_chosenSet_14 : decode cX9_chosenSet 14 = .ok (.invokevirtual 246, 3) := by decide +kernel
theorem dX9_chosenSet_17 : decode cX9_chosenSet 17 = .ok (.areturn, 1) := by decide +kernel
theorem dX9_setInForce_0 : decode cX9_setInForce 0 = .ok (.aload_n 0, 1) := by decide +kernel
theorem dX9_setInForce_1 : decode cX9_setInForce 1 = .ok (.invokevirtual 283, 3) := by decide +kernel
theorem dX9_setInForce_4 : decode cX9_setInForce 4 = .ok (.istore_n 1, 1) := by decide +kernel
theorem dX9_setInForce_5 : decode cX9_setInForce 5 = .ok (.iload_n 1, 1) := by decide +kernel
theorem dX9_setInForce_6 : decode cX9_setInForce 6 = .ok (.iconst (-1), 1) := by decide +kernel
theorem dX9_setInForce_7 : decode cX9_setInForce 7 = .ok (.if_icmp .ne 7, 3) := by decide +kernel
theorem dX9_setInForce_10 : decode cX9_setInForce 10 = .ok (.aconst_null, 1) := by decide +kernel
theorem dX9_setInForce_11 : decode cX9_setInForce 11 = .ok (.goto 9, 3) := by decide +kernel
theorem dX9_setInForce_14 : decode cX9_setInForce 14 = .ok (.aload_n 0, 1) := by decide +kernel
theorem dX9_setInForce_15 : decode cX9_setInForce 15 = .ok (.getfield 19, 3) := by decide +kernel
theorem dX9_setInForce_18 : decode cX9_setInForce 18 = .ok (.iload_n 1, 1) := by decide +kernel
theorem dX9_setInForce_19 : decode cX9_setInForce 19 = .ok (.aaload, 1) := by decide +kernel
theorem dX9_setInForce_20 : decode cX9_setInForce 20 = .ok (.areturn, 1) := by decide +kernel
theorem dX9_numberInForce_0 : decode cX9_numberInForce 0 = .ok (.iconst (-1), 1) := by decide +kernel
theorem dX9_numberInForce_1 : decode cX9_numberInForce 1 = .ok (.istore_n 1, 1) := by decide +kernel
theorem dX9_numberInForce_2 : decode cX9_numberInForce 2 = .ok (.iconst 0, 1) := by decide +kernel
theorem dX9_numberInForce_3 : decode cX9_numberInForce 3 = .ok (.istore_n 2, 1) := by decide +kernel
theorem dX9_numberInForce_4 : decode cX9_numberInForce 4 = .ok (.iload_n 2, 1) := by decide +kernel
theorem dX9_numberInForce_5 : decode cX9_numberInForce 5 = .ok (.aload_n 0, 1) := by decide +kernel
theorem dX9_numberInForce_6 : decode cX9_numberInForce 6 = .ok (.getfield 101, 3) := by decide +kernel
theorem dX9_numberInForce_9 : decode cX9_numberInForce 9 = .ok (.if_icmp .ge 53, 3) := by decide +kernel
theorem dX9_numberInForce_12 : decode cX9_numberInForce 12 = .ok (.aload_n 0, 1) := by decide +kernel
theorem dX9_numberInForce_13 : decode cX9_numberInForce 13 = .ok (.getfield 19, 3) := by decide +kernel
theorem dX9_numberInForce_16 : decode cX9_numberInForce 16 = .ok (.iload_n 2, 1) := by decide +kernel
theorem dX9_numberInForce_17 : decode cX9_numberInForce 17 = .ok (.aaload, 1) := by decide +kernel
theorem dX9_numberInForce_18 : decode cX9_numberInForce 18 = .ok (.getfield 308, 3) := by decide +kernel
theorem dX9_numberInForce_21 : decode cX9_numberInForce 21 = .ok (.aload_n 0, 1) := by decide +kernel
theorem dX9_numberInForce_22 : decode cX9_numberInForce 22 = .ok (.getfield 202, 3) := by decide +kernel
theorem dX9_numberInForce_25 : decode cX9_numberInForce 25 = .ok (.if_icmp .gt 31, 3) := by decide +kernel
theorem dX9_numberInForce_28 : decode cX9_numberInForce 28 = .ok (.iload_n 1, 1) := by decide +kernel
theorem dX9_numberInForce_29 : decode cX9_numberInForce 29 = .ok (.iconst (-1), 1) := by decide +kernel
theorem dX9_numberInForce_30 : decode cX9_numberInForce 30 = .ok (.if_icmp .eq 24, 3) := by decide +kernel
theorem dX9_numberInForce_33 : decode cX9_numberInForce 33 = .ok (.aload_n 0, 1) := by decide +kernel
theorem dX9_numberInForce_34 : decode cX9_numberInForce 34 = .ok (.getfield 19, 3) := by decide +kernel
theorem dX9_numberInForce_37 : decode cX9_numberInForce 37 = .ok (.iload_n 2, 1) := by decide +kernel
theorem dX9_numberInForce_38 : decode cX9_numberInForce 38 = .ok (.aaload, 1) := by decide +kernel
theorem dX9_numberInForce_39 : decode cX9_numberInForce 39 = .ok (.getfield 308, 3) := by decide +kernel
theorem dX9_numberInForce_42 : decode cX9_numberInForce 42 = .ok (.aload_n 0, 1) := by decide +kernel
theorem dX9_numberInForce_43 : decode cX9_numberInForce 43 = .ok (.getfield 19, 3) := by decide +kernel
theorem dX9_numberInForce_46 : decode cX9_numberInForce 46 = .ok (.iload_n 1, 1) := by decide +kernel
theorem dX9_numberInForce_47 : decode cX9_numberInForce 47 = .ok (.aaload, 1) := by decide +kernel
theorem dX9_numberInForce_48 : decode cX9_numberInForce 48 = .ok (.getfield 308, 3) := by decide +kernel
theorem dX9_numberInForce_51 : decode cX9_numberInForce 51 = .ok (.if_icmp .lt 5, 3) := by decide +kernel
theorem dX9_numberInForce_54 : decode cX9_numberInForce 54 = .ok (.iload_n 2, 1) := by decide +kernel
theorem dX9_numberInForce_55 : decode cX9_numberInForce 55 = .ok (.istore_n 1, 1) := by decide +kernel
theorem dX9_numberInForce_56 : decode cX9_numberInForce 56 = .ok (.iinc 2 1, 3) := by decide +kernel
theorem dX9_numberInForce_59 : decode cX9_numberInForce 59 = .ok (.goto (-55), 3) := by decide +kernel
theorem dX9_numberInForce_62 : decode cX9_numberInForce 62 = .ok (.iload_n 1, 1) := by decide +kernel
theorem dX9_numberInForce_63 : decode cX9_numberInForce 63 = .ok (.ireturn, 1) := by decide +kernel
theorem dX9_putOnTape_0 : decode cX9_putOnTape 0 = .ok (.bipush 24, 2) := by decide +kernel
theorem dX9_putOnTape_2 : decode cX9_putOnTape 2 = .ok (.istore_n 2, 1) := by decide +kernel
theorem dX9_putOnTape_3 : decode cX9_putOnTape 3 = .ok (.iload_n 2, 1) := by decide +kernel
theorem dX9_putOnTape_4 : decode cX9_putOnTape 4 = .ok (.ifCond .lt 42, 3) := by decide +kernel
theorem dX9_putOnTape_7 : decode cX9_putOnTape 7 = .ok (.aload_n 0, 1) := by decide +kernel
theorem dX9_putOnTape_8 : decode cX9_putOnTape 8 = .ok (.getfield 93, 3) := by decide +kernel
theorem dX9_putOnTape_11 : decode cX9_putOnTape 11 = .ok (.sipush 1000, 3) := by decide +kernel
theorem dX9_putOnTape_14 : decode cX9_putOnTape 14 = .ok (.if_icmp .ge 32, 3) := by decide +kernel
theorem dX9_putOnTape_17 : decode cX9_putOnTape 17 = .ok (.aload_n 0, 1) := by decide +kernel
theorem dX9_putOnTape_18 : decode cX9_putOnTape 18 = .ok (.getfield 9, 3) := by decide +kernel
theorem dX9_putOnTape_21 : decode cX9_putOnTape 21 = .ok (.aload_n 0, 1) := by decide +kernel
theorem dX9_putOnTape_22 : decode cX9_putOnTape 22 = .ok (.getfield 93, 3) := by decide +kernel
theorem dX9_putOnTape_25 : decode cX9_putOnTape 25 = .ok (.iload_n 1, 1) := by decide +kernel
theorem dX9_putOnTape_26 : decode cX9_putOnTape 26 = .ok (.iload_n 2, 1) := by decide +kernel
theorem dX9_putOnTape_27 : decode cX9_putOnTape 27 = .ok (.ishr, 1) := by decide +kernel
theorem dX9_putOnTape_28 : decode cX9_putOnTape 28 = .ok (.i2b, 1) := by decide +kernel
theorem dX9_putOnTape_29 : decode cX9_putOnTape 29 = .ok (.bastore, 1) := by decide +kernel
theorem dX9_putOnTape_30 : decode cX9_putOnTape 30 = .ok (.aload_n 0, 1) := by decide +kernel
theorem dX9_putOnTape_31 : decode cX9_putOnTape 31 = .ok (.dup, 1) := by decide +kernel
theorem dX9_putOnTape_32 : decode cX9_putOnTape 32 = .ok (.getfield 93, 3) := by decide +kernel
theorem dX9_putOnTape_35 : decode cX9_putOnTape 35 = .ok (.iconst 1, 1) := by decide +kernel
theorem dX9_putOnTape_36 : decode cX9_putOnTape 36 = .ok (.iadd, 1) := by decide +kernel
theorem dX9_putOnTape_37 : decode cX9_putOnTape 37 = .ok (.putfield 93, 3) := by decide +kernel
theorem dX9_putOnTape_40 : decode cX9_putOnTape 40 = .ok (.iinc 2 (-8), 3) := by decide +kernel
theorem dX9_putOnTape_43 : decode cX9_putOnTape 43 = .ok (.goto (-40), 3) := by decide +kernel
theorem dX9_putOnTape_46 : decode cX9_putOnTape 46 = .ok (.return_, 1) := by decide +kernel
theorem dX9_placesOf_0 : decode cX9_placesOf 0 = .ok (.aload_n 0, 1) := by decide +kernel
theorem dX9_placesOf_1 : decode cX9_placesOf 1 = .ok (.invokevirtual 194, 3) := by decide +kernel
theorem dX9_placesOf_4 : decode cX9_placesOf 4 = .ok (.astore_n 3, 1) := by decide +kernel
theorem dX9_placesOf_5 : decode cX9_placesOf 5 = .ok (.aload_n 3, 1) := by decide +kernel
theorem dX9_placesOf_6 : decode cX9_placesOf 6 = .ok (.ifnonnull 8, 3) := by decide +kernel
theorem dX9_placesOf_9 : decode cX9_placesOf 9 = .ok (.bipush 15, 2) := by decide +kernel
theorem dX9_placesOf_11 : decode cX9_placesOf 11 = .ok (.goto 9, 3) := by decide +kernel
theorem dX9_placesOf_14 : decode cX9_placesOf 14 = .ok (.aload_n 3, 1) := by decide +kernel
theorem dX9_placesOf_15 : decode cX9_placesOf 15 = .ok (.aload_n 1, 1) := by decide +kernel
theorem dX9_placesOf_16 : decode cX9_placesOf 16 = .ok (.iload_n 2, 1) := by decide +kernel
theorem dX9_placesOf_17 : decode cX9_placesOf 17 = .ok (.invokevirtual 311, 3) := by decide +kernel
theorem dX9_placesOf_20 : decode cX9_placesOf 20 = .ok (.ireturn, 1) := by decide +kernel
theorem dX9_heldFields_0 : decode cX9_heldFields 0 = .ok (.iconst 0, 1) := by decide +kernel
theorem dX9_heldFields_1 : decode cX9_heldFields 1 = .ok (.istore_n 2, 1) := by decide +kernel
theorem dX9_heldFields_2 : decode cX9_heldFields 2 = .ok (.iconst 0, 1) := by decide +kernel
theorem dX9_heldFields_3 : decode cX9_heldFields 3 = .ok (.istore_n 3, 1) := by decide +kernel
theorem dX9_heldFields_4 : decode cX9_heldFields 4 = .ok (.iload_n 3, 1) := by decide +kernel
theorem dX9_heldFields_5 : decode cX9_heldFields 5 = .ok (.aload_n 0, 1) := by decide +kernel
theorem dX9_heldFields_6 : decode cX9_heldFields 6 = .ok (.getfield 168, 3) := by decide +kernel
theorem dX9_heldFields_9 : decode cX9_heldFields 9 = .ok (.if_icmp .ge 46, 3) := by decide +kernel
theorem dX9_heldFields_12 : decode cX9_heldFields 12 = .ok (.aload_n 0, 1) := by decide +kernel
theorem dX9_heldFields_13 : decode cX9_heldFields 13 = .ok (.getfield 38, 3) := by decide +kernel
theorem dX9_heldFields_16 : decode cX9_heldFields 16 = .ok (.iload_n 3, 1) := by decide +kernel
theorem dX9_heldFields_17 : decode cX9_heldFields 17 = .ok (.aaload, 1) := by decide +kernel
theorem dX9_heldFields_18 : decode cX9_heldFields 18 = .ok (.getfield 183, 3) := by decide +kernel
theorem dX9_heldFields_21 : decode cX9_heldFields 21 = .ok (.aload_n 1, 1) := by decide +kernel
theorem dX9_heldFields_22 : decode cX9_heldFields 22 = .ok (.if_acmp .ne 27, 3) := by decide +kernel
theorem dX9_heldFields_25 : decode cX9_heldFields 25 = .ok (.aload_n 0, 1) := by decide +kernel
theorem dX9_heldFields_26 : decode cX9_heldFields 26 = .ok (.getfield 38, 3) := by decide +kernel
theorem dX9_heldFields_29 : decode cX9_heldFields 29 = .ok (.iload_n 3, 1) := by decide +kernel
theorem dX9_heldFields_30 : decode cX9_heldFields 30 = .ok (.aaload, 1) := by decide +kernel
theorem dX9_heldFields_31 : decode cX9_heldFields 31 = .ok (.getfield 179, 3) := by decide +kernel
theorem dX9_heldFields_34 : decode cX9_heldFields 34 = .ok (.ifCond .ne 15, 3) := by decide +kernel
theorem dX9_heldFields_37 : decode cX9_heldFields 37 = .ok (.iload_n 2, 1) := by decide +kernel
theorem dX9_heldFields_38 : decode cX9_heldFields 38 = .ok (.aload_n 0, 1) := by decide +kernel
theorem dX9_heldFields_39 : decode cX9_heldFields 39 = .ok (.getfield 38, 3) := by decide +kernel
theorem dX9_heldFields_42 : decode cX9_heldFields 42 = .ok (.iload_n 3, 1) := by decide +kernel
theorem dX9_heldFields_43 : decode cX9_heldFields 43 = .ok (.aaload, 1) := by decide +kernel
theorem dX9_heldFields_44 : decode cX9_heldFields 44 = .ok (.getfield 314, 3) := by decide +kernel
theorem dX9_heldFields_47 : decode cX9_heldFields 47 = .ok (.ior, 1) := by decide +kernel
theorem dX9_heldFields_48 : decode cX9_heldFields 48 = .ok (.istore_n 2, 1) := by decide +kernel
theorem dX9_heldFields_49 : decode cX9_heldFields 49 = .ok (.iinc 3 1, 3) := by decide +kernel
theorem dX9_heldFields_52 : decode cX9_heldFields 52 = .ok (.goto (-48), 3) := by decide +kernel
theorem dX9_heldFields_55 : decode cX9_heldFields 55 = .ok (.iload_n 2, 1) := by decide +kernel
theorem dX9_heldFields_56 : decode cX9_heldFields 56 = .ok (.ireturn, 1) := by decide +kernel
theorem dX9_openHoldCount_0 : decode cX9_openHoldCount 0 = .ok (.iconst 0, 1) := by decide +kernel
theorem dX9_openHoldCount_1 : decode cX9_openHoldCount 1 = .ok (.istore_n 1, 1) := by decide +kernel
theorem dX9_openHoldCount_2 : decode cX9_openHoldCount 2 = .ok (.iconst 0, 1) := by decide +kernel
theorem dX9_openHoldCount_3 : decode cX9_openHoldCount 3 = .ok (.istore_n 2, 1) := by decide +kernel
theorem dX9_openHoldCount_4 : decode cX9_openHoldCount 4 = .ok (.iload_n 2, 1) := by decide +kernel
theorem dX9_openHoldCount_5 : decode cX9_openHoldCount 5 = .ok (.aload_n 0, 1) := by decide +kernel
theorem dX9_openHoldCount_6 : decode cX9_openHoldCount 6 = .ok (.getfield 168, 3) := by decide +kernel
theorem dX9_openHoldCount_9 : decode cX9_openHoldCount 9 = .ok (.if_icmp .ge 29, 3) := by decide +kernel
theorem dX9_openHoldCount_12 : decode cX9_openHoldCount 12 = .ok (.iload_n 1, 1) := by decide +kernel
theorem dX9_openHoldCount_13 : decode cX9_openHoldCount 13 = .ok (.aload_n 0, 1) := by decide +kernel
theorem dX9_openHoldCount_14 : decode cX9_openHoldCount 14 = .ok (.getfield 38, 3) := by decide +kernel
theorem dX9_openHoldCount_17 : decode cX9_openHoldCount 17 = .ok (.iload_n 2, 1) := by decide +kernel
theorem dX9_openHoldCount_18 : decode cX9_openHoldCount 18 = .ok (.aaload, 1) := by decide +kernel
theorem dX9_openHoldCount_19 : decode cX9_openHoldCount 19 = .ok (.getfield 179, 3) := by decide +kernel
theorem dX9_openHoldCount_22 : decode cX9_openHoldCount 22 = .ok (.ifCond .eq 7, 3) := by decide +kernel
theorem dX9_openHoldCount_25 : decode cX9_openHoldCount 25 = .ok (.iconst 0, 1) := by decide +kernel
theorem dX9_openHoldCount_26 : decode cX9_openHoldCount 26 = .ok (.goto 4, 3) := by decide +kernel
theorem dX9_openHoldCount_29 : decode cX9_openHoldCount 29 = .ok (.iconst 1, 1) := by decide +kernel
theorem dX9_openHoldCount_30 : decode cX9_openHoldCount 30 = .ok (.iadd, 1) := by decide +kernel
theorem dX9_openHoldCount_31 : decode cX9_openHoldCount 31 = .ok (.istore_n 1, 1) := by decide +kernel
theorem dX9_openHoldCount_32 : decode cX9_openHoldCount 32 = .ok (.iinc 2 1, 3) := by decide +kernel
theorem dX9_openHoldCount_35 : decode cX9_openHoldCount 35 = .ok (.goto (-31), 3) := by decide +kernel
theorem dX9_openHoldCount_38 : decode cX9_openHoldCount 38 = .ok (.iload_n 1, 1) := by decide +kernel
theorem dX9_openHoldCount_39 : decode cX9_openHoldCount 39 = .ok (.ireturn, 1) := by decide +kernel
theorem dX9_copyCount_0 : decode cX9_copyCount 0 = .ok (.iconst 0, 1) := by decide +kernel
theorem dX9_copyCount_1 : decode cX9_copyCount 1 = .ok (.istore_n 1, 1) := by decide +kernel
theorem dX9_copyCount_2 : decode cX9_copyCount 2 = .ok (.iconst 0, 1) := by decide +kernel
theorem dX9_copyCount_3 : decode cX9_copyCount 3 = .ok (.istore_n 2, 1) := by decide +kernel
theorem dX9_copyCount_4 : decode cX9_copyCount 4 = .ok (.iload_n 2, 1) := by decide +kernel
theorem dX9_copyCount_5 : decode cX9_copyCount 5 = .ok (.aload_n 0, 1) := by decide +kernel
theorem dX9_copyCount_6 : decode cX9_copyCount 6 = .ok (.getfield 119, 3) := by decide +kernel
theorem dX9_copyCount_9 : decode cX9_copyCount 9 = .ok (.if_icmp .ge 40, 3) := by decide +kernel
theorem dX9_copyCount_12 : decode cX9_copyCount 12 = .ok (.iconst 0, 1) := by decide +kernel
theorem dX9_copyCount_13 : decode cX9_copyCount 13 = .ok (.istore_n 3, 1) := by decide +kernel
theorem dX9_copyCount_14 : decode cX9_copyCount 14 = .ok (.iload_n 3, 1) := by decide +kernel
theorem dX9_copyCount_15 : decode cX9_copyCount 15 = .ok (.bipush 8, 2) := by decide +kernel
theorem dX9_copyCount_17 : decode cX9_copyCount 17 = .ok (.if_icmp .ge 26, 3) := by decide +kernel
theorem dX9_copyCount_20 : decode cX9_copyCount 20 = .ok (.iload_n 1, 1) := by decide +kernel
theorem dX9_copyCount_21 : decode cX9_copyCount 21 = .ok (.aload_n 0, 1) := by decide +kernel
theorem dX9_copyCount_22 : decode cX9_copyCount 22 = .ok (.getfield 25, 3) := by decide +kernel
theorem dX9_copyCount_25 : decode cX9_copyCount 25 = .ok (.iload_n 2, 1) := by decide +kernel
theorem dX9_copyCount_26 : decode cX9_copyCount 26 = .ok (.aaload, 1) := by decide +kernel
theorem dX9_copyCount_27 : decode cX9_copyCount 27 = .ok (.getfield 157, 3) := by decide +kernel
theorem dX9_copyCount_30 : decode cX9_copyCount 30 = .ok (.iload_n 3, 1) := by decide +kernel
theorem dX9_copyCount_31 : decode cX9_copyCount 31 = .ok (.iaload, 1) := by decide +kernel
theorem dX9_copyCount_32 : decode cX9_copyCount 32 = .ok (.invokestatic 238, 3) := by decide +kernel
theorem dX9_copyCount_35 : decode cX9_copyCount 35 = .ok (.iadd, 1) := by decide +kernel
theorem dX9_copyCount_36 : decode cX9_copyCount 36 = .ok (.istore_n 1, 1) := by decide +kernel
theorem dX9_copyCount_37 : decode cX9_copyCount 37 = .ok (.iinc 3 1, 3) := by decide +kernel
theorem dX9_copyCount_40 : decode cX9_copyCount 40 = .ok (.goto (-26), 3) := by decide +kernel
theorem dX9_copyCount_43 : decode cX9_copyCount 43 = .ok (.iinc 2 1, 3) := by decide +kernel
theorem dX9_copyCount_46 : decode cX9_copyCount 46 = .ok (.goto (-42), 3) := by decide +kernel
theorem dX9_copyCount_49 : decode cX9_copyCount 49 = .ok (.iload_n 1, 1) := by decide +kernel
theorem dX9_copyCount_50 : decode cX9_copyCount 50 = .ok (.ireturn, 1) := by decide +kernel
theorem dX9_settledDay_0 : decode cX9_settledDay 0 = .ok (.aload_n 0, 1) := by decide +kernel
theorem dX9_settledDay_1 : decode cX9_settledDay 1 = .ok (.getfield 202, 3) := by decide +kernel
theorem dX9_settledDay_4 : decode cX9_settledDay 4 = .ok (.iconst 1, 1) := by decide +kernel
theorem dX9_settledDay_5 : decode cX9_settledDay 5 = .ok (.iadd, 1) := by decide +kernel
theorem dX9_settledDay_6 : decode cX9_settledDay 6 = .ok (.aload_n 0, 1) := by decide +kernel
theorem dX9_settledDay_7 : decode cX9_settledDay 7 = .ok (.getfield 52, 3) := by decide +kernel
theorem dX9_settledDay_10 : decode cX9_settledDay 10 = .ok (.getfield 213, 3) := by decide +kernel
theorem dX9_settledDay_13 : decode cX9_settledDay 13 = .ok (.invokestatic 317, 3) := by decide +kernel
theorem dX9_settledDay_16 : decode cX9_settledDay 16 = .ok (.istore_n 2, 1) := by decide +kernel
theorem dX9_settledDay_17 : decode cX9_settledDay 17 = .ok (.aload_n 0, 1) := by decide +kernel
theorem dX9_settledDay_18 : decode cX9_settledDay 18 = .ok (.getfield 52, 3) := by decide +kernel
theorem dX9_settledDay_21 : decode cX9_settledDay 21 = .ok (.iload_n 2, 1) := by decide +kernel
theorem dX9_settledDay_22 : decode cX9_settledDay 22 = .ok (.invokevirtual 205, 3) := by decide +kernel
theorem dX9_settledDay_25 : decode cX9_settledDay 25 = .ok (.ifCond .eq 16, 3) := by decide +kernel
theorem dX9_settledDay_28 : decode cX9_settledDay 28 = .ok (.aload_n 0, 1) := by decide +kernel
theorem dX9_settledDay_29 : decode cX9_settledDay 29 = .ok (.getfield 31, 3) := by decide +kernel
theorem dX9_settledDay_32 : decode cX9_settledDay 32 = .ok (.iload_n 1, 1) := by decide +kernel
theorem dX9_settledDay_33 : decode cX9_settledDay 33 = .ok (.aaload, 1) := by decide +kernel
theorem dX9_settledDay_34 : decode cX9_settledDay 34 = .ok (.iload_n 2, 1) := by decide +kernel
theorem dX9_settledDay_35 : decode cX9_settledDay 35 = .ok (.invokevirtual 269, 3) := by decide +kernel
theorem dX9_settledDay_38 : decode cX9_settledDay 38 = .ok (.goto 6, 3) := by decide +kernel
theorem dX9_settledDay_41 : decode cX9_settledDay 41 = .ok (.ldc_w 322, 3) := by decide +kernel
theorem dX9_settledDay_44 : decode cX9_settledDay 44 = .ok (.ireturn, 1) := by decide +kernel
theorem dX9_nextBusyDay_0 : decode cX9_nextBusyDay 0 = .ok (.iload_n 1, 1) := by decide +kernel
theorem dX9_nextBusyDay_1 : decode cX9_nextBusyDay 1 = .ok (.istore_n 2, 1) := by decide +kernel
theorem dX9_nextBusyDay_2 : decode cX9_nextBusyDay 2 = .ok (.iconst 0, 1) := by decide +kernel
theorem dX9_nextBusyDay_3 : decode cX9_nextBusyDay 3 = .ok (.istore_n 3, 1) := by decide +kernel
theorem dX9_nextBusyDay_4 : decode cX9_nextBusyDay 4 = .ok (.iload_n 3, 1) := by decide +kernel
theorem dX9_nextBusyDay_5 : decode cX9_nextBusyDay 5 = .ok (.aload_n 0, 1) := by decide +kernel
theorem dX9_nextBusyDay_6 : decode cX9_nextBusyDay 6 = .ok (.getfield 101, 3) := by decide +kernel
theorem dX9_nextBusyDay_9 : decode cX9_nextBusyDay 9 = .ok (.if_icmp .ge 39, 3) := by decide +kernel
theorem dX9_nextBusyDay_12 : decode cX9_nextBusyDay 12 = .ok (.aload_n 0, 1) := by decide +kernel
theorem dX9_nextBusyDay_13 : decode cX9_nextBusyDay 13 = .ok (.getfield 19, 3) := by decide +kernel
theorem dX9_nextBusyDay_16 : decode cX9_nextBusyDay 16 = .ok (.iload_n 3, 1) := by decide +kernel
theorem dX9_nextBusyDay_17 : decode cX9_nextBusyDay 17 = .ok (.aaload, 1) := by decide +kernel
theorem dX9_nextBusyDay_18 : decode cX9_nextBusyDay 18 = .ok (.getfield 308, 3) := by decide +kernel
theorem dX9_nextBusyDay_21 : decode cX9_nextBusyDay 21 = .ok (.aload_n 0, 1) := by decide +kernel
theorem dX9_nextBusyDay_22 : decode cX9_nextBusyDay 22 = .ok (.getfield 202, 3) := by decide +kernel
theorem dX9_nextBusyDay_25 : decode cX9_nextBusyDay 25 = .ok (.if_icmp .le 17, 3) := by decide +kernel
theorem dX9_nextBusyDay_28 : decode cX9_nextBusyDay 28 = .ok (.iload_n 2, 1) := by decide +kernel
theorem dX9_nextBusyDay_29 : decode cX9_nextBusyDay 29 = .ok (.aload_n 0, 1) := by decide +kernel
theorem dX9_nextBusyDay_30 : decode cX9_nextBusyDay 30 = .ok (.getfield 19, 3) := by decide +kernel
theorem dX9_nextBusyDay_33 : decode cX9_nextBusyDay 33 = .ok (.iload_n 3, 1) := by decide +kernel
theorem dX9_nextBusyDay_34 : decode cX9_nextBusyDay 34 = .ok (.aaload, 1) := by decide +kernel
theorem dX9_nextBusyDay_35 : decode cX9_nextBusyDay 35 = .ok (.getfield 308, 3) := by decide +kernel
theorem dX9_nextBusyDay_38 : decode cX9_nextBusyDay 38 = .ok (.invokestatic 323, 3) := by decide +kernel
theorem dX9_nextBusyDay_41 : decode cX9_nextBusyDay 41 = .ok (.istore_n 2, 1) := by decide +kernel
theorem dX9_nextBusyDay_42 : decode cX9_nextBusyDay 42 = .ok (.iinc 3 1, 3) := by decide +kernel
theorem dX9_nextBusyDay_45 : decode cX9_nextBusyDay 45 = .ok (.goto (-41), 3) := by decide +kernel
theorem dX9_nextBusyDay_48 : decode cX9_nextBusyDay 48 = .ok (.aload_n 0, 1) := by decide +kernel
theorem dX9_nextBusyDay_49 : decode cX9_nextBusyDay 49 = .ok (.invokevirtual 194, 3) := by decide +kernel
theorem dX9_nextBusyDay_52 : decode cX9_nextBusyDay 52 = .ok (.astore_n 3, 1) := by decide +kernel
theorem dX9_nextBusyDay_53 : decode cX9_nextBusyDay 53 = .ok (.iconst 0, 1) := by decide +kernel
theorem dX9_nextBusyDay_54 : decode cX9_nextBusyDay 54 = .ok (.istore 4, 2) := by decide +kernel
theorem dX9_nextBusyDay_56 : decode cX9_nextBusyDay 56 = .ok (.iload 4, 2) := by decide +kernel
theorem dX9_nextBusyDay_58 : decode cX9_nextBusyDay 58 = .ok (.aload_n 0, 1) := by decide +kernel
theorem dX9_nextBusyDay_59 : decode cX9_nextBusyDay 59 = .ok (.getfield 119, 3) := by decide +kernel
theorem dX9_nextBusyDay_62 : decode cX9_nextBusyDay 62 = .ok (.if_icmp .ge 80, 3) := by decide +kernel
theorem dX9_nextBusyDay_65 : decode cX9_nextBusyDay 65 = .ok (.iconst 0, 1) := by decide +kernel
theorem dX9_nextBusyDay_66 : decode cX9_nextBusyDay 66 = .ok (.istore 5, 2) := by decide +kernel
theorem dX9_nextBusyDay_68 : decode cX9_nextBusyDay 68 = .ok (.iload 5, 2) := by decide +kernel
theorem dX9_nextBusyDay_70 : decode cX9_nextBusyDay 70 = .ok (.bipush 8, 2) := by decide +kernel
theorem dX9_nextBusyDay_72 : decode cX9_nextBusyDay 72 = .ok (.if_icmp .ge 64, 3) := by decide +kernel
theorem dX9_nextBusyDay_75 : decode cX9_nextBusyDay 75 = .ok (.aload_n 0, 1) := by decide +kernel
theorem dX9_nextBusyDay_76 : decode cX9_nextBusyDay 76 = .ok (.getfield 25, 3) := by decide +kernel
theorem dX9_nextBusyDay_79 : decode cX9_nextBusyDay 79 = .ok (.iload 4, 2) := by decide +kernel
theorem dX9_nextBusyDay_81 : decode cX9_nextBusyDay 81 = .ok (.aaload, 1) := by decide +kernel
theorem dX9_nextBusyDay_82 : decode cX9_nextBusyDay 82 = .ok (.getfield 157, 3) := by decide +kernel
theorem dX9_nextBusyDay_85 : decode cX9_nextBusyDay 85 = .ok (.iload 5, 2) := by decide +kernel
theorem dX9_nextBusyDay_87 : decode cX9_nextBusyDay 87 = .ok (.iaload, 1) := by decide +kernel
theorem dX9_nextBusyDay_88 : decode cX9_nextBusyDay 88 = .ok (.ifCond .eq 42, 3) := by decide +kernel
theorem dX9_nextBusyDay_91 : decode cX9_nextBusyDay 91 = .ok (.aload_n 0, 1) := by decide +kernel
theorem dX9_nextBusyDay_92 : decode cX9_nextBusyDay 92 = .ok (.getfield 52, 3) := by decide +kernel
theorem dX9_nextBusyDay_95 : decode cX9_nextBusyDay 95 = .ok (.aload_n 0, 1) := by decide +kernel
theorem dX9_nextBusyDay_96 : decode cX9_nextBusyDay 96 = .ok (.getfield 25, 3) := by decide +kernel
theorem dX9_nextBusyDay_99 : decode cX9_nextBusyDay 99 = .ok (.iload 4, 2) := by decide +kernel
theorem dX9_nextBusyDay_101 : decode cX9_nextBusyDay 101 = .ok (.aaload, 1) := by decide +kernel
theorem dX9_nextBusyDay_102 : decode cX9_nextBusyDay 102 = .ok (.iload 5, 2) := by decide +kernel
theorem dX9_nextBusyDay_104 : decode cX9_nextBusyDay 104 = .ok (.aload_n 3, 1) := by decide +kernel
theorem dX9_nextBusyDay_105 : decode cX9_nextBusyDay 105 = .ok (.invokevirtual 198, 3) := by decide +kernel
theorem dX9_nextBusyDay_108 : decode cX9_nextBusyDay 108 = .ok (.iload_n 2, 1) := by decide +kernel
theorem dX9_nextBusyDay_109 : decode cX9_nextBusyDay 109 = .ok (.aload_n 0, 1) := by decide +kernel
theorem dX9_nextBusyDay_110 : decode cX9_nextBusyDay 110 = .ok (.aload_n 0, 1) := by decide +kernel
theorem dX9_nextBusyDay_111 : decode cX9_nextBusyDay 111 = .ok (.getfield 25, 3) := by decide +kernel
theorem dX9_nextBusyDay_114 : decode cX9_nextBusyDay 114 = .ok (.iload 4, 2) := by decide +kernel
theorem dX9_nextBusyDay_116 : decode cX9_nextBusyDay 116 = .ok (.aaload, 1) := by decide +kernel
theorem dX9_nextBusyDay_117 : decode cX9_nextBusyDay 117 = .ok (.getfield 157, 3) := by decide +kernel
theorem dX9_nextBusyDay_120 : decode cX9_nextBusyDay 120 = .ok (.iload 5, 2) := by decide +kernel
theorem dX9_nextBusyDay_122 : decode cX9_nextBusyDay 122 = .ok (.iaload, 1) := by decide +kernel
theorem dX9_nextBusyDay_123 : decode cX9_nextBusyDay 123 = .ok (.invokevirtual 326, 3) := by decide +kernel
theorem dX9_nextBusyDay_126 : decode cX9_nextBusyDay 126 = .ok (.invokestatic 323, 3) := by decide +kernel
theorem dX9_nextBusyDay_129 : decode cX9_nextBusyDay 129 = .ok (.istore_n 2, 1) := by decide +kernel
theorem dX9_nextBusyDay_130 : decode cX9_nextBusyDay 130 = .ok (.iinc 5 1, 3) := by decide +kernel
theorem dX9_nextBusyDay_133 : decode cX9_nextBusyDay 133 = .ok (.goto (-65), 3) := by decide +kernel
theorem dX9_nextBusyDay_136 : decode cX9_nextBusyDay 136 = .ok (.iinc 4 1, 3) := by decide +kernel
theorem dX9_nextBusyDay_139 : decode cX9_nextBusyDay 139 = .ok (.goto (-83), 3) := by decide +kernel
theorem dX9_nextBusyDay_142 : decode cX9_nextBusyDay 142 = .ok (.iload_n 2, 1) := by decide +kernel
theorem dX9_nextBusyDay_143 : decode cX9_nextBusyDay 143 = .ok (.ireturn, 1) := by decide +kernel
theorem dX9_firstSettledDay_0 : decode cX9_firstSettledDay 0 = .ok (.ldc_w 322, 3) := by decide +kernel
theorem dX9_firstSettledDay_3 : decode cX9_firstSettledDay 3 = .ok (.istore_n 2, 1) := by decide +kernel
theorem dX9_firstSettledDay_4 : decode cX9_firstSettledDay 4 = .ok (.iconst 0, 1) := by decide +kernel
theorem dX9_firstSettledDay_5 : decode cX9_firstSettledDay 5 = .ok (.istore_n 3, 1) := by decide +kernel
theorem dX9_firstSettledDay_6 : decode cX9_firstSettledDay 6 = .ok (.iload_n 3, 1) := by decide +kernel
theorem dX9_firstSettledDay_7 : decode cX9_firstSettledDay 7 = .ok (.iconst 4, 1) := by decide +kernel
theorem dX9_firstSettledDay_8 : decode cX9_firstSettledDay 8 = .ok (.if_icmp .ge 27, 3) := by decide +kernel
theorem dX9_firstSettledDay_11 : decode cX9_firstSettledDay 11 = .ok (.iload_n 1, 1) := by decide +kernel
theorem dX9_firstSettledDay_12 : decode cX9_firstSettledDay 12 = .ok (.iload_n 3, 1) := by decide +kernel
theorem dX9_firstSettledDay_13 : decode cX9_firstSettledDay 13 = .ok (.ishr, 1) := by decide +kernel
theorem dX9_firstSettledDay_14 : decode cX9_firstSettledDay 14 = .ok (.iconst 1, 1) := by decide +kernel
theorem dX9_firstSettledDay_15 : decode cX9_firstSettledDay 15 = .ok (.iand, 1) := by decide +kernel
theorem dX9_firstSettledDay_16 : decode cX9_firstSettledDay 16 = .ok (.ifCond .eq 13, 3) := by decide +kernel
theorem dX9_firstSettledDay_19 : decode cX9_firstSettledDay 19 = .ok (.iload_n 2, 1) := by decide +kernel
theorem dX9_firstSettledDay_20 : decode cX9_firstSettledDay 20 = .ok (.aload_n 0, 1) := by decide +kernel
theorem dX9_firstSettledDay_21 : decode cX9_firstSettledDay 21 = .ok (.iload_n 3, 1) := by decide +kernel
theorem dX9_firstSettledDay_22 : decode cX9_firstSettledDay 22 = .ok (.invokevirtual 243, 3) := by decide +kernel
theorem dX9_firstSettledDay_25 : decode cX9_firstSettledDay 25 = .ok (.invokestatic 323, 3) := by decide +kernel
theorem dX9_firstSettledDay_28 : decode cX9_firstSettledDay 28 = .ok (.istore_n 2, 1) := by decide +kernel
theorem dX9_firstSettledDay_29 : decode cX9_firstSettledDay 29 = .ok (.iinc 3 1, 3) := by decide +kernel
theorem dX9_firstSettledDay_32 : decode cX9_firstSettledDay 32 = .ok (.goto (-26), 3) := by decide +kernel
theorem dX9_firstSettledDay_35 : decode cX9_firstSettledDay 35 = .ok (.iload_n 2, 1) := by decide +kernel
theorem dX9_firstSettledDay_36 : decode cX9_firstSettledDay 36 = .ok (.ireturn, 1) := by decide +kernel
theorem dX9_sweep_0 : decode cX9_sweep 0 = .ok (.aload_n 0, 1) := by decide +kernel
theorem dX9_sweep_1 : decode cX9_sweep 1 = .ok (.invokevirtual 194, 3) := by decide +kernel
theorem dX9_sweep_4 : decode cX9_sweep 4 = .ok (.astore_n 2, 1) := by decide +kernel
theorem dX9_sweep_5 : decode cX9_sweep 5 = .ok (.iconst 0, 1) := by decide +kernel
theorem dX9_sweep_6 : decode cX9_sweep 6 = .ok (.istore_n 3, 1) := by decide +kernel
theorem dX9_sweep_7 : decode cX9_sweep 7 = .ok (.iload_n 3, 1) := by decide +kernel
theorem dX9_sweep_8 : decode cX9_sweep 8 = .ok (.aload_n 0, 1) := by decide +kernel
theorem dX9_sweep_9 : decode cX9_sweep 9 = .ok (.getfield 119, 3) := by decide +kernel
theorem dX9_sweep_12 : decode cX9_sweep 12 = .ok (.if_icmp .ge 109, 3) := by decide +kernel
theorem dX9_sweep_15 : decode cX9_sweep 15 = .ok (.iconst 0, 1) := by decide +kernel
theorem dX9_sweep_16 : decode cX9_sweep 16 = .ok (.istore 4, 2) := by decide +kernel
theorem dX9_sweep_18 : decode cX9_sweep 18 = .ok (.iload 4, 2) := by decide +kernel
theorem dX9_sweep_20 : decode cX9_sweep 20 = .ok (.bipush 8, 2) := by decide +kernel
theorem dX9_sweep_22 : decode cX9_sweep 22 = .ok (.if_icmp .ge 93, 3) := by decide +kernel
theorem dX9_sweep_25 : decode cX9_sweep 25 = .ok (.aload_n 0, 1) := by decide +kernel
theorem dX9_sweep_26 : decode cX9_sweep 26 = .ok (.getfield 25, 3) := by decide +kernel
theorem dX9_sweep_29 : decode cX9_sweep 29 = .ok (.iload_n 3, 1) := by decide +kernel
theorem dX9_sweep_30 : decode cX9_sweep 30 = .ok (.aaload, 1) := by decide +kernel
theorem dX9_sweep_31 : decode cX9_sweep 31 = .ok (.iload 4, 2) := by decide +kernel
theorem dX9_sweep_33 : decode cX9_sweep 33 = .ok (.iload_n 1, 1) := by decide +kernel
theorem dX9_sweep_34 : decode cX9_sweep 34 = .ok (.invokevirtual 149, 3) := by decide +kernel
theorem dX9_sweep_37 : decode cX9_sweep 37 = .ok (.ifCond .eq 72, 3) := by decide +kernel
theorem dX9_sweep_40 : decode cX9_sweep 40 = .ok (.aload_n 0, 1) := by decide +kernel
theorem dX9_sweep_41 : decode cX9_sweep 41 = .ok (.getfield 52, 3) := by decide +kernel
theorem dX9_sweep_44 : decode cX9_sweep 44 = .ok (.aload_n 0, 1) := by decide +kernel
theorem dX9_sweep_45 : decode cX9_sweep 45 = .ok (.getfield 25, 3) := by decide +kernel
theorem dX9_sweep_48 : decode cX9_sweep 48 = .ok (.iload_n 3, 1) := by decide +kernel
theorem dX9_sweep_49 : decode cX9_sweep 49 = .ok (.aaload, 1) := by decide +kernel
theorem dX9_sweep_50 : decode cX9_sweep 50 = .ok (.iload 4, 2) := by decide +kernel
theorem dX9_sweep_52 : decode cX9_sweep 52 = .ok (.aload_n 2, 1) := by decide +kernel
theorem dX9_sweep_53 : decode cX9_sweep 53 = .ok (.invokevirtual 198, 3) := by decide +kernel
theorem dX9_sweep_56 : decode cX9_sweep 56 = .ok (.aload_n 0, 1) := by decide +kernel
theorem dX9_sweep_57 : decode cX9_sweep 57 = .ok (.getfield 52, 3) := by decide +kernel
theorem dX9_sweep_60 : decode cX9_sweep 60 = .ok (.aload_n 0, 1) := by decide +kernel
theorem dX9_sweep_61 : decode cX9_sweep 61 = .ok (.getfield 202, 3) := by decide +kernel
theorem dX9_sweep_64 : decode cX9_sweep 64 = .ok (.invokevirtual 205, 3) := by decide +kernel
theorem dX9_sweep_67 : decode cX9_sweep 67 = .ok (.ifCond .eq 42, 3) := by decide +kernel
theorem dX9_sweep_70 : decode cX9_sweep 70 = .ok (.aload_n 0, 1) := by decide +kernel
theorem dX9_sweep_71 : decode cX9_sweep 71 = .ok (.getfield 25, 3) := by decide +kernel
theorem dX9_sweep_74 : decode cX9_sweep 74 = .ok (.iload_n 3, 1) := by decide +kernel
theorem dX9_sweep_75 : decode cX9_sweep 75 = .ok (.aaload, 1) := by decide +kernel
theorem dX9_sweep_76 : decode cX9_sweep 76 = .ok (.getfield 157, 3) := by decide +kernel
theorem dX9_sweep_79 : decode cX9_sweep 79 = .ok (.iload 4, 2) := by decide +kernel
theorem dX9_sweep_81 : decode cX9_sweep 81 = .ok (.dup2, 1) := by decide +kernel
theorem dX9_sweep_82 : decode cX9_sweep 82 = .ok (.iaload, 1) := by decide +kernel
theorem dX9_sweep_83 : decode cX9_sweep 83 = .ok (.iconst 1, 1) := by decide +kernel
theorem dX9_sweep_84 : decode cX9_sweep 84 = .ok (.iload_n 1, 1) := by decide +kernel
theorem dX9_sweep_85 : decode cX9_sweep 85 = .ok (.ishl, 1) := by decide +kernel
theorem dX9_sweep_86 : decode cX9_sweep 86 = .ok (.iconst (-1), 1) := by decide +kernel
theorem dX9_sweep_87 : decode cX9_sweep 87 = .ok (.ixor, 1) := by decide +kernel
theorem dX9_sweep_88 : decode cX9_sweep 88 = .ok (.iand, 1) := by decide +kernel
theorem dX9_sweep_89 : decode cX9_sweep 89 = .ok (.iastore, 1) := by decide +kernel
theorem dX9_sweep_90 : decode cX9_sweep 90 = .ok (.aload_n 0, 1) := by decide +kernel
theorem dX9_sweep_91 : decode cX9_sweep 91 = .ok (.getfield 45, 3) := by decide +kernel
theorem dX9_sweep_94 : decode cX9_sweep 94 = .ok (.iload_n 3, 1) := by decide +kernel
theorem dX9_sweep_95 : decode cX9_sweep 95 = .ok (.iload 4, 2) := by decide +kernel
theorem dX9_sweep_97 : decode cX9_sweep 97 = .ok (.iload_n 1, 1) := by decide +kernel
theorem dX9_sweep_98 : decode cX9_sweep 98 = .ok (.aload_n 0, 1) := by decide +kernel
theorem dX9_sweep_99 : decode cX9_sweep 99 = .ok (.getfield 202, 3) := by decide +kernel
theorem dX9_sweep_102 : decode cX9_sweep 102 = .ok (.aload_n 0, 1) := by decide +kernel
theorem dX9_sweep_103 : decode cX9_sweep 103 = .ok (.getfield 52, 3) := by decide +kernel
theorem dX9_sweep_106 : decode cX9_sweep 106 = .ok (.invokevirtual 329, 3) := by decide +kernel
theorem dX9_sweep_109 : decode cX9_sweep 109 = .ok (.iinc 4 1, 3) := by decide +kernel
theorem dX9_sweep_112 : decode cX9_sweep 112 = .ok (.goto (-94), 3) := by decide +kernel
theorem dX9_sweep_115 : decode cX9_sweep 115 = .ok (.iinc 3 1, 3) := by decide +kernel
theorem dX9_sweep_118 : decode cX9_sweep 118 = .ok (.goto (-111), 3) := by decide +kernel
theorem dX9_sweep_121 : decode cX9_sweep 121 = .ok (.return_, 1) := by decide +kernel
