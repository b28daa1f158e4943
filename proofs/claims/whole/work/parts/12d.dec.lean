theorem dL_day_0 : decode cL_day 0 = .ok (.aload 4, 2) := by decide +kernel
theorem dL_day_2 : decode cL_day 2 = .ok (.iconst 0, 1) := by decide +kernel
theorem dL_day_3 : decode cL_day 3 = .ok (.aload_n 0, 1) := by decide +kernel
theorem dL_day_4 : decode cL_day 4 = .ok (.iload_n 1, 1) := by decide +kernel
theorem dL_day_5 : decode cL_day 5 = .ok (.iload_n 2, 1) := by decide +kernel
theorem dL_day_6 : decode cL_day 6 = .ok (.iload_n 3, 1) := by decide +kernel
theorem dL_day_7 : decode cL_day 7 = .ok (.invokevirtual 7, 3) := by decide +kernel
theorem dL_day_10 : decode cL_day 10 = .ok (.i2l, 1) := by decide +kernel
theorem dL_day_11 : decode cL_day 11 = .ok (.lastore, 1) := by decide +kernel
theorem dL_day_12 : decode cL_day 12 = .ok (.goto 7, 3) := by decide +kernel
theorem dL_day_15 : decode cL_day 15 = .ok (.astore 5, 2) := by decide +kernel
theorem dL_day_17 : decode cL_day 17 = .ok (.iconst 1, 1) := by decide +kernel
theorem dL_day_18 : decode cL_day 18 = .ok (.ireturn, 1) := by decide +kernel
theorem dL_day_19 : decode cL_day 19 = .ok (.iconst 0, 1) := by decide +kernel
theorem dL_day_20 : decode cL_day 20 = .ok (.ireturn, 1) := by decide +kernel
theorem dL_date_0 : decode cL_date 0 = .ok (.aload_n 3, 1) := by decide +kernel
theorem dL_date_1 : decode cL_date 1 = .ok (.iconst 0, 1) := by decide +kernel
theorem dL_date_2 : decode cL_date 2 = .ok (.aload_n 0, 1) := by decide +kernel
theorem dL_date_3 : decode cL_date 3 = .ok (.iload_n 1, 1) := by decide +kernel
theorem dL_date_4 : decode cL_date 4 = .ok (.iload_n 2, 1) := by decide +kernel
theorem dL_date_5 : decode cL_date 5 = .ok (.invokevirtual 15, 3) := by decide +kernel
theorem dL_date_8 : decode cL_date 8 = .ok (.i2l, 1) := by decide +kernel
theorem dL_date_9 : decode cL_date 9 = .ok (.lastore, 1) := by decide +kernel
theorem dL_date_10 : decode cL_date 10 = .ok (.goto 7, 3) := by decide +kernel
theorem dL_date_13 : decode cL_date 13 = .ok (.astore 4, 2) := by decide +kernel
theorem dL_date_15 : decode cL_date 15 = .ok (.iconst 1, 1) := by decide +kernel
theorem dL_date_16 : decode cL_date 16 = .ok (.ireturn, 1) := by decide +kernel
theorem dL_date_17 : decode cL_date 17 = .ok (.iconst 0, 1) := by decide +kernel
theorem dL_date_18 : decode cL_date 18 = .ok (.ireturn, 1) := by decide +kernel
theorem dL_later_0 : decode cL_later 0 = .ok (.aload_n 3, 1) := by decide +kernel
theorem dL_later_1 : decode cL_later 1 = .ok (.iconst 0, 1) := by decide +kernel
theorem dL_later_2 : decode cL_later 2 = .ok (.aload_n 0, 1) := by decide +kernel
theorem dL_later_3 : decode cL_later 3 = .ok (.iload_n 1, 1) := by decide +kernel
theorem dL_later_4 : decode cL_later 4 = .ok (.iload_n 2, 1) := by decide +kernel
theorem dL_later_5 : decode cL_later 5 = .ok (.invokevirtual 19, 3) := by decide +kernel
theorem dL_later_8 : decode cL_later 8 = .ok (.i2l, 1) := by decide +kernel
theorem dL_later_9 : decode cL_later 9 = .ok (.lastore, 1) := by decide +kernel
theorem dL_later_10 : decode cL_later 10 = .ok (.goto 7, 3) := by decide +kernel
theorem dL_later_13 : decode cL_later 13 = .ok (.astore 4, 2) := by decide +kernel
theorem dL_later_15 : decode cL_later 15 = .ok (.iconst 1, 1) := by decide +kernel
theorem dL_later_16 : decode cL_later 16 = .ok (.ireturn, 1) := by decide +kernel
theorem dL_later_17 : decode cL_later 17 = .ok (.iconst 0, 1) := by decide +kernel
theorem dL_later_18 : decode cL_later 18 = .ok (.ireturn, 1) := by decide +kernel
theorem dL_rules_0 : decode cL_rules 0 = .ok (.aload_n 3, 1) := by decide +kernel
theorem dL_rules_1 : decode cL_rules 1 = .ok (.iconst 0, 1) := by decide +kernel
theorem dL_rules_2 : decode cL_rules 2 = .ok (.aload_n 0, 1) := by decide +kernel
theorem dL_rules_3 : decode cL_rules 3 = .ok (.iload_n 1, 1) := by decide +kernel
theorem dL_rules_4 : decode cL_rules 4 = .ok (.iload_n 2, 1) := by decide +kernel
theorem dL_rules_5 : decode cL_rules 5 = .ok (.invokevirtual 22, 3) := by decide +kernel
theorem dL_rules_8 : decode cL_rules 8 = .ok (.i2l, 1) := by decide +kernel
theorem dL_rules_9 : decode cL_rules 9 = .ok (.lastore, 1) := by decide +kernel
theorem dL_rules_10 : decode cL_rules 10 = .ok (.goto 7, 3) := by decide +kernel
theorem dL_rules_13 : decode cL_rules 13 = .ok (.astore 4, 2) := by decide +kernel
theorem dL_rules_15 : decode cL_rules 15 = .ok (.iconst 1, 1) := by decide +kernel
theorem dL_rules_16 : decode cL_rules 16 = .ok (.ireturn, 1) := by decide +kernel
theorem dL_rules_17 : decode cL_rules 17 = .ok (.iconst 0, 1) := by decide +kernel
theorem dL_rules_18 : decode cL_rules 18 = .ok (.ireturn, 1) := by decide +kernel
theorem dL_fact_0 : decode cL_fact 0 = .ok (.aload 4, 2) := by decide +kernel
theorem dL_fact_2 : decode cL_fact 2 = .ok (.iconst 0, 1) := by decide +kernel
theorem dL_fact_3 : decode cL_fact 3 = .ok (.aload_n 0, 1) := by decide +kernel
theorem dL_fact_4 : decode cL_fact 4 = .ok (.iload_n 1, 1) := by decide +kernel
theorem dL_fact_5 : decode cL_fact 5 = .ok (.iload_n 2, 1) := by decide +kernel
theorem dL_fact_6 : decode cL_fact 6 = .ok (.iload_n 3, 1) := by decide +kernel
theorem dL_fact_7 : decode cL_fact 7 = .ok (.invokevirtual 25, 3) := by decide +kernel
theorem dL_fact_10 : decode cL_fact 10 = .ok (.i2l, 1) := by decide +kernel
theorem dL_fact_11 : decode cL_fact 11 = .ok (.lastore, 1) := by decide +kernel
theorem dL_fact_12 : decode cL_fact 12 = .ok (.goto 11, 3) := by decide +kernel
theorem dL_fact_15 : decode cL_fact 15 = .ok (.astore 5, 2) := by decide +kernel
theorem dL_fact_17 : decode cL_fact 17 = .ok (.iconst 1, 1) := by decide +kernel
theorem dL_fact_18 : decode cL_fact 18 = .ok (.ireturn, 1) := by decide +kernel
theorem dL_fact_19 : decode cL_fact 19 = .ok (.astore 5, 2) := by decide +kernel
theorem dL_fact_21 : decode cL_fact 21 = .ok (.iconst 2, 1) := by decide +kernel
theorem dL_fact_22 : decode cL_fact 22 = .ok (.ireturn, 1) := by decide +kernel
theorem dL_fact_23 : decode cL_fact 23 = .ok (.iconst 0, 1) := by decide +kernel
theorem dL_fact_24 : decode cL_fact 24 = .ok (.ireturn, 1) := by decide +kernel
theorem dL_event_0 : decode cL_event 0 = .ok (.aload 4, 2) := by decide +kernel
theorem dL_event_2 : decode cL_event 2 = .ok (.iconst 0, 1) := by decide +kernel
theorem dL_event_3 : decode cL_event 3 = .ok (.aload_n 0, 1) := by decide +kernel
theorem dL_event_4 : decode cL_event 4 = .ok (.iload_n 1, 1) := by decide +kernel
theorem dL_event_5 : decode cL_event 5 = .ok (.iload_n 2, 1) := by decide +kernel
theorem dL_event_6 : decode cL_event 6 = .ok (.iload_n 3, 1) := by decide +kernel
theorem dL_event_7 : decode cL_event 7 = .ok (.invokevirtual 30, 3) := by decide +kernel
theorem dL_event_10 : decode cL_event 10 = .ok (.i2l, 1) := by decide +kernel
theorem dL_event_11 : decode cL_event 11 = .ok (.lastore, 1) := by decide +kernel
theorem dL_event_12 : decode cL_event 12 = .ok (.goto 11, 3) := by decide +kernel
theorem dL_event_15 : decode cL_event 15 = .ok (.astore 5, 2) := by decide +kernel
theorem dL_event_17 : decode cL_event 17 = .ok (.iconst 1, 1) := by decide +kernel
theorem dL_event_18 : decode cL_event 18 = .ok (.ireturn, 1) := by decide +kernel
theorem dL_event_19 : decode cL_event 19 = .ok (.astore 5, 2) := by decide +kernel
theorem dL_event_21 : decode cL_event 21 = .ok (.iconst 2, 1) := by decide +kernel
theorem dL_event_22 : decode cL_event 22 = .ok (.ireturn, 1) := by decide +kernel
theorem dL_event_23 : decode cL_event 23 = .ok (.iconst 0, 1) := by decide +kernel
theorem dL_event_24 : decode cL_event 24 = .ok (.ireturn, 1) := by decide +kernel
theorem dL_copy_0 : decode cL_copy 0 = .ok (.aload 4, 2) := by decide +kernel
theorem dL_copy_2 : decode cL_copy 2 = .ok (.iconst 0, 1) := by decide +kernel
theorem dL_copy_3 : decode cL_copy 3 = .ok (.aload_n 0, 1) := by decide +kernel
theorem dL_copy_4 : decode cL_copy 4 = .ok (.iload_n 1, 1) := by decide +kernel
theorem dL_copy_5 : decode cL_copy 5 = .ok (.iload_n 2, 1) := by decide +kernel
theorem dL_copy_6 : decode cL_copy 6 = .ok (.iload_n 3, 1) := by decide +kernel
theorem dL_copy_7 : decode cL_copy 7 = .ok (.invokevirtual 33, 3) := by decide +kernel
theorem dL_copy_10 : decode cL_copy 10 = .ok (.ifCond .eq 7, 3) := by decide +kernel
theorem dL_copy_13 : decode cL_copy 13 = .ok (.lconst 1, 1) := by decide +kernel
theorem dL_copy_14 : decode cL_copy 14 = .ok (.goto 4, 3) := by decide +kernel
theorem dL_copy_17 : decode cL_copy 17 = .ok (.lconst 0, 1) := by decide +kernel
theorem dL_copy_18 : decode cL_copy 18 = .ok (.lastore, 1) := by decide +kernel
theorem dL_copy_19 : decode cL_copy 19 = .ok (.goto 7, 3) := by decide +kernel
theorem dL_copy_22 : decode cL_copy 22 = .ok (.astore 5, 2) := by decide +kernel
theorem dL_copy_24 : decode cL_copy 24 = .ok (.iconst 1, 1) := by decide +kernel
theorem dL_copy_25 : decode cL_copy 25 = .ok (.ireturn, 1) := by decide +kernel
theorem dL_copy_26 : decode cL_copy 26 = .ok (.iconst 0, 1) := by decide +kernel
theorem dL_copy_27 : decode cL_copy 27 = .ok (.ireturn, 1) := by decide +kernel
theorem dL_copies_0 : decode cL_copies 0 = .ok (.aload_n 3, 1) := by decide +kernel
theorem dL_copies_1 : decode cL_copies 1 = .ok (.iconst 0, 1) := by decide +kernel
theorem dL_copies_2 : decode cL_copies 2 = .ok (.aload_n 0, 1) := by decide +kernel
theorem dL_copies_3 : decode cL_copies 3 = .ok (.iload_n 1, 1) := by decide +kernel
theorem dL_copies_4 : decode cL_copies 4 = .ok (.iload_n 2, 1) := by decide +kernel
theorem dL_copies_5 : decode cL_copies 5 = .ok (.invokevirtual 37, 3) := by decide +kernel
theorem dL_copies_8 : decode cL_copies 8 = .ok (.i2l, 1) := by decide +kernel
theorem dL_copies_9 : decode cL_copies 9 = .ok (.lastore, 1) := by decide +kernel
theorem dL_copies_10 : decode cL_copies 10 = .ok (.goto 7, 3) := by decide +kernel
theorem dL_copies_13 : decode cL_copies 13 = .ok (.astore 4, 2) := by decide +kernel
theorem dL_copies_15 : decode cL_copies 15 = .ok (.iconst 1, 1) := by decide +kernel
theorem dL_copies_16 : decode cL_copies 16 = .ok (.ireturn, 1) := by decide +kernel
theorem dL_copies_17 : decode cL_copies 17 = .ok (.iconst 0, 1) := by decide +kernel
theorem dL_copies_18 : decode cL_copies 18 = .ok (.ireturn, 1) := by decide +kernel
theorem dL_store_0 : decode cL_store 0 = .ok (.aload_n 0, 1) := by decide +kernel
theorem dL_store_1 : decode cL_store 1 = .ok (.iload_n 1, 1) := by decide +kernel
theorem dL_store_2 : decode cL_store 2 = .ok (.iload_n 2, 1) := by decide +kernel
theorem dL_store_3 : decode cL_store 3 = .ok (.iload_n 3, 1) := by decide +kernel
theorem dL_store_4 : decode cL_store 4 = .ok (.invokevirtual 40, 3) := by decide +kernel
theorem dL_store_7 : decode cL_store 7 = .ok (.goto 11, 3) := by decide +kernel
theorem dL_store_10 : decode cL_store 10 = .ok (.astore 4, 2) := by decide +kernel
theorem dL_store_12 : decode cL_store 12 = .ok (.iconst 1, 1) := by decide +kernel
theorem dL_store_13 : decode cL_store 13 = .ok (.ireturn, 1) := by decide +kernel
theorem dL_store_14 : decode cL_store 14 = .ok (.astore 4, 2) := by decide +kernel
theorem dL_store_16 : decode cL_store 16 = .ok (.iconst 2, 1) := by decide +kernel
theorem dL_store_17 : decode cL_store 17 = .ok (.ireturn, 1) := by decide +kernel
theorem dL_store_18 : decode cL_store 18 = .ok (.iconst 0, 1) := by decide +kernel
theorem dL_store_19 : decode cL_store 19 = .ok (.ireturn, 1) := by decide +kernel
theorem dL_hold_0 : decode cL_hold 0 = .ok (.aload_n 3, 1) := by decide +kernel
theorem dL_hold_1 : decode cL_hold 1 = .ok (.iconst 0, 1) := by decide +kernel
theorem dL_hold_2 : decode cL_hold 2 = .ok (.aload_n 0, 1) := by decide +kernel
theorem dL_hold_3 : decode cL_hold 3 = .ok (.iload_n 1, 1) := by decide +kernel
theorem dL_hold_4 : decode cL_hold 4 = .ok (.iload_n 2, 1) := by decide +kernel
theorem dL_hold_5 : decode cL_hold 5 = .ok (.invokevirtual 44, 3) := by decide +kernel
theorem dL_hold_8 : decode cL_hold 8 = .ok (.i2l, 1) := by decide +kernel
theorem dL_hold_9 : decode cL_hold 9 = .ok (.lastore, 1) := by decide +kernel
theorem dL_hold_10 : decode cL_hold 10 = .ok (.goto 7, 3) := by decide +kernel
theorem dL_hold_13 : decode cL_hold 13 = .ok (.astore 4, 2) := by decide +kernel
theorem dL_hold_15 : decode cL_hold 15 = .ok (.iconst 1, 1) := by decide +kernel
theorem dL_hold_16 : decode cL_hold 16 = .ok (.ireturn, 1) := by decide +kernel
theorem dL_hold_17 : decode cL_hold 17 = .ok (.iconst 0, 1) := by decide +kernel
theorem dL_hold_18 : decode cL_hold 18 = .ok (.ireturn, 1) := by decide +kernel
theorem dL_lift_0 : decode cL_lift 0 = .ok (.aload_n 2, 1) := by decide +kernel
theorem dL_lift_1 : decode cL_lift 1 = .ok (.iconst 0, 1) := by decide +kernel
theorem dL_lift_2 : decode cL_lift 2 = .ok (.aload_n 0, 1) := by decide +kernel
theorem dL_lift_3 : decode cL_lift 3 = .ok (.iload_n 1, 1) := by decide +kernel
theorem dL_lift_4 : decode cL_lift 4 = .ok (.invokevirtual 47, 3) := by decide +kernel
theorem dL_lift_7 : decode cL_lift 7 = .ok (.ifCond .eq 7, 3) := by decide +kernel
theorem dL_lift_10 : decode cL_lift 10 = .ok (.lconst 1, 1) := by decide +kernel
theorem dL_lift_11 : decode cL_lift 11 = .ok (.goto 4, 3) := by decide +kernel
theorem dL_lift_14 : decode cL_lift 14 = .ok (.lconst 0, 1) := by decide +kernel
theorem dL_lift_15 : decode cL_lift 15 = .ok (.lastore, 1) := by decide +kernel
theorem dL_lift_16 : decode cL_lift 16 = .ok (.goto 6, 3) := by decide +kernel
theorem dL_lift_19 : decode cL_lift 19 = .ok (.astore_n 3, 1) := by decide +kernel
theorem dL_lift_20 : decode cL_lift 20 = .ok (.iconst 1, 1) := by decide +kernel
theorem dL_lift_21 : decode cL_lift 21 = .ok (.ireturn, 1) := by decide +kernel
theorem dL_lift_22 : decode cL_lift 22 = .ok (.iconst 0, 1) := by decide +kernel
theorem dL_lift_23 : decode cL_lift 23 = .ok (.ireturn, 1) := by decide +kernel
theorem dL_wish_0 : decode cL_wish 0 = .ok (.aload_n 2, 1) := by decide +kernel
theorem dL_wish_1 : decode cL_wish 1 = .ok (.iconst 0, 1) := by decide +kernel
theorem dL_wish_2 : decode cL_wish 2 = .ok (.aload_n 0, 1) := by decide +kernel
theorem dL_wish_3 : decode cL_wish 3 = .ok (.iload_n 1, 1) := by decide +kernel
theorem dL_wish_4 : decode cL_wish 4 = .ok (.invokevirtual 51, 3) := by decide +kernel
theorem dL_wish_7 : decode cL_wish 7 = .ok (.i2l, 1) := by decide +kernel
theorem dL_wish_8 : decode cL_wish 8 = .ok (.lastore, 1) := by decide +kernel
theorem dL_wish_9 : decode cL_wish 9 = .ok (.goto 6, 3) := by decide +kernel
theorem dL_wish_12 : decode cL_wish 12 = .ok (.astore_n 3, 1) := by decide +kernel
theorem dL_wish_13 : decode cL_wish 13 = .ok (.iconst 1, 1) := by decide +kernel
theorem dL_wish_14 : decode cL_wish 14 = .ok (.ireturn, 1) := by decide +kernel
theorem dL_wish_15 : decode cL_wish 15 = .ok (.iconst 0, 1) := by decide +kernel
theorem dL_wish_16 : decode cL_wish 16 = .ok (.ireturn, 1) := by decide +kernel
theorem dL_span_0 : decode cL_span 0 = .ok (.aload 5, 2) := by decide +kernel
theorem dL_span_2 : decode cL_span 2 = .ok (.iconst 0, 1) := by decide +kernel
theorem dL_span_3 : decode cL_span 3 = .ok (.aload_n 0, 1) := by decide +kernel
theorem dL_span_4 : decode cL_span 4 = .ok (.iload_n 1, 1) := by decide +kernel
theorem dL_span_5 : decode cL_span 5 = .ok (.iload_n 2, 1) := by decide +kernel
theorem dL_span_6 : decode cL_span 6 = .ok (.iload_n 3, 1) := by decide +kernel
theorem dL_span_7 : decode cL_span 7 = .ok (.iload 4, 2) := by decide +kernel
theorem dL_span_9 : decode cL_span 9 = .ok (.invokevirtual 55, 3) := by decide +kernel
theorem dL_span_12 : decode cL_span 12 = .ok (.i2l, 1) := by decide +kernel
theorem dL_span_13 : decode cL_span 13 = .ok (.lastore, 1) := by decide +kernel
theorem dL_span_14 : decode cL_span 14 = .ok (.goto 7, 3) := by decide +kernel
theorem dL_span_17 : decode cL_span 17 = .ok (.astore 6, 2) := by decide +kernel
theorem dL_span_19 : decode cL_span 19 = .ok (.iconst 1, 1) := by decide +kernel
theorem dL_span_20 : decode cL_span 20 = .ok (.ireturn, 1) := by decide +kernel
theorem dL_span_21 : decode cL_span 21 = .ok (.iconst 0, 1) := by decide +kernel
theorem dL_span_22 : decode cL_span 22 = .ok (.ireturn, 1) := by decide +kernel
theorem dL_lost_0 : decode cL_lost 0 = .ok (.aload 5, 2) := by decide +kernel
theorem dL_lost_2 : decode cL_lost 2 = .ok (.iconst 0, 1) := by decide +kernel
theorem dL_lost_3 : decode cL_lost 3 = .ok (.aload_n 0, 1) := by decide +kernel
theorem dL_lost_4 : decode cL_lost 4 = .ok (.iload_n 1, 1) := by decide +kernel
theorem dL_lost_5 : decode cL_lost 5 = .ok (.iload_n 2, 1) := by decide +kernel
theorem dL_lost_6 : decode cL_lost 6 = .ok (.iload_n 3, 1) := by decide +kernel
theorem dL_lost_7 : decode cL_lost 7 = .ok (.iload 4, 2) := by decide +kernel
theorem dL_lost_9 : decode cL_lost 9 = .ok (.invokevirtual 59, 3) := by decide +kernel
theorem dL_lost_12 : decode cL_lost 12 = .ok (.i2l, 1) := by decide +kernel
theorem dL_lost_13 : decode cL_lost 13 = .ok (.lastore, 1) := by decide +kernel
theorem dL_lost_14 : decode cL_lost 14 = .ok (.goto 7, 3) := by decide +kernel
theorem dL_lost_17 : decode cL_lost 17 = .ok (.astore 6, 2) := by decide +kernel
theorem dL_lost_19 : decode cL_lost 19 = .ok (.iconst 1, 1) := by decide +kernel
theorem dL_lost_20 : decode cL_lost 20 = .ok (.ireturn, 1) := by decide +kernel
theorem dL_lost_21 : decode cL_lost 21 = .ok (.iconst 0, 1) := by decide +kernel
theorem dL_lost_22 : decode cL_lost 22 = .ok (.ireturn, 1) := by decide +kernel
theorem dL_why_0 : decode cL_why 0 = .ok (.aload_n 3, 1) := by decide +kernel
theorem dL_why_1 : decode cL_why 1 = .ok (.iconst 0, 1) := by decide +kernel
theorem dL_why_2 : decode cL_why 2 = .ok (.aload_n 0, 1) := by decide +kernel
theorem dL_why_3 : decode cL_why 3 = .ok (.iload_n 1, 1) := by decide +kernel
theorem dL_why_4 : decode cL_why 4 = .ok (.iload_n 2, 1) := by decide +kernel
theorem dL_why_5 : decode cL_why 5 = .ok (.invokevirtual 62, 3) := by decide +kernel
theorem dL_why_8 : decode cL_why 8 = .ok (.i2l, 1) := by decide +kernel
theorem dL_why_9 : decode cL_why 9 = .ok (.lastore, 1) := by decide +kernel
theorem dL_why_10 : decode cL_why 10 = .ok (.goto 7, 3) := by decide +kernel
theorem dL_why_13 : decode cL_why 13 = .ok (.astore 4, 2) := by decide +kernel
theorem dL_why_15 : decode cL_why 15 = .ok (.iconst 1, 1) := by decide +kernel
theorem dL_why_16 : decode cL_why 16 = .ok (.ireturn, 1) := by decide +kernel
theorem dL_why_17 : decode cL_why 17 = .ok (.iconst 0, 1) := by decide +kernel
theorem dL_why_18 : decode cL_why 18 = .ok (.ireturn, 1) := by decide +kernel
theorem dL_places_0 : decode cL_places 0 = .ok (.aload_n 3, 1) := by decide +kernel
theorem dL_places_1 : decode cL_places 1 = .ok (.iconst 0, 1) := by decide +kernel
theorem dL_places_2 : decode cL_places 2 = .ok (.aload_n 0, 1) := by decide +kernel
theorem dL_places_3 : decode cL_places 3 = .ok (.iload_n 1, 1) := by decide +kernel
theorem dL_places_4 : decode cL_places 4 = .ok (.iload_n 2, 1) := by decide +kernel
theorem dL_places_5 : decode cL_places 5 = .ok (.invokevirtual 65, 3) := by decide +kernel
theorem dL_places_8 : decode cL_places 8 = .ok (.i2l, 1) := by decide +kernel
theorem dL_places_9 : decode cL_places 9 = .ok (.lastore, 1) := by decide +kernel
theorem dL_places_10 : decode cL_places 10 = .ok (.goto 7, 3) := by decide +kernel
theorem dL_places_13 : decode cL_places 13 = .ok (.astore 4, 2) := by decide +kernel
theorem dL_places_15 : decode cL_places 15 = .ok (.iconst 1, 1) := by decide +kernel
theorem dL_places_16 : decode cL_places 16 = .ok (.ireturn, 1) := by decide +kernel
theorem dL_places_17 : decode cL_places 17 = .ok (.iconst 0, 1) := by decide +kernel
theorem dL_places_18 : decode cL_places 18 = .ok (.ireturn, 1) := by decide +kernel
theorem dL_planned_0 : decode cL_planned 0 = .ok (.aload 4, 2) := by decide +kernel
theorem dL_planned_2 : decode cL_planned 2 = .ok (.iconst 0, 1) := by decide +kernel
theorem dL_planned_3 : decode cL_planned 3 = .ok (.aload_n 0, 1) := by decide +kernel
theorem dL_planned_4 : decode cL_planned 4 = .ok (.iload_n 1, 1) := by decide +kernel
theorem dL_planned_5 : decode cL_planned 5 = .ok (.iload_n 2, 1) := by decide +kernel
theorem dL_planned_6 : decode cL_planned 6 = .ok (.iload_n 3, 1) := by decide +kernel
theorem dL_planned_7 : decode cL_planned 7 = .ok (.invokevirtual 68, 3) := by decide +kernel
theorem dL_planned_10 : decode cL_planned 10 = .ok (.i2l, 1) := by decide +kernel
theorem dL_planned_11 : decode cL_planned 11 = .ok (.lastore, 1) := by decide +kernel
theorem dL_planned_12 : decode cL_planned 12 = .ok (.goto 7, 3) := by decide +kernel
theorem dL_planned_15 : decode cL_planned 15 = .ok (.astore 5, 2) := by decide +kernel
theorem dL_planned_17 : decode cL_planned 17 = .ok (.iconst 1, 1) := by decide +kernel
theorem dL_planned_18 : decode cL_planned 18 = .ok (.ireturn, 1) := by decide +kernel
theorem dL_planned_19 : decode cL_planned 19 = .ok (.iconst 0, 1) := by decide +kernel
theorem dL_planned_20 : decode cL_planned 20 = .ok (.ireturn, 1) := by decide +kernel
theorem dL_differ_0 : decode cL_differ 0 = .ok (.aload_n 3, 1) := by decide +kernel
theorem dL_differ_1 : decode cL_differ 1 = .ok (.iconst 0, 1) := by decide +kernel
theorem dL_differ_2 : decode cL_differ 2 = .ok (.aload_n 0, 1) := by decide +kernel
theorem dL_differ_3 : decode cL_differ 3 = .ok (.iload_n 1, 1) := by decide +kernel
theorem dL_differ_4 : decode cL_differ 4 = .ok (.iload_n 2, 1) := by decide +kernel
theorem dL_differ_5 : decode cL_differ 5 = .ok (.invokevirtual 71, 3) := by decide +kernel
theorem dL_differ_8 : decode cL_differ 8 = .ok (.i2l, 1) := by decide +kernel
theorem dL_differ_9 : decode cL_differ 9 = .ok (.lastore, 1) := by decide +kernel
theorem dL_differ_10 : decode cL_differ 10 = .ok (.goto 7, 3) := by decide +kernel
theorem dL_differ_13 : decode cL_differ 13 = .ok (.astore 4, 2) := by decide +kernel
theorem dL_differ_15 : decode cL_differ 15 = .ok (.iconst 1, 1) := by decide +kernel
theorem dL_differ_16 : decode cL_differ 16 = .ok (.ireturn, 1) := by decide +kernel
theorem dL_differ_17 : decode cL_differ 17 = .ok (.iconst 0, 1) := by decide +kernel
theorem dL_differ_18 : decode cL_differ 18 = .ok (.ireturn, 1) := by decide +kernel
theorem dL_bites_0 : decode cL_bites 0 = .ok (.aload_n 3, 1) := by decide +kernel
theorem dL_bites_1 : decode cL_bites 1 = .ok (.iconst 0, 1) := by decide +kernel
theorem dL_bites_2 : decode cL_bites 2 = .ok (.aload_n 0, 1) := by decide +kernel
theorem dL_bites_3 : decode cL_bites 3 = .ok (.iload_n 1, 1) := by decide +kernel
theorem dL_bites_4 : decode cL_bites 4 = .ok (.iload_n 2, 1) := by decide +kernel
theorem dL_bites_5 : decode cL_bites 5 = .ok (.invokevirtual 74, 3) := by decide +kernel
theorem dL_bites_8 : decode cL_bites 8 = .ok (.ifCond .eq 7, 3) := by decide +kernel
theorem dL_bites_11 : decode cL_bites 11 = .ok (.lconst 1, 1) := by decide +kernel
theorem dL_bites_12 : decode cL_bites 12 = .ok (.goto 4, 3) := by decide +kernel
theorem dL_bites_15 : decode cL_bites 15 = .ok (.lconst 0, 1) := by decide +kernel
theorem dL_bites_16 : decode cL_bites 16 = .ok (.lastore, 1) := by decide +kernel
theorem dL_bites_17 : decode cL_bites 17 = .ok (.goto 7, 3) := by decide +kernel
theorem dL_bites_20 : decode cL_bites 20 = .ok (.astore 4, 2) := by decide +kernel
theorem dL_bites_22 : decode cL_bites 22 = .ok (.iconst 1, 1) := by decide +kernel
theorem dL_bites_23 : decode cL_bites 23 = .ok (.ireturn, 1) := by decide +kernel
theorem dL_bites_24 : decode cL_bites 24 = .ok (.iconst 0, 1) := by decide +kernel
theorem dL_bites_25 : decode cL_bites 25 = .ok (.ireturn, 1) := by decide +kernel
theorem dL_days_0 : decode cL_days 0 = .ok (.aload_n 2, 1) := by decide +kernel
theorem dL_days_1 : decode cL_days 1 = .ok (.iconst 0, 1) := by decide +kernel
theorem dL_days_2 : decode cL_days 2 = .ok (.aload_n 0, 1) := by decide +kernel
theorem dL_days_3 : decode cL_days 3 = .ok (.iload_n 1, 1) := by decide +kernel
theorem dL_days_4 : decode cL_days 4 = .ok (.invokevirtual 78, 3) := by decide +kernel
theorem dL_days_7 : decode cL_days 7 = .ok (.i2l, 1) := by decide +kernel
theorem dL_days_8 : decode cL_days 8 = .ok (.lastore, 1) := by decide +kernel
theorem dL_days_9 : decode cL_days 9 = .ok (.goto 6, 3) := by decide +kernel
theorem dL_days_12 : decode cL_days 12 = .ok (.astore_n 3, 1) := by decide +kernel
theorem dL_days_13 : decode cL_days 13 = .ok (.iconst 1, 1) := by decide +kernel
theorem dL_days_14 : decode cL_days 14 = .ok (.ireturn, 1) := by decide +kernel
theorem dL_days_15 : decode cL_days 15 = .ok (.iconst 0, 1) := by decide +kernel
theorem dL_days_16 : decode cL_days 16 = .ok (.ireturn, 1) := by decide +kernel
theorem dL_entry_0 : decode cL_entry 0 = .ok (.aload_n 3, 1) := by decide +kernel
theorem dL_entry_1 : decode cL_entry 1 = .ok (.iconst 0, 1) := by decide +kernel
theorem dL_entry_2 : decode cL_entry 2 = .ok (.aload_n 0, 1) := by decide +kernel
theorem dL_entry_3 : decode cL_entry 3 = .ok (.iload_n 1, 1) := by decide +kernel
theorem dL_entry_4 : decode cL_entry 4 = .ok (.iload_n 2, 1) := by decide +kernel
theorem dL_entry_5 : decode cL_entry 5 = .ok (.invokevirtual 81, 3) := by decide +kernel
theorem dL_entry_8 : decode cL_entry 8 = .ok (.i2l, 1) := by decide +kernel
theorem dL_entry_9 : decode cL_entry 9 = .ok (.lastore, 1) := by decide +kernel
theorem dL_entry_10 : decode cL_entry 10 = .ok (.goto 7, 3) := by decide +kernel
theorem dL_entry_13 : decode cL_entry 13 = .ok (.astore 4, 2) := by decide +kernel
theorem dL_entry_15 : decode cL_entry 15 = .ok (.iconst 1, 1) := by decide +kernel
theorem dL_entry_16 : decode cL_entry 16 = .ok (.ireturn, 1) := by decide +kernel
theorem dL_entry_17 : decode cL_entry 17 = .ok (.iconst 0, 1) := by decide +kernel
theorem dL_entry_18 : decode cL_entry 18 = .ok (.ireturn, 1) := by decide +kernel
theorem dL_count_0 : decode cL_count 0 = .ok (.aload_n 2, 1) := by decide +kernel
theorem dL_count_1 : decode cL_count 1 = .ok (.iconst 0, 1) := by decide +kernel
theorem dL_count_2 : decode cL_count 2 = .ok (.aload_n 0, 1) := by decide +kernel
theorem dL_count_3 : decode cL_count 3 = .ok (.iload_n 1, 1) := by decide +kernel
theorem dL_count_4 : decode cL_count 4 = .ok (.invokevirtual 84, 3) := by decide +kernel
theorem dL_count_7 : decode cL_count 7 = .ok (.i2l, 1) := by decide +kernel
theorem dL_count_8 : decode cL_count 8 = .ok (.lastore, 1) := by decide +kernel
theorem dL_count_9 : decode cL_count 9 = .ok (.goto 6, 3) := by decide +kernel
theorem dL_count_12 : decode cL_count 12 = .ok (.astore_n 3, 1) := by decide +kernel
theorem dL_count_13 : decode cL_count 13 = .ok (.iconst 1, 1) := by decide +kernel
theorem dL_count_14 : decode cL_count 14 = .ok (.ireturn, 1) := by decide +kernel
theorem dL_count_15 : decode cL_count 15 = .ok (.iconst 0, 1) := by decide +kernel
theorem dL_count_16 : decode cL_count 16 = .ok (.ireturn, 1) := by decide +kernel
