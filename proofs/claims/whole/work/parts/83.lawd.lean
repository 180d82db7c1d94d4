theorem dL_account_0 : decode cL_account 0 = .ok (.aload_n 2, 1) := by decide +kernel
theorem dL_account_1 : decode cL_account 1 = .ok (.iconst 0, 1) := by decide +kernel
theorem dL_account_2 : decode cL_account 2 = .ok (.aload_n 0, 1) := by decide +kernel
theorem dL_account_3 : decode cL_account 3 = .ok (.iload_n 1, 1) := by decide +kernel
theorem dL_account_4 : decode cL_account 4 = .ok (.invokevirtual 99, 3) := by decide +kernel
theorem dL_account_7 : decode cL_account 7 = .ok (.i2l, 1) := by decide +kernel
theorem dL_account_8 : decode cL_account 8 = .ok (.lastore, 1) := by decide +kernel
theorem dL_account_9 : decode cL_account 9 = .ok (.goto 6, 3) := by decide +kernel
theorem dL_account_12 : decode cL_account 12 = .ok (.astore_n 3, 1) := by decide +kernel
theorem dL_account_13 : decode cL_account 13 = .ok (.iconst 1, 1) := by decide +kernel
theorem dL_account_14 : decode cL_account 14 = .ok (.ireturn, 1) := by decide +kernel
theorem dL_account_15 : decode cL_account 15 = .ok (.iconst 0, 1) := by decide +kernel
theorem dL_account_16 : decode cL_account 16 = .ok (.ireturn, 1) := by decide +kernel
theorem dL_bestFor_0 : decode cL_bestFor 0 = .ok (.aload_n 2, 1) := by decide +kernel
theorem dL_bestFor_1 : decode cL_bestFor 1 = .ok (.iconst 0, 1) := by decide +kernel
theorem dL_bestFor_2 : decode cL_bestFor 2 = .ok (.aload_n 0, 1) := by decide +kernel
theorem dL_bestFor_3 : decode cL_bestFor 3 = .ok (.iload_n 1, 1) := by decide +kernel
theorem dL_bestFor_4 : decode cL_bestFor 4 = .ok (.invokevirtual 71, 3) := by decide +kernel
theorem dL_bestFor_7 : decode cL_bestFor 7 = .ok (.i2l, 1) := by decide +kernel
theorem dL_bestFor_8 : decode cL_bestFor 8 = .ok (.lastore, 1) := by decide +kernel
theorem dL_bestFor_9 : decode cL_bestFor 9 = .ok (.goto 6, 3) := by decide +kernel
theorem dL_bestFor_12 : decode cL_bestFor 12 = .ok (.astore_n 3, 1) := by decide +kernel
theorem dL_bestFor_13 : decode cL_bestFor 13 = .ok (.iconst 1, 1) := by decide +kernel
theorem dL_bestFor_14 : decode cL_bestFor 14 = .ok (.ireturn, 1) := by decide +kernel
theorem dL_bestFor_15 : decode cL_bestFor 15 = .ok (.iconst 0, 1) := by decide +kernel
theorem dL_bestFor_16 : decode cL_bestFor 16 = .ok (.ireturn, 1) := by decide +kernel
theorem dL_car_0 : decode cL_car 0 = .ok (.aload_n 3, 1) := by decide +kernel
theorem dL_car_1 : decode cL_car 1 = .ok (.iconst 0, 1) := by decide +kernel
theorem dL_car_2 : decode cL_car 2 = .ok (.aload_n 0, 1) := by decide +kernel
theorem dL_car_3 : decode cL_car 3 = .ok (.iload_n 1, 1) := by decide +kernel
theorem dL_car_4 : decode cL_car 4 = .ok (.iload_n 2, 1) := by decide +kernel
theorem dL_car_5 : decode cL_car 5 = .ok (.invokevirtual 37, 3) := by decide +kernel
theorem dL_car_8 : decode cL_car 8 = .ok (.i2l, 1) := by decide +kernel
theorem dL_car_9 : decode cL_car 9 = .ok (.lastore, 1) := by decide +kernel
theorem dL_car_10 : decode cL_car 10 = .ok (.goto 11, 3) := by decide +kernel
theorem dL_car_13 : decode cL_car 13 = .ok (.astore 4, 2) := by decide +kernel
theorem dL_car_15 : decode cL_car 15 = .ok (.iconst 1, 1) := by decide +kernel
theorem dL_car_16 : decode cL_car 16 = .ok (.ireturn, 1) := by decide +kernel
theorem dL_car_17 : decode cL_car 17 = .ok (.astore 4, 2) := by decide +kernel
theorem dL_car_19 : decode cL_car 19 = .ok (.iconst 2, 1) := by decide +kernel
theorem dL_car_20 : decode cL_car 20 = .ok (.ireturn, 1) := by decide +kernel
theorem dL_car_21 : decode cL_car 21 = .ok (.iconst 0, 1) := by decide +kernel
theorem dL_car_22 : decode cL_car 22 = .ok (.ireturn, 1) := by decide +kernel
theorem dL_come_0 : decode cL_come 0 = .ok (.aload_n 2, 1) := by decide +kernel
theorem dL_come_1 : decode cL_come 1 = .ok (.iconst 0, 1) := by decide +kernel
theorem dL_come_2 : decode cL_come 2 = .ok (.aload_n 0, 1) := by decide +kernel
theorem dL_come_3 : decode cL_come 3 = .ok (.iload_n 1, 1) := by decide +kernel
theorem dL_come_4 : decode cL_come 4 = .ok (.invokevirtual 93, 3) := by decide +kernel
theorem dL_come_7 : decode cL_come 7 = .ok (.ifCond .eq 7, 3) := by decide +kernel
theorem dL_come_10 : decode cL_come 10 = .ok (.lconst 1, 1) := by decide +kernel
theorem dL_come_11 : decode cL_come 11 = .ok (.goto 4, 3) := by decide +kernel
theorem dL_come_14 : decode cL_come 14 = .ok (.lconst 0, 1) := by decide +kernel
theorem dL_come_15 : decode cL_come 15 = .ok (.lastore, 1) := by decide +kernel
theorem dL_come_16 : decode cL_come 16 = .ok (.goto 6, 3) := by decide +kernel
theorem dL_come_19 : decode cL_come 19 = .ok (.astore_n 3, 1) := by decide +kernel
theorem dL_come_20 : decode cL_come 20 = .ok (.iconst 1, 1) := by decide +kernel
theorem dL_come_21 : decode cL_come 21 = .ok (.ireturn, 1) := by decide +kernel
theorem dL_come_22 : decode cL_come 22 = .ok (.iconst 0, 1) := by decide +kernel
theorem dL_come_23 : decode cL_come 23 = .ok (.ireturn, 1) := by decide +kernel
theorem dL_degree_0 : decode cL_degree 0 = .ok (.aload_n 2, 1) := by decide +kernel
theorem dL_degree_1 : decode cL_degree 1 = .ok (.iconst 0, 1) := by decide +kernel
theorem dL_degree_2 : decode cL_degree 2 = .ok (.aload_n 0, 1) := by decide +kernel
theorem dL_degree_3 : decode cL_degree 3 = .ok (.iload_n 1, 1) := by decide +kernel
theorem dL_degree_4 : decode cL_degree 4 = .ok (.invokevirtual 58, 3) := by decide +kernel
theorem dL_degree_7 : decode cL_degree 7 = .ok (.i2l, 1) := by decide +kernel
theorem dL_degree_8 : decode cL_degree 8 = .ok (.lastore, 1) := by decide +kernel
theorem dL_degree_9 : decode cL_degree 9 = .ok (.goto 6, 3) := by decide +kernel
theorem dL_degree_12 : decode cL_degree 12 = .ok (.astore_n 3, 1) := by decide +kernel
theorem dL_degree_13 : decode cL_degree 13 = .ok (.iconst 1, 1) := by decide +kernel
theorem dL_degree_14 : decode cL_degree 14 = .ok (.ireturn, 1) := by decide +kernel
theorem dL_degree_15 : decode cL_degree 15 = .ok (.iconst 0, 1) := by decide +kernel
theorem dL_degree_16 : decode cL_degree 16 = .ok (.ireturn, 1) := by decide +kernel
theorem dL_far_0 : decode cL_far 0 = .ok (.aload_n 3, 1) := by decide +kernel
theorem dL_far_1 : decode cL_far 1 = .ok (.iconst 0, 1) := by decide +kernel
theorem dL_far_2 : decode cL_far 2 = .ok (.aload_n 0, 1) := by decide +kernel
theorem dL_far_3 : decode cL_far 3 = .ok (.iload_n 1, 1) := by decide +kernel
theorem dL_far_4 : decode cL_far 4 = .ok (.iload_n 2, 1) := by decide +kernel
theorem dL_far_5 : decode cL_far 5 = .ok (.invokevirtual 61, 3) := by decide +kernel
theorem dL_far_8 : decode cL_far 8 = .ok (.i2l, 1) := by decide +kernel
theorem dL_far_9 : decode cL_far 9 = .ok (.lastore, 1) := by decide +kernel
theorem dL_far_10 : decode cL_far 10 = .ok (.goto 7, 3) := by decide +kernel
theorem dL_far_13 : decode cL_far 13 = .ok (.astore 4, 2) := by decide +kernel
theorem dL_far_15 : decode cL_far 15 = .ok (.iconst 1, 1) := by decide +kernel
theorem dL_far_16 : decode cL_far 16 = .ok (.ireturn, 1) := by decide +kernel
theorem dL_far_17 : decode cL_far 17 = .ok (.iconst 0, 1) := by decide +kernel
theorem dL_far_18 : decode cL_far 18 = .ok (.ireturn, 1) := by decide +kernel
theorem dL_feed_0 : decode cL_feed 0 = .ok (.aload 6, 2) := by decide +kernel
theorem dL_feed_2 : decode cL_feed 2 = .ok (.iconst 0, 1) := by decide +kernel
theorem dL_feed_3 : decode cL_feed 3 = .ok (.aload_n 0, 1) := by decide +kernel
theorem dL_feed_4 : decode cL_feed 4 = .ok (.iload_n 1, 1) := by decide +kernel
theorem dL_feed_5 : decode cL_feed 5 = .ok (.iload_n 2, 1) := by decide +kernel
theorem dL_feed_6 : decode cL_feed 6 = .ok (.iload_n 3, 1) := by decide +kernel
theorem dL_feed_7 : decode cL_feed 7 = .ok (.iload 4, 2) := by decide +kernel
theorem dL_feed_9 : decode cL_feed 9 = .ok (.iload 5, 2) := by decide +kernel
theorem dL_feed_11 : decode cL_feed 11 = .ok (.invokevirtual 7, 3) := by decide +kernel
theorem dL_feed_14 : decode cL_feed 14 = .ok (.i2l, 1) := by decide +kernel
theorem dL_feed_15 : decode cL_feed 15 = .ok (.lastore, 1) := by decide +kernel
theorem dL_feed_16 : decode cL_feed 16 = .ok (.goto 7, 3) := by decide +kernel
theorem dL_feed_19 : decode cL_feed 19 = .ok (.astore 7, 2) := by decide +kernel
theorem dL_feed_21 : decode cL_feed 21 = .ok (.iconst 1, 1) := by decide +kernel
theorem dL_feed_22 : decode cL_feed 22 = .ok (.ireturn, 1) := by decide +kernel
theorem dL_feed_23 : decode cL_feed 23 = .ok (.iconst 0, 1) := by decide +kernel
theorem dL_feed_24 : decode cL_feed 24 = .ok (.ireturn, 1) := by decide +kernel
theorem dL_go_0 : decode cL_go 0 = .ok (.aload_n 2, 1) := by decide +kernel
theorem dL_go_1 : decode cL_go 1 = .ok (.iconst 0, 1) := by decide +kernel
theorem dL_go_2 : decode cL_go 2 = .ok (.aload_n 0, 1) := by decide +kernel
theorem dL_go_3 : decode cL_go 3 = .ok (.iload_n 1, 1) := by decide +kernel
theorem dL_go_4 : decode cL_go 4 = .ok (.invokevirtual 96, 3) := by decide +kernel
theorem dL_go_7 : decode cL_go 7 = .ok (.ifCond .eq 7, 3) := by decide +kernel
theorem dL_go_10 : decode cL_go 10 = .ok (.lconst 1, 1) := by decide +kernel
theorem dL_go_11 : decode cL_go 11 = .ok (.goto 4, 3) := by decide +kernel
theorem dL_go_14 : decode cL_go 14 = .ok (.lconst 0, 1) := by decide +kernel
theorem dL_go_15 : decode cL_go 15 = .ok (.lastore, 1) := by decide +kernel
theorem dL_go_16 : decode cL_go 16 = .ok (.goto 6, 3) := by decide +kernel
theorem dL_go_19 : decode cL_go 19 = .ok (.astore_n 3, 1) := by decide +kernel
theorem dL_go_20 : decode cL_go 20 = .ok (.iconst 1, 1) := by decide +kernel
theorem dL_go_21 : decode cL_go 21 = .ok (.ireturn, 1) := by decide +kernel
theorem dL_go_22 : decode cL_go 22 = .ok (.iconst 0, 1) := by decide +kernel
theorem dL_go_23 : decode cL_go 23 = .ok (.ireturn, 1) := by decide +kernel
theorem dL_inWay_0 : decode cL_inWay 0 = .ok (.aload_n 2, 1) := by decide +kernel
theorem dL_inWay_1 : decode cL_inWay 1 = .ok (.iconst 0, 1) := by decide +kernel
theorem dL_inWay_2 : decode cL_inWay 2 = .ok (.aload_n 0, 1) := by decide +kernel
theorem dL_inWay_3 : decode cL_inWay 3 = .ok (.iload_n 1, 1) := by decide +kernel
theorem dL_inWay_4 : decode cL_inWay 4 = .ok (.invokevirtual 55, 3) := by decide +kernel
theorem dL_inWay_7 : decode cL_inWay 7 = .ok (.i2l, 1) := by decide +kernel
theorem dL_inWay_8 : decode cL_inWay 8 = .ok (.lastore, 1) := by decide +kernel
theorem dL_inWay_9 : decode cL_inWay 9 = .ok (.goto 6, 3) := by decide +kernel
theorem dL_inWay_12 : decode cL_inWay 12 = .ok (.astore_n 3, 1) := by decide +kernel
theorem dL_inWay_13 : decode cL_inWay 13 = .ok (.iconst 1, 1) := by decide +kernel
theorem dL_inWay_14 : decode cL_inWay 14 = .ok (.ireturn, 1) := by decide +kernel
theorem dL_inWay_15 : decode cL_inWay 15 = .ok (.iconst 0, 1) := by decide +kernel
theorem dL_inWay_16 : decode cL_inWay 16 = .ok (.ireturn, 1) := by decide +kernel
theorem dL_latest_0 : decode cL_latest 0 = .ok (.aload_n 2, 1) := by decide +kernel
theorem dL_latest_1 : decode cL_latest 1 = .ok (.iconst 0, 1) := by decide +kernel
theorem dL_latest_2 : decode cL_latest 2 = .ok (.aload_n 0, 1) := by decide +kernel
theorem dL_latest_3 : decode cL_latest 3 = .ok (.iload_n 1, 1) := by decide +kernel
theorem dL_latest_4 : decode cL_latest 4 = .ok (.invokevirtual 74, 3) := by decide +kernel
theorem dL_latest_7 : decode cL_latest 7 = .ok (.i2l, 1) := by decide +kernel
theorem dL_latest_8 : decode cL_latest 8 = .ok (.lastore, 1) := by decide +kernel
theorem dL_latest_9 : decode cL_latest 9 = .ok (.goto 6, 3) := by decide +kernel
theorem dL_latest_12 : decode cL_latest 12 = .ok (.astore_n 3, 1) := by decide +kernel
theorem dL_latest_13 : decode cL_latest 13 = .ok (.iconst 1, 1) := by decide +kernel
theorem dL_latest_14 : decode cL_latest 14 = .ok (.ireturn, 1) := by decide +kernel
theorem dL_latest_15 : decode cL_latest 15 = .ok (.iconst 0, 1) := by decide +kernel
theorem dL_latest_16 : decode cL_latest 16 = .ok (.ireturn, 1) := by decide +kernel
theorem dL_letter_0 : decode cL_letter 0 = .ok (.aload_n 3, 1) := by decide +kernel
theorem dL_letter_1 : decode cL_letter 1 = .ok (.iconst 0, 1) := by decide +kernel
theorem dL_letter_2 : decode cL_letter 2 = .ok (.aload_n 0, 1) := by decide +kernel
theorem dL_letter_3 : decode cL_letter 3 = .ok (.iload_n 1, 1) := by decide +kernel
theorem dL_letter_4 : decode cL_letter 4 = .ok (.iload_n 2, 1) := by decide +kernel
theorem dL_letter_5 : decode cL_letter 5 = .ok (.invokevirtual 31, 3) := by decide +kernel
theorem dL_letter_8 : decode cL_letter 8 = .ok (.i2l, 1) := by decide +kernel
theorem dL_letter_9 : decode cL_letter 9 = .ok (.lastore, 1) := by decide +kernel
theorem dL_letter_10 : decode cL_letter 10 = .ok (.goto 7, 3) := by decide +kernel
theorem dL_letter_13 : decode cL_letter 13 = .ok (.astore 4, 2) := by decide +kernel
theorem dL_letter_15 : decode cL_letter 15 = .ok (.iconst 1, 1) := by decide +kernel
theorem dL_letter_16 : decode cL_letter 16 = .ok (.ireturn, 1) := by decide +kernel
theorem dL_letter_17 : decode cL_letter 17 = .ok (.iconst 0, 1) := by decide +kernel
theorem dL_letter_18 : decode cL_letter 18 = .ok (.ireturn, 1) := by decide +kernel
theorem dL_longestAfter_0 : decode cL_longestAfter 0 = .ok (.aload_n 2, 1) := by decide +kernel
theorem dL_longestAfter_1 : decode cL_longestAfter 1 = .ok (.iconst 0, 1) := by decide +kernel
theorem dL_longestAfter_2 : decode cL_longestAfter 2 = .ok (.aload_n 0, 1) := by decide +kernel
theorem dL_longestAfter_3 : decode cL_longestAfter 3 = .ok (.iload_n 1, 1) := by decide +kernel
theorem dL_longestAfter_4 : decode cL_longestAfter 4 = .ok (.invokevirtual 52, 3) := by decide +kernel
theorem dL_longestAfter_7 : decode cL_longestAfter 7 = .ok (.i2l, 1) := by decide +kernel
theorem dL_longestAfter_8 : decode cL_longestAfter 8 = .ok (.lastore, 1) := by decide +kernel
theorem dL_longestAfter_9 : decode cL_longestAfter 9 = .ok (.goto 6, 3) := by decide +kernel
theorem dL_longestAfter_12 : decode cL_longestAfter 12 = .ok (.astore_n 3, 1) := by decide +kernel
theorem dL_longestAfter_13 : decode cL_longestAfter 13 = .ok (.iconst 1, 1) := by decide +kernel
theorem dL_longestAfter_14 : decode cL_longestAfter 14 = .ok (.ireturn, 1) := by decide +kernel
theorem dL_longestAfter_15 : decode cL_longestAfter 15 = .ok (.iconst 0, 1) := by decide +kernel
theorem dL_longestAfter_16 : decode cL_longestAfter 16 = .ok (.ireturn, 1) := by decide +kernel
theorem dL_prefer_0 : decode cL_prefer 0 = .ok (.aload_n 3, 1) := by decide +kernel
theorem dL_prefer_1 : decode cL_prefer 1 = .ok (.iconst 0, 1) := by decide +kernel
theorem dL_prefer_2 : decode cL_prefer 2 = .ok (.aload_n 0, 1) := by decide +kernel
theorem dL_prefer_3 : decode cL_prefer 3 = .ok (.iload_n 1, 1) := by decide +kernel
theorem dL_prefer_4 : decode cL_prefer 4 = .ok (.iload_n 2, 1) := by decide +kernel
theorem dL_prefer_5 : decode cL_prefer 5 = .ok (.invokevirtual 80, 3) := by decide +kernel
theorem dL_prefer_8 : decode cL_prefer 8 = .ok (.i2l, 1) := by decide +kernel
theorem dL_prefer_9 : decode cL_prefer 9 = .ok (.lastore, 1) := by decide +kernel
theorem dL_prefer_10 : decode cL_prefer 10 = .ok (.goto 11, 3) := by decide +kernel
theorem dL_prefer_13 : decode cL_prefer 13 = .ok (.astore 4, 2) := by decide +kernel
theorem dL_prefer_15 : decode cL_prefer 15 = .ok (.iconst 1, 1) := by decide +kernel
theorem dL_prefer_16 : decode cL_prefer 16 = .ok (.ireturn, 1) := by decide +kernel
theorem dL_prefer_17 : decode cL_prefer 17 = .ok (.astore 4, 2) := by decide +kernel
theorem dL_prefer_19 : decode cL_prefer 19 = .ok (.iconst 2, 1) := by decide +kernel
theorem dL_prefer_20 : decode cL_prefer 20 = .ok (.ireturn, 1) := by decide +kernel
theorem dL_prefer_21 : decode cL_prefer 21 = .ok (.iconst 0, 1) := by decide +kernel
theorem dL_prefer_22 : decode cL_prefer 22 = .ok (.ireturn, 1) := by decide +kernel
theorem dL_readText_0 : decode cL_readText 0 = .ok (.aload_n 1, 1) := by decide +kernel
theorem dL_readText_1 : decode cL_readText 1 = .ok (.iconst 0, 1) := by decide +kernel
theorem dL_readText_2 : decode cL_readText 2 = .ok (.aload_n 0, 1) := by decide +kernel
theorem dL_readText_3 : decode cL_readText 3 = .ok (.invokevirtual 21, 3) := by decide +kernel
theorem dL_readText_6 : decode cL_readText 6 = .ok (.i2l, 1) := by decide +kernel
theorem dL_readText_7 : decode cL_readText 7 = .ok (.lastore, 1) := by decide +kernel
theorem dL_readText_8 : decode cL_readText 8 = .ok (.goto 6, 3) := by decide +kernel
theorem dL_readText_11 : decode cL_readText 11 = .ok (.astore_n 2, 1) := by decide +kernel
theorem dL_readText_12 : decode cL_readText 12 = .ok (.iconst 1, 1) := by decide +kernel
theorem dL_readText_13 : decode cL_readText 13 = .ok (.ireturn, 1) := by decide +kernel
theorem dL_readText_14 : decode cL_readText 14 = .ok (.iconst 0, 1) := by decide +kernel
theorem dL_readText_15 : decode cL_readText 15 = .ok (.ireturn, 1) := by decide +kernel
theorem dL_reportByte_0 : decode cL_reportByte 0 = .ok (.aload_n 2, 1) := by decide +kernel
theorem dL_reportByte_1 : decode cL_reportByte 1 = .ok (.iconst 0, 1) := by decide +kernel
theorem dL_reportByte_2 : decode cL_reportByte 2 = .ok (.aload_n 0, 1) := by decide +kernel
theorem dL_reportByte_3 : decode cL_reportByte 3 = .ok (.iload_n 1, 1) := by decide +kernel
theorem dL_reportByte_4 : decode cL_reportByte 4 = .ok (.invokevirtual 102, 3) := by decide +kernel
theorem dL_reportByte_7 : decode cL_reportByte 7 = .ok (.i2l, 1) := by decide +kernel
theorem dL_reportByte_8 : decode cL_reportByte 8 = .ok (.lastore, 1) := by decide +kernel
theorem dL_reportByte_9 : decode cL_reportByte 9 = .ok (.goto 6, 3) := by decide +kernel
theorem dL_reportByte_12 : decode cL_reportByte 12 = .ok (.astore_n 3, 1) := by decide +kernel
theorem dL_reportByte_13 : decode cL_reportByte 13 = .ok (.iconst 1, 1) := by decide +kernel
theorem dL_reportByte_14 : decode cL_reportByte 14 = .ok (.ireturn, 1) := by decide +kernel
theorem dL_reportByte_15 : decode cL_reportByte 15 = .ok (.iconst 0, 1) := by decide +kernel
theorem dL_reportByte_16 : decode cL_reportByte 16 = .ok (.ireturn, 1) := by decide +kernel
theorem dL_restore_0 : decode cL_restore 0 = .ok (.aload_n 1, 1) := by decide +kernel
theorem dL_restore_1 : decode cL_restore 1 = .ok (.iconst 0, 1) := by decide +kernel
theorem dL_restore_2 : decode cL_restore 2 = .ok (.aload_n 0, 1) := by decide +kernel
theorem dL_restore_3 : decode cL_restore 3 = .ok (.invokevirtual 105, 3) := by decide +kernel
theorem dL_restore_6 : decode cL_restore 6 = .ok (.i2l, 1) := by decide +kernel
theorem dL_restore_7 : decode cL_restore 7 = .ok (.lastore, 1) := by decide +kernel
theorem dL_restore_8 : decode cL_restore 8 = .ok (.goto 6, 3) := by decide +kernel
theorem dL_restore_11 : decode cL_restore 11 = .ok (.astore_n 2, 1) := by decide +kernel
theorem dL_restore_12 : decode cL_restore 12 = .ok (.iconst 1, 1) := by decide +kernel
theorem dL_restore_13 : decode cL_restore 13 = .ok (.ireturn, 1) := by decide +kernel
theorem dL_restore_14 : decode cL_restore 14 = .ok (.iconst 0, 1) := by decide +kernel
theorem dL_restore_15 : decode cL_restore 15 = .ok (.ireturn, 1) := by decide +kernel
theorem dL_runScript_0 : decode cL_runScript 0 = .ok (.aload_n 1, 1) := by decide +kernel
theorem dL_runScript_1 : decode cL_runScript 1 = .ok (.iconst 0, 1) := by decide +kernel
theorem dL_runScript_2 : decode cL_runScript 2 = .ok (.aload_n 0, 1) := by decide +kernel
theorem dL_runScript_3 : decode cL_runScript 3 = .ok (.invokevirtual 25, 3) := by decide +kernel
theorem dL_runScript_6 : decode cL_runScript 6 = .ok (.i2l, 1) := by decide +kernel
theorem dL_runScript_7 : decode cL_runScript 7 = .ok (.lastore, 1) := by decide +kernel
theorem dL_runScript_8 : decode cL_runScript 8 = .ok (.goto 6, 3) := by decide +kernel
theorem dL_runScript_11 : decode cL_runScript 11 = .ok (.astore_n 2, 1) := by decide +kernel
theorem dL_runScript_12 : decode cL_runScript 12 = .ok (.iconst 1, 1) := by decide +kernel
theorem dL_runScript_13 : decode cL_runScript 13 = .ok (.ireturn, 1) := by decide +kernel
theorem dL_runScript_14 : decode cL_runScript 14 = .ok (.iconst 0, 1) := by decide +kernel
theorem dL_runScript_15 : decode cL_runScript 15 = .ok (.ireturn, 1) := by decide +kernel
theorem dL_setBack_0 : decode cL_setBack 0 = .ok (.aload_n 2, 1) := by decide +kernel
theorem dL_setBack_1 : decode cL_setBack 1 = .ok (.iconst 0, 1) := by decide +kernel
theorem dL_setBack_2 : decode cL_setBack 2 = .ok (.aload_n 0, 1) := by decide +kernel
theorem dL_setBack_3 : decode cL_setBack 3 = .ok (.iload_n 1, 1) := by decide +kernel
theorem dL_setBack_4 : decode cL_setBack 4 = .ok (.invokevirtual 90, 3) := by decide +kernel
theorem dL_setBack_7 : decode cL_setBack 7 = .ok (.i2l, 1) := by decide +kernel
theorem dL_setBack_8 : decode cL_setBack 8 = .ok (.lastore, 1) := by decide +kernel
theorem dL_setBack_9 : decode cL_setBack 9 = .ok (.goto 6, 3) := by decide +kernel
theorem dL_setBack_12 : decode cL_setBack 12 = .ok (.astore_n 3, 1) := by decide +kernel
theorem dL_setBack_13 : decode cL_setBack 13 = .ok (.iconst 1, 1) := by decide +kernel
theorem dL_setBack_14 : decode cL_setBack 14 = .ok (.ireturn, 1) := by decide +kernel
theorem dL_setBack_15 : decode cL_setBack 15 = .ok (.iconst 0, 1) := by decide +kernel
theorem dL_setBack_16 : decode cL_setBack 16 = .ok (.ireturn, 1) := by decide +kernel
theorem dL_setting_0 : decode cL_setting 0 = .ok (.aload_n 2, 1) := by decide +kernel
theorem dL_setting_1 : decode cL_setting 1 = .ok (.iconst 0, 1) := by decide +kernel
theorem dL_setting_2 : decode cL_setting 2 = .ok (.aload_n 0, 1) := by decide +kernel
theorem dL_setting_3 : decode cL_setting 3 = .ok (.iload_n 1, 1) := by decide +kernel
theorem dL_setting_4 : decode cL_setting 4 = .ok (.invokevirtual 28, 3) := by decide +kernel
theorem dL_setting_7 : decode cL_setting 7 = .ok (.i2l, 1) := by decide +kernel
theorem dL_setting_8 : decode cL_setting 8 = .ok (.lastore, 1) := by decide +kernel
theorem dL_setting_9 : decode cL_setting 9 = .ok (.goto 6, 3) := by decide +kernel
theorem dL_setting_12 : decode cL_setting 12 = .ok (.astore_n 3, 1) := by decide +kernel
theorem dL_setting_13 : decode cL_setting 13 = .ok (.iconst 1, 1) := by decide +kernel
theorem dL_setting_14 : decode cL_setting 14 = .ok (.ireturn, 1) := by decide +kernel
theorem dL_setting_15 : decode cL_setting 15 = .ok (.iconst 0, 1) := by decide +kernel
theorem dL_setting_16 : decode cL_setting 16 = .ok (.ireturn, 1) := by decide +kernel
theorem dL_settingIf_0 : decode cL_settingIf 0 = .ok (.aload 4, 2) := by decide +kernel
theorem dL_settingIf_2 : decode cL_settingIf 2 = .ok (.iconst 0, 1) := by decide +kernel
theorem dL_settingIf_3 : decode cL_settingIf 3 = .ok (.aload_n 0, 1) := by decide +kernel
theorem dL_settingIf_4 : decode cL_settingIf 4 = .ok (.iload_n 1, 1) := by decide +kernel
theorem dL_settingIf_5 : decode cL_settingIf 5 = .ok (.iload_n 2, 1) := by decide +kernel
theorem dL_settingIf_6 : decode cL_settingIf 6 = .ok (.iload_n 3, 1) := by decide +kernel
theorem dL_settingIf_7 : decode cL_settingIf 7 = .ok (.invokevirtual 67, 3) := by decide +kernel
theorem dL_settingIf_10 : decode cL_settingIf 10 = .ok (.i2l, 1) := by decide +kernel
theorem dL_settingIf_11 : decode cL_settingIf 11 = .ok (.lastore, 1) := by decide +kernel
theorem dL_settingIf_12 : decode cL_settingIf 12 = .ok (.goto 11, 3) := by decide +kernel
theorem dL_settingIf_15 : decode cL_settingIf 15 = .ok (.astore 5, 2) := by decide +kernel
theorem dL_settingIf_17 : decode cL_settingIf 17 = .ok (.iconst 1, 1) := by decide +kernel
theorem dL_settingIf_18 : decode cL_settingIf 18 = .ok (.ireturn, 1) := by decide +kernel
theorem dL_settingIf_19 : decode cL_settingIf 19 = .ok (.astore 5, 2) := by decide +kernel
theorem dL_settingIf_21 : decode cL_settingIf 21 = .ok (.iconst 2, 1) := by decide +kernel
theorem dL_settingIf_22 : decode cL_settingIf 22 = .ok (.ireturn, 1) := by decide +kernel
theorem dL_settingIf_23 : decode cL_settingIf 23 = .ok (.iconst 0, 1) := by decide +kernel
theorem dL_settingIf_24 : decode cL_settingIf 24 = .ok (.ireturn, 1) := by decide +kernel
theorem dL_spotByLine_0 : decode cL_spotByLine 0 = .ok (.aload_n 2, 1) := by decide +kernel
theorem dL_spotByLine_1 : decode cL_spotByLine 1 = .ok (.iconst 0, 1) := by decide +kernel
theorem dL_spotByLine_2 : decode cL_spotByLine 2 = .ok (.aload_n 0, 1) := by decide +kernel
theorem dL_spotByLine_3 : decode cL_spotByLine 3 = .ok (.iload_n 1, 1) := by decide +kernel
theorem dL_spotByLine_4 : decode cL_spotByLine 4 = .ok (.invokevirtual 46, 3) := by decide +kernel
theorem dL_spotByLine_7 : decode cL_spotByLine 7 = .ok (.i2l, 1) := by decide +kernel
theorem dL_spotByLine_8 : decode cL_spotByLine 8 = .ok (.lastore, 1) := by decide +kernel
theorem dL_spotByLine_9 : decode cL_spotByLine 9 = .ok (.goto 6, 3) := by decide +kernel
theorem dL_spotByLine_12 : decode cL_spotByLine 12 = .ok (.astore_n 3, 1) := by decide +kernel
theorem dL_spotByLine_13 : decode cL_spotByLine 13 = .ok (.iconst 1, 1) := by decide +kernel
theorem dL_spotByLine_14 : decode cL_spotByLine 14 = .ok (.ireturn, 1) := by decide +kernel
theorem dL_spotByLine_15 : decode cL_spotByLine 15 = .ok (.iconst 0, 1) := by decide +kernel
theorem dL_spotByLine_16 : decode cL_spotByLine 16 = .ok (.ireturn, 1) := by decide +kernel
theorem dL_spotIf_0 : decode cL_spotIf 0 = .ok (.aload_n 3, 1) := by decide +kernel
theorem dL_spotIf_1 : decode cL_spotIf 1 = .ok (.iconst 0, 1) := by decide +kernel
theorem dL_spotIf_2 : decode cL_spotIf 2 = .ok (.aload_n 0, 1) := by decide +kernel
theorem dL_spotIf_3 : decode cL_spotIf 3 = .ok (.iload_n 1, 1) := by decide +kernel
theorem dL_spotIf_4 : decode cL_spotIf 4 = .ok (.iload_n 2, 1) := by decide +kernel
theorem dL_spotIf_5 : decode cL_spotIf 5 = .ok (.invokevirtual 64, 3) := by decide +kernel
theorem dL_spotIf_8 : decode cL_spotIf 8 = .ok (.i2l, 1) := by decide +kernel
theorem dL_spotIf_9 : decode cL_spotIf 9 = .ok (.lastore, 1) := by decide +kernel
theorem dL_spotIf_10 : decode cL_spotIf 10 = .ok (.goto 11, 3) := by decide +kernel
theorem dL_spotIf_13 : decode cL_spotIf 13 = .ok (.astore 4, 2) := by decide +kernel
theorem dL_spotIf_15 : decode cL_spotIf 15 = .ok (.iconst 1, 1) := by decide +kernel
theorem dL_spotIf_16 : decode cL_spotIf 16 = .ok (.ireturn, 1) := by decide +kernel
theorem dL_spotIf_17 : decode cL_spotIf 17 = .ok (.astore 4, 2) := by decide +kernel
theorem dL_spotIf_19 : decode cL_spotIf 19 = .ok (.iconst 2, 1) := by decide +kernel
theorem dL_spotIf_20 : decode cL_spotIf 20 = .ok (.ireturn, 1) := by decide +kernel
theorem dL_spotIf_21 : decode cL_spotIf 21 = .ok (.iconst 0, 1) := by decide +kernel
theorem dL_spotIf_22 : decode cL_spotIf 22 = .ok (.ireturn, 1) := by decide +kernel
theorem dL_swap_0 : decode cL_swap 0 = .ok (.aload_n 2, 1) := by decide +kernel
theorem dL_swap_1 : decode cL_swap 1 = .ok (.iconst 0, 1) := by decide +kernel
theorem dL_swap_2 : decode cL_swap 2 = .ok (.aload_n 0, 1) := by decide +kernel
theorem dL_swap_3 : decode cL_swap 3 = .ok (.iload_n 1, 1) := by decide +kernel
theorem dL_swap_4 : decode cL_swap 4 = .ok (.invokevirtual 83, 3) := by decide +kernel
theorem dL_swap_7 : decode cL_swap 7 = .ok (.ifCond .eq 7, 3) := by decide +kernel
theorem dL_swap_10 : decode cL_swap 10 = .ok (.lconst 1, 1) := by decide +kernel
theorem dL_swap_11 : decode cL_swap 11 = .ok (.goto 4, 3) := by decide +kernel
theorem dL_swap_14 : decode cL_swap 14 = .ok (.lconst 0, 1) := by decide +kernel
theorem dL_swap_15 : decode cL_swap 15 = .ok (.lastore, 1) := by decide +kernel
theorem dL_swap_16 : decode cL_swap 16 = .ok (.goto 6, 3) := by decide +kernel
theorem dL_swap_19 : decode cL_swap 19 = .ok (.astore_n 3, 1) := by decide +kernel
theorem dL_swap_20 : decode cL_swap 20 = .ok (.iconst 1, 1) := by decide +kernel
theorem dL_swap_21 : decode cL_swap 21 = .ok (.ireturn, 1) := by decide +kernel
theorem dL_swap_22 : decode cL_swap 22 = .ok (.iconst 0, 1) := by decide +kernel
theorem dL_swap_23 : decode cL_swap 23 = .ok (.ireturn, 1) := by decide +kernel
theorem dL_truncate_0 : decode cL_truncate 0 = .ok (.aload_n 2, 1) := by decide +kernel
theorem dL_truncate_1 : decode cL_truncate 1 = .ok (.iconst 0, 1) := by decide +kernel
theorem dL_truncate_2 : decode cL_truncate 2 = .ok (.aload_n 0, 1) := by decide +kernel
theorem dL_truncate_3 : decode cL_truncate 3 = .ok (.iload_n 1, 1) := by decide +kernel
theorem dL_truncate_4 : decode cL_truncate 4 = .ok (.invokevirtual 15, 3) := by decide +kernel
theorem dL_truncate_7 : decode cL_truncate 7 = .ok (.i2l, 1) := by decide +kernel
theorem dL_truncate_8 : decode cL_truncate 8 = .ok (.lastore, 1) := by decide +kernel
theorem dL_truncate_9 : decode cL_truncate 9 = .ok (.goto 6, 3) := by decide +kernel
theorem dL_truncate_12 : decode cL_truncate 12 = .ok (.astore_n 3, 1) := by decide +kernel
theorem dL_truncate_13 : decode cL_truncate 13 = .ok (.iconst 1, 1) := by decide +kernel
theorem dL_truncate_14 : decode cL_truncate 14 = .ok (.ireturn, 1) := by decide +kernel
theorem dL_truncate_15 : decode cL_truncate 15 = .ok (.iconst 0, 1) := by decide +kernel
theorem dL_truncate_16 : decode cL_truncate 16 = .ok (.ireturn, 1) := by decide +kernel
theorem dL_turn_0 : decode cL_turn 0 = .ok (.aload_n 2, 1) := by decide +kernel
theorem dL_turn_1 : decode cL_turn 1 = .ok (.iconst 0, 1) := by decide +kernel
theorem dL_turn_2 : decode cL_turn 2 = .ok (.aload_n 0, 1) := by decide +kernel
theorem dL_turn_3 : decode cL_turn 3 = .ok (.iload_n 1, 1) := by decide +kernel
theorem dL_turn_4 : decode cL_turn 4 = .ok (.invokevirtual 87, 3) := by decide +kernel
theorem dL_turn_7 : decode cL_turn 7 = .ok (.i2l, 1) := by decide +kernel
theorem dL_turn_8 : decode cL_turn 8 = .ok (.lastore, 1) := by decide +kernel
theorem dL_turn_9 : decode cL_turn 9 = .ok (.goto 6, 3) := by decide +kernel
theorem dL_turn_12 : decode cL_turn 12 = .ok (.astore_n 3, 1) := by decide +kernel
theorem dL_turn_13 : decode cL_turn 13 = .ok (.iconst 1, 1) := by decide +kernel
theorem dL_turn_14 : decode cL_turn 14 = .ok (.ireturn, 1) := by decide +kernel
theorem dL_turn_15 : decode cL_turn 15 = .ok (.iconst 0, 1) := by decide +kernel
theorem dL_turn_16 : decode cL_turn 16 = .ok (.ireturn, 1) := by decide +kernel
theorem dL_wanted_0 : decode cL_wanted 0 = .ok (.aload_n 2, 1) := by decide +kernel
theorem dL_wanted_1 : decode cL_wanted 1 = .ok (.iconst 0, 1) := by decide +kernel
theorem dL_wanted_2 : decode cL_wanted 2 = .ok (.aload_n 0, 1) := by decide +kernel
theorem dL_wanted_3 : decode cL_wanted 3 = .ok (.iload_n 1, 1) := by decide +kernel
theorem dL_wanted_4 : decode cL_wanted 4 = .ok (.invokevirtual 43, 3) := by decide +kernel
theorem dL_wanted_7 : decode cL_wanted 7 = .ok (.i2l, 1) := by decide +kernel
theorem dL_wanted_8 : decode cL_wanted 8 = .ok (.lastore, 1) := by decide +kernel
theorem dL_wanted_9 : decode cL_wanted 9 = .ok (.goto 6, 3) := by decide +kernel
theorem dL_wanted_12 : decode cL_wanted 12 = .ok (.astore_n 3, 1) := by decide +kernel
theorem dL_wanted_13 : decode cL_wanted 13 = .ok (.iconst 1, 1) := by decide +kernel
theorem dL_wanted_14 : decode cL_wanted 14 = .ok (.ireturn, 1) := by decide +kernel
theorem dL_wanted_15 : decode cL_wanted 15 = .ok (.iconst 0, 1) := by decide +kernel
theorem dL_wanted_16 : decode cL_wanted 16 = .ok (.ireturn, 1) := by decide +kernel
theorem dL_wayBy_0 : decode cL_wayBy 0 = .ok (.aload_n 2, 1) := by decide +kernel
theorem dL_wayBy_1 : decode cL_wayBy 1 = .ok (.iconst 0, 1) := by decide +kernel
theorem dL_wayBy_2 : decode cL_wayBy 2 = .ok (.aload_n 0, 1) := by decide +kernel
theorem dL_wayBy_3 : decode cL_wayBy 3 = .ok (.iload_n 1, 1) := by decide +kernel
theorem dL_wayBy_4 : decode cL_wayBy 4 = .ok (.invokevirtual 77, 3) := by decide +kernel
theorem dL_wayBy_7 : decode cL_wayBy 7 = .ok (.i2l, 1) := by decide +kernel
theorem dL_wayBy_8 : decode cL_wayBy 8 = .ok (.lastore, 1) := by decide +kernel
theorem dL_wayBy_9 : decode cL_wayBy 9 = .ok (.goto 6, 3) := by decide +kernel
theorem dL_wayBy_12 : decode cL_wayBy 12 = .ok (.astore_n 3, 1) := by decide +kernel
theorem dL_wayBy_13 : decode cL_wayBy 13 = .ok (.iconst 1, 1) := by decide +kernel
theorem dL_wayBy_14 : decode cL_wayBy 14 = .ok (.ireturn, 1) := by decide +kernel
theorem dL_wayBy_15 : decode cL_wayBy 15 = .ok (.iconst 0, 1) := by decide +kernel
theorem dL_wayBy_16 : decode cL_wayBy 16 = .ok (.ireturn, 1) := by decide +kernel
theorem dL_who_0 : decode cL_who 0 = .ok (.aload_n 2, 1) := by decide +kernel
theorem dL_who_1 : decode cL_who 1 = .ok (.iconst 0, 1) := by decide +kernel
theorem dL_who_2 : decode cL_who 2 = .ok (.aload_n 0, 1) := by decide +kernel
theorem dL_who_3 : decode cL_who 3 = .ok (.iload_n 1, 1) := by decide +kernel
theorem dL_who_4 : decode cL_who 4 = .ok (.invokevirtual 40, 3) := by decide +kernel
theorem dL_who_7 : decode cL_who 7 = .ok (.i2l, 1) := by decide +kernel
theorem dL_who_8 : decode cL_who 8 = .ok (.lastore, 1) := by decide +kernel
theorem dL_who_9 : decode cL_who 9 = .ok (.goto 6, 3) := by decide +kernel
theorem dL_who_12 : decode cL_who 12 = .ok (.astore_n 3, 1) := by decide +kernel
theorem dL_who_13 : decode cL_who 13 = .ok (.iconst 1, 1) := by decide +kernel
theorem dL_who_14 : decode cL_who 14 = .ok (.ireturn, 1) := by decide +kernel
theorem dL_who_15 : decode cL_who 15 = .ok (.iconst 0, 1) := by decide +kernel
theorem dL_who_16 : decode cL_who 16 = .ok (.ireturn, 1) := by decide +kernel
theorem dL_whoAfter_0 : decode cL_whoAfter 0 = .ok (.aload_n 3, 1) := by decide +kernel
theorem dL_whoAfter_1 : decode cL_whoAfter 1 = .ok (.iconst 0, 1) := by decide +kernel
theorem dL_whoAfter_2 : decode cL_whoAfter 2 = .ok (.aload_n 0, 1) := by decide +kernel
theorem dL_whoAfter_3 : decode cL_whoAfter 3 = .ok (.iload_n 1, 1) := by decide +kernel
theorem dL_whoAfter_4 : decode cL_whoAfter 4 = .ok (.iload_n 2, 1) := by decide +kernel
theorem dL_whoAfter_5 : decode cL_whoAfter 5 = .ok (.invokevirtual 49, 3) := by decide +kernel
theorem dL_whoAfter_8 : decode cL_whoAfter 8 = .ok (.i2l, 1) := by decide +kernel
theorem dL_whoAfter_9 : decode cL_whoAfter 9 = .ok (.lastore, 1) := by decide +kernel
theorem dL_whoAfter_10 : decode cL_whoAfter 10 = .ok (.goto 11, 3) := by decide +kernel
theorem dL_whoAfter_13 : decode cL_whoAfter 13 = .ok (.astore 4, 2) := by decide +kernel
theorem dL_whoAfter_15 : decode cL_whoAfter 15 = .ok (.iconst 1, 1) := by decide +kernel
theorem dL_whoAfter_16 : decode cL_whoAfter 16 = .ok (.ireturn, 1) := by decide +kernel
theorem dL_whoAfter_17 : decode cL_whoAfter 17 = .ok (.astore 4, 2) := by decide +kernel
theorem dL_whoAfter_19 : decode cL_whoAfter 19 = .ok (.iconst 2, 1) := by decide +kernel
theorem dL_whoAfter_20 : decode cL_whoAfter 20 = .ok (.ireturn, 1) := by decide +kernel
theorem dL_whoAfter_21 : decode cL_whoAfter 21 = .ok (.iconst 0, 1) := by decide +kernel
theorem dL_whoAfter_22 : decode cL_whoAfter 22 = .ok (.ireturn, 1) := by decide +kernel
theorem cv_RL_102 : CV RL 102 yX8_reportByte cX8_reportByte 2 (some .int) 1 := ⟨tw6_172, tw6_173, tw6_174, tw1_1, tw6_175, by decide, by decide, by decide +kernel⟩
theorem cv_RL_105 : CV RL 105 yX8_restore cX8_restore 1 (some .int) 0 := ⟨tw6_181, tw6_182, tw6_183, tw1_1, tw6_184, by decide, by decide, by decide +kernel⟩
theorem cv_RL_15 : CV RL 15 yX8_truncate cX8_truncate 2 (some .int) 1 := ⟨tw4_44, tw4_45, tw4_46, tw1_1, tw4_47, by decide, by decide, by decide +kernel⟩
theorem cv_RL_21 : CV RL 21 yX8_readText cX8_readText 2 (some .int) 0 := ⟨tw4_67, tw4_68, tw4_69, tw1_1, tw4_70, by decide, by decide, by decide +kernel⟩
theorem cv_RL_25 : CV RL 25 yX8_runScript cX8_runScript 2 (some .int) 0 := ⟨tw5_3, tw5_4, tw5_5, tw1_1, tw5_6, by decide, by decide, by decide +kernel⟩
theorem cv_RL_28 : CV RL 28 yX8_setting cX8_setting 2 (some .int) 1 := ⟨tw5_152, tw5_153, tw5_154, tw1_1, tw5_155, by decide, by decide, by decide +kernel⟩
theorem cv_RL_31 : CV RL 31 yX8_letter cX8_letter 3 (some .int) 2 := ⟨tw5_184, tw5_185, tw5_186, tw1_1, tw5_187, by decide, by decide, by decide +kernel⟩
theorem cv_RL_37 : CV RL 37 yX8_car cX8_car 4 (some .int) 2 := ⟨tw5_212, tw5_213, tw5_214, tw1_1, tw5_215, by decide, by decide, by decide +kernel⟩
theorem cv_RL_40 : CV RL 40 yX8_who cX8_who 2 (some .int) 1 := ⟨tw5_222, tw5_223, tw5_224, tw1_1, tw5_225, by decide, by decide, by decide +kernel⟩
theorem cv_RL_43 : CV RL 43 yX8_wanted cX8_wanted 2 (some .int) 1 := ⟨tw5_234, tw5_235, tw5_236, tw1_1, tw5_237, by decide, by decide, by decide +kernel⟩
theorem cv_RL_46 : CV RL 46 yX8_spotByLine cX8_spotByLine 2 (some .int) 1 := ⟨tw6_1, tw6_2, tw6_3, tw1_1, tw6_4, by decide, by decide, by decide +kernel⟩
theorem cv_RL_49 : CV RL 49 yX8_whoAfter cX8_whoAfter 3 (some .int) 2 := ⟨tw6_8, tw6_9, tw6_10, tw1_1, tw6_11, by decide, by decide, by decide +kernel⟩
theorem cv_RL_52 : CV RL 52 yX8_longestAfter cX8_longestAfter 2 (some .int) 1 := ⟨tw6_20, tw6_21, tw6_22, tw1_1, tw6_23, by decide, by decide, by decide +kernel⟩
theorem cv_RL_55 : CV RL 55 yX8_inWay cX8_inWay 3 (some .int) 1 := ⟨tw6_32, tw6_33, tw6_34, tw1_1, tw6_35, by decide, by decide, by decide +kernel⟩
theorem cv_RL_58 : CV RL 58 yX8_degree cX8_degree 2 (some .int) 1 := ⟨tw6_39, tw6_40, tw6_41, tw1_1, tw6_42, by decide, by decide, by decide +kernel⟩
theorem cv_RL_61 : CV RL 61 yX8_far cX8_far 3 (some .int) 2 := ⟨tw6_52, tw6_53, tw6_54, tw1_1, tw6_55, by decide, by decide, by decide +kernel⟩
theorem cv_RL_64 : CV RL 64 yX8_spotIf cX8_spotIf 3 (some .int) 2 := ⟨tw6_60, tw6_61, tw6_62, tw1_1, tw6_63, by decide, by decide, by decide +kernel⟩
theorem cv_RL_67 : CV RL 67 yX8_settingIf cX8_settingIf 4 (some .int) 3 := ⟨tw6_76, tw6_77, tw6_78, tw1_1, tw6_79, by decide, by decide, by decide +kernel⟩
theorem cv_RL_7 : CV RL 7 yX8_feed cX8_feed 6 (some .int) 5 := ⟨tw3_205, tw3_206, tw3_207, tw1_1, tw3_208, by decide, by decide, by decide +kernel⟩
theorem cv_RL_71 : CV RL 71 yX8_bestFor cX8_bestFor 6 (some .int) 1 := ⟨tw6_83, tw6_84, tw6_85, tw1_1, tw6_86, by decide, by decide, by decide +kernel⟩
theorem cv_RL_74 : CV RL 74 yX8_latest cX8_latest 3 (some .int) 1 := ⟨tw6_90, tw6_91, tw6_92, tw1_1, tw6_93, by decide, by decide, by decide +kernel⟩
theorem cv_RL_77 : CV RL 77 yX8_wayBy cX8_wayBy 2 (some .int) 1 := ⟨tw6_97, tw6_98, tw6_99, tw1_1, tw6_100, by decide, by decide, by decide +kernel⟩
theorem cv_RL_80 : CV RL 80 yX8_prefer cX8_prefer 4 (some .int) 2 := ⟨tw6_109, tw6_110, tw6_111, tw1_1, tw6_112, by decide, by decide, by decide +kernel⟩
theorem cv_RL_83 : CV RL 83 yX8_swap cX8_swap 2 (some .boolean) 1 := ⟨tw6_116, tw6_117, tw6_118, tw1_1, tw6_119, by decide, by decide, by decide +kernel⟩
theorem cv_RL_87 : CV RL 87 yX8_turn cX8_turn 2 (some .int) 1 := ⟨tw6_127, tw6_128, tw6_129, tw1_1, tw6_130, by decide, by decide, by decide +kernel⟩
theorem cv_RL_90 : CV RL 90 yX8_setBack cX8_setBack 3 (some .int) 1 := ⟨tw6_135, tw6_136, tw6_137, tw1_1, tw6_138, by decide, by decide, by decide +kernel⟩
theorem cv_RL_93 : CV RL 93 yX8_come cX8_come 3 (some .boolean) 1 := ⟨tw6_142, tw6_143, tw6_144, tw1_1, tw6_145, by decide, by decide, by decide +kernel⟩
theorem cv_RL_96 : CV RL 96 yX8_go cX8_go 2 (some .boolean) 1 := ⟨tw6_157, tw6_158, tw6_159, tw1_1, tw6_160, by decide, by decide, by decide +kernel⟩
theorem cv_RL_99 : CV RL 99 yX8_account cX8_account 2 (some .int) 1 := ⟨tw6_164, tw6_165, tw6_166, tw1_1, tw6_167, by decide, by decide, by decide +kernel⟩
def wF (h2 : HD) : Option RR := some (.inr (some (.int 0)), h2)
theorem ix1 {a i e : Nat} (h : [a][i]? = some e) : i = 0 ∧ e = a := by
  match i, h with
  | 0, h => exact ⟨rfl, (Option.some.inj h).symm⟩
theorem ix2 {a b i e : Nat} (h : [a, b][i]? = some e) : (i = 0 ∧ e = a) ∨ (i = 1 ∧ e = b) := by
  match i, h with
  | 0, h => exact Or.inl ⟨rfl, (Option.some.inj h).symm⟩
  | 1, h => exact Or.inr ⟨rfl, (Option.some.inj h).symm⟩
