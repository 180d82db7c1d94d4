theorem dX8_endReading_1 : decode cX8_endReading 1 = .ok (.aload_n 0, 1) := by decide +kernel
theorem dX8_endReading_2 : decode cX8_endReading 2 = .ok (.getfield 12, 3) := by decide +kernel
theorem dX8_endReading_5 : decode cX8_endReading 5 = .ok (.invokevirtual 158, 3) := by decide +kernel
theorem dX8_endReading_8 : decode cX8_endReading 8 = .ok (.putfield 94, 3) := by decide +kernel
theorem dX8_endReading_11 : decode cX8_endReading 11 = .ok (.aload_n 0, 1) := by decide +kernel
theorem dX8_endReading_12 : decode cX8_endReading 12 = .ok (.aload_n 0, 1) := by decide +kernel
theorem dX8_endReading_13 : decode cX8_endReading 13 = .ok (.getfield 12, 3) := by decide +kernel
theorem dX8_endReading_16 : decode cX8_endReading 16 = .ok (.invokevirtual 161, 3) := by decide +kernel
theorem dX8_endReading_19 : decode cX8_endReading 19 = .ok (.putfield 97, 3) := by decide +kernel
theorem dX8_endReading_22 : decode cX8_endReading 22 = .ok (.aload_n 0, 1) := by decide +kernel
theorem dX8_endReading_23 : decode cX8_endReading 23 = .ok (.getfield 20, 3) := by decide +kernel
theorem dX8_endReading_26 : decode cX8_endReading 26 = .ok (.iconst 0, 1) := by decide +kernel
theorem dX8_endReading_27 : decode cX8_endReading 27 = .ok (.invokevirtual 119, 3) := by decide +kernel
theorem dX8_endReading_30 : decode cX8_endReading 30 = .ok (.return_, 1) := by decide +kernel
theorem dX8_errorCode_0 : decode cX8_errorCode 0 = .ok (.aload_n 0, 1) := by decide +kernel
theorem dX8_errorCode_1 : decode cX8_errorCode 1 = .ok (.getfield 94, 3) := by decide +kernel
theorem dX8_errorCode_4 : decode cX8_errorCode 4 = .ok (.ireturn, 1) := by decide +kernel
theorem dX8_errorPosition_0 : decode cX8_errorPosition 0 = .ok (.aload_n 0, 1) := by decide +kernel
theorem dX8_errorPosition_1 : decode cX8_errorPosition 1 = .ok (.getfield 97, 3) := by decide +kernel
theorem dX8_errorPosition_4 : decode cX8_errorPosition 4 = .ok (.ireturn, 1) := by decide +kernel
theorem dX8_factorial_0 : decode cX8_factorial 0 = .ok (.lconst 1, 1) := by decide +kernel
theorem dX8_factorial_1 : decode cX8_factorial 1 = .ok (.lstore_n 1, 1) := by decide +kernel
theorem dX8_factorial_2 : decode cX8_factorial 2 = .ok (.iconst 2, 1) := by decide +kernel
theorem dX8_factorial_3 : decode cX8_factorial 3 = .ok (.istore_n 3, 1) := by decide +kernel
theorem dX8_factorial_4 : decode cX8_factorial 4 = .ok (.iload_n 3, 1) := by decide +kernel
theorem dX8_factorial_5 : decode cX8_factorial 5 = .ok (.iload_n 0, 1) := by decide +kernel
theorem dX8_factorial_6 : decode cX8_factorial 6 = .ok (.if_icmp .gt 14, 3) := by decide +kernel
theorem dX8_factorial_9 : decode cX8_factorial 9 = .ok (.lload_n 1, 1) := by decide +kernel
theorem dX8_factorial_10 : decode cX8_factorial 10 = .ok (.iload_n 3, 1) := by decide +kernel
theorem dX8_factorial_11 : decode cX8_factorial 11 = .ok (.i2l, 1) := by decide +kernel
theorem dX8_factorial_12 : decode cX8_factorial 12 = .ok (.lmul, 1) := by decide +kernel
theorem dX8_factorial_13 : decode cX8_factorial 13 = .ok (.lstore_n 1, 1) := by decide +kernel
theorem dX8_factorial_14 : decode cX8_factorial 14 = .ok (.iinc 3 1, 3) := by decide +kernel
theorem dX8_factorial_17 : decode cX8_factorial 17 = .ok (.goto (-13), 3) := by decide +kernel
theorem dX8_factorial_20 : decode cX8_factorial 20 = .ok (.lload_n 1, 1) := by decide +kernel
theorem dX8_factorial_21 : decode cX8_factorial 21 = .ok (.lreturn, 1) := by decide +kernel
theorem dX8_far_0 : decode cX8_far 0 = .ok (.aload_n 0, 1) := by decide +kernel
theorem dX8_far_1 : decode cX8_far 1 = .ok (.iload_n 1, 1) := by decide +kernel
theorem dX8_far_2 : decode cX8_far 2 = .ok (.invokevirtual 376, 3) := by decide +kernel
theorem dX8_far_5 : decode cX8_far 5 = .ok (.aload_n 0, 1) := by decide +kernel
theorem dX8_far_6 : decode cX8_far 6 = .ok (.iload_n 2, 1) := by decide +kernel
theorem dX8_far_7 : decode cX8_far 7 = .ok (.invokevirtual 376, 3) := by decide +kernel
theorem dX8_far_10 : decode cX8_far 10 = .ok (.aload_n 0, 1) := by decide +kernel
theorem dX8_far_11 : decode cX8_far 11 = .ok (.invokevirtual 382, 3) := by decide +kernel
theorem dX8_far_14 : decode cX8_far 14 = .ok (.iload_n 1, 1) := by decide +kernel
theorem dX8_far_15 : decode cX8_far 15 = .ok (.iload_n 2, 1) := by decide +kernel
theorem dX8_far_16 : decode cX8_far 16 = .ok (.invokevirtual 385, 3) := by decide +kernel
theorem dX8_far_19 : decode cX8_far 19 = .ok (.ireturn, 1) := by decide +kernel
theorem dX8_feed_0 : decode cX8_feed 0 = .ok (.aload_n 0, 1) := by decide +kernel
theorem dX8_feed_1 : decode cX8_feed 1 = .ok (.getfield 20, 3) := by decide +kernel
theorem dX8_feed_4 : decode cX8_feed 4 = .ok (.invokevirtual 100, 3) := by decide +kernel
theorem dX8_feed_7 : decode cX8_feed 7 = .ok (.bipush 20, 2) := by decide +kernel
theorem dX8_feed_9 : decode cX8_feed 9 = .ok (.iadd, 1) := by decide +kernel
theorem dX8_feed_10 : decode cX8_feed 10 = .ok (.sipush 400, 3) := by decide +kernel
theorem dX8_feed_13 : decode cX8_feed 13 = .ok (.if_icmp .le 13, 3) := by decide +kernel
theorem dX8_feed_16 : decode cX8_feed 16 = .ok (.new 104, 3) := by decide +kernel
theorem dX8_feed_19 : decode cX8_feed 19 = .ok (.dup, 1) := by decide +kernel
theorem dX8_feed_20 : decode cX8_feed 20 = .ok (.ldc 106, 2) := by decide +kernel
theorem dX8_feed_22 : decode cX8_feed 22 = .ok (.invokespecial 108, 3) := by decide +kernel
theorem dX8_feed_25 : decode cX8_feed 25 = .ok (.athrow, 1) := by decide +kernel
theorem dX8_feed_26 : decode cX8_feed 26 = .ok (.aload_n 0, 1) := by decide +kernel
theorem dX8_feed_27 : decode cX8_feed 27 = .ok (.getfield 20, 3) := by decide +kernel
theorem dX8_feed_30 : decode cX8_feed 30 = .ok (.iload_n 1, 1) := by decide +kernel
theorem dX8_feed_31 : decode cX8_feed 31 = .ok (.invokevirtual 111, 3) := by decide +kernel
theorem dX8_feed_34 : decode cX8_feed 34 = .ok (.aload_n 0, 1) := by decide +kernel
theorem dX8_feed_35 : decode cX8_feed 35 = .ok (.getfield 20, 3) := by decide +kernel
theorem dX8_feed_38 : decode cX8_feed 38 = .ok (.iload_n 2, 1) := by decide +kernel
theorem dX8_feed_39 : decode cX8_feed 39 = .ok (.invokevirtual 111, 3) := by decide +kernel
theorem dX8_feed_42 : decode cX8_feed 42 = .ok (.aload_n 0, 1) := by decide +kernel
theorem dX8_feed_43 : decode cX8_feed 43 = .ok (.getfield 20, 3) := by decide +kernel
theorem dX8_feed_46 : decode cX8_feed 46 = .ok (.iload_n 3, 1) := by decide +kernel
theorem dX8_feed_47 : decode cX8_feed 47 = .ok (.invokevirtual 111, 3) := by decide +kernel
theorem dX8_feed_50 : decode cX8_feed 50 = .ok (.aload_n 0, 1) := by decide +kernel
theorem dX8_feed_51 : decode cX8_feed 51 = .ok (.getfield 20, 3) := by decide +kernel
theorem dX8_feed_54 : decode cX8_feed 54 = .ok (.iload 4, 2) := by decide +kernel
theorem dX8_feed_56 : decode cX8_feed 56 = .ok (.invokevirtual 111, 3) := by decide +kernel
theorem dX8_feed_59 : decode cX8_feed 59 = .ok (.aload_n 0, 1) := by decide +kernel
theorem dX8_feed_60 : decode cX8_feed 60 = .ok (.getfield 20, 3) := by decide +kernel
theorem dX8_feed_63 : decode cX8_feed 63 = .ok (.iload 5, 2) := by decide +kernel
theorem dX8_feed_65 : decode cX8_feed 65 = .ok (.invokevirtual 111, 3) := by decide +kernel
theorem dX8_feed_68 : decode cX8_feed 68 = .ok (.aload_n 0, 1) := by decide +kernel
theorem dX8_feed_69 : decode cX8_feed 69 = .ok (.getfield 20, 3) := by decide +kernel
theorem dX8_feed_72 : decode cX8_feed 72 = .ok (.invokevirtual 100, 3) := by decide +kernel
theorem dX8_feed_75 : decode cX8_feed 75 = .ok (.ireturn, 1) := by decide +kernel
theorem dX8_fibre_0 : decode cX8_fibre 0 = .ok (.aload_n 0, 1) := by decide +kernel
theorem dX8_fibre_1 : decode cX8_fibre 1 = .ok (.invokevirtual 245, 3) := by decide +kernel
theorem dX8_fibre_4 : decode cX8_fibre 4 = .ok (.astore_n 1, 1) := by decide +kernel
theorem dX8_fibre_5 : decode cX8_fibre 5 = .ok (.lconst 1, 1) := by decide +kernel
theorem dX8_fibre_6 : decode cX8_fibre 6 = .ok (.lstore_n 2, 1) := by decide +kernel
theorem dX8_fibre_7 : decode cX8_fibre 7 = .ok (.iconst 0, 1) := by decide +kernel
theorem dX8_fibre_8 : decode cX8_fibre 8 = .ok (.istore 4, 2) := by decide +kernel
theorem dX8_fibre_10 : decode cX8_fibre 10 = .ok (.iload 4, 2) := by decide +kernel
theorem dX8_fibre_12 : decode cX8_fibre 12 = .ok (.aload_n 0, 1) := by decide +kernel
theorem dX8_fibre_13 : decode cX8_fibre 13 = .ok (.getfield 42, 3) := by decide +kernel
theorem dX8_fibre_16 : decode cX8_fibre 16 = .ok (.invokevirtual 138, 3) := by decide +kernel
theorem dX8_fibre_19 : decode cX8_fibre 19 = .ok (.if_icmp .ge 19, 3) := by decide +kernel
theorem dX8_fibre_22 : decode cX8_fibre 22 = .ok (.lload_n 2, 1) := by decide +kernel
theorem dX8_fibre_23 : decode cX8_fibre 23 = .ok (.aload_n 1, 1) := by decide +kernel
theorem dX8_fibre_24 : decode cX8_fibre 24 = .ok (.iload 4, 2) := by decide +kernel
theorem dX8_fibre_26 : decode cX8_fibre 26 = .ok (.invokevirtual 262, 3) := by decide +kernel
theorem dX8_fibre_29 : decode cX8_fibre 29 = .ok (.i2l, 1) := by decide +kernel
theorem dX8_fibre_30 : decode cX8_fibre 30 = .ok (.lmul, 1) := by decide +kernel
theorem dX8_fibre_31 : decode cX8_fibre 31 = .ok (.lstore_n 2, 1) := by decide +kernel
theorem dX8_fibre_32 : decode cX8_fibre 32 = .ok (.iinc 4 1, 3) := by decide +kernel
theorem dX8_fibre_35 : decode cX8_fibre 35 = .ok (.goto (-25), 3) := by decide +kernel
theorem dX8_fibre_38 : decode cX8_fibre 38 = .ok (.lload_n 2, 1) := by decide +kernel
theorem dX8_fibre_39 : decode cX8_fibre 39 = .ok (.lreturn, 1) := by decide +kernel
theorem dX8_gap_0 : decode cX8_gap 0 = .ok (.aload_n 0, 1) := by decide +kernel
theorem dX8_gap_1 : decode cX8_gap 1 = .ok (.getfield 66, 3) := by decide +kernel
theorem dX8_gap_4 : decode cX8_gap 4 = .ok (.aload_n 0, 1) := by decide +kernel
theorem dX8_gap_5 : decode cX8_gap 5 = .ok (.invokevirtual 245, 3) := by decide +kernel
theorem dX8_gap_8 : decode cX8_gap 8 = .ok (.invokevirtual 282, 3) := by decide +kernel
theorem dX8_gap_11 : decode cX8_gap 11 = .ok (.aload_n 0, 1) := by decide +kernel
theorem dX8_gap_12 : decode cX8_gap 12 = .ok (.getfield 62, 3) := by decide +kernel
theorem dX8_gap_15 : decode cX8_gap 15 = .ok (.invokevirtual 289, 3) := by decide +kernel
theorem dX8_gap_18 : decode cX8_gap 18 = .ok (.aload_n 0, 1) := by decide +kernel
theorem dX8_gap_19 : decode cX8_gap 19 = .ok (.getfield 62, 3) := by decide +kernel
theorem dX8_gap_22 : decode cX8_gap 22 = .ok (.invokevirtual 292, 3) := by decide +kernel
theorem dX8_gap_25 : decode cX8_gap 25 = .ok (.if_icmp .ne 7, 3) := by decide +kernel
theorem dX8_gap_28 : decode cX8_gap 28 = .ok (.iconst 0, 1) := by decide +kernel
theorem dX8_gap_29 : decode cX8_gap 29 = .ok (.goto 4, 3) := by decide +kernel
theorem dX8_gap_32 : decode cX8_gap 32 = .ok (.iconst 1, 1) := by decide +kernel
theorem dX8_gap_33 : decode cX8_gap 33 = .ok (.istore_n 1, 1) := by decide +kernel
theorem dX8_gap_34 : decode cX8_gap 34 = .ok (.iconst 0, 1) := by decide +kernel
theorem dX8_gap_35 : decode cX8_gap 35 = .ok (.istore_n 2, 1) := by decide +kernel
theorem dX8_gap_36 : decode cX8_gap 36 = .ok (.iload_n 2, 1) := by decide +kernel
theorem dX8_gap_37 : decode cX8_gap 37 = .ok (.aload_n 0, 1) := by decide +kernel
theorem dX8_gap_38 : decode cX8_gap 38 = .ok (.getfield 42, 3) := by decide +kernel
theorem dX8_gap_41 : decode cX8_gap 41 = .ok (.invokevirtual 138, 3) := by decide +kernel
theorem dX8_gap_44 : decode cX8_gap 44 = .ok (.if_icmp .ge 28, 3) := by decide +kernel
theorem dX8_gap_47 : decode cX8_gap 47 = .ok (.aload_n 0, 1) := by decide +kernel
theorem dX8_gap_48 : decode cX8_gap 48 = .ok (.iload_n 2, 1) := by decide +kernel
theorem dX8_gap_49 : decode cX8_gap 49 = .ok (.invokevirtual 286, 3) := by decide +kernel
theorem dX8_gap_52 : decode cX8_gap 52 = .ok (.aload_n 0, 1) := by decide +kernel
theorem dX8_gap_53 : decode cX8_gap 53 = .ok (.getfield 62, 3) := by decide +kernel
theorem dX8_gap_56 : decode cX8_gap 56 = .ok (.iload_n 2, 1) := by decide +kernel
theorem dX8_gap_57 : decode cX8_gap 57 = .ok (.invokevirtual 253, 3) := by decide +kernel
theorem dX8_gap_60 : decode cX8_gap 60 = .ok (.if_icmp .eq 6, 3) := by decide +kernel
theorem dX8_gap_63 : decode cX8_gap 63 = .ok (.iinc 1 1, 3) := by decide +kernel
theorem dX8_gap_66 : decode cX8_gap 66 = .ok (.iinc 2 1, 3) := by decide +kernel
theorem dX8_gap_69 : decode cX8_gap 69 = .ok (.goto (-33), 3) := by decide +kernel
theorem dX8_gap_72 : decode cX8_gap 72 = .ok (.iload_n 1, 1) := by decide +kernel
theorem dX8_gap_73 : decode cX8_gap 73 = .ok (.ireturn, 1) := by decide +kernel
theorem dX8_go_0 : decode cX8_go 0 = .ok (.aload_n 0, 1) := by decide +kernel
theorem dX8_go_1 : decode cX8_go 1 = .ok (.iload_n 1, 1) := by decide +kernel
theorem dX8_go_2 : decode cX8_go 2 = .ok (.invokevirtual 234, 3) := by decide +kernel
theorem dX8_go_5 : decode cX8_go 5 = .ok (.aload_n 0, 1) := by decide +kernel
theorem dX8_go_6 : decode cX8_go 6 = .ok (.invokevirtual 147, 3) := by decide +kernel
theorem dX8_go_9 : decode cX8_go 9 = .ok (.aload_n 0, 1) := by decide +kernel
theorem dX8_go_10 : decode cX8_go 10 = .ok (.aload_n 0, 1) := by decide +kernel
theorem dX8_go_11 : decode cX8_go 11 = .ok (.iload_n 1, 1) := by decide +kernel
theorem dX8_go_12 : decode cX8_go 12 = .ok (.invokevirtual 458, 3) := by decide +kernel
theorem dX8_go_15 : decode cX8_go 15 = .ok (.invokevirtual 431, 3) := by decide +kernel
theorem dX8_go_18 : decode cX8_go 18 = .ok (.ireturn, 1) := by decide +kernel
theorem dX8_grown_0 : decode cX8_grown 0 = .ok (.aload_n 0, 1) := by decide +kernel
theorem dX8_grown_1 : decode cX8_grown 1 = .ok (.getfield 72, 3) := by decide +kernel
theorem dX8_grown_4 : decode cX8_grown 4 = .ok (.aload_n 0, 1) := by decide +kernel
theorem dX8_grown_5 : decode cX8_grown 5 = .ok (.getfield 42, 3) := by decide +kernel
theorem dX8_grown_8 : decode cX8_grown 8 = .ok (.invokevirtual 397, 3) := by decide +kernel
theorem dX8_grown_11 : decode cX8_grown 11 = .ok (.aload_n 0, 1) := by decide +kernel
theorem dX8_grown_12 : decode cX8_grown 12 = .ok (.getfield 72, 3) := by decide +kernel
theorem dX8_grown_15 : decode cX8_grown 15 = .ok (.areturn, 1) := by decide +kernel
theorem dX8_inWay_0 : decode cX8_inWay 0 = .ok (.aload_n 0, 1) := by decide +kernel
theorem dX8_inWay_1 : decode cX8_inWay 1 = .ok (.iload_n 1, 1) := by decide +kernel
theorem dX8_inWay_2 : decode cX8_inWay 2 = .ok (.invokevirtual 351, 3) := by decide +kernel
theorem dX8_inWay_5 : decode cX8_inWay 5 = .ok (.astore_n 2, 1) := by decide +kernel
theorem dX8_inWay_6 : decode cX8_inWay 6 = .ok (.aload_n 0, 1) := by decide +kernel
theorem dX8_inWay_7 : decode cX8_inWay 7 = .ok (.getfield 42, 3) := by decide +kernel
theorem dX8_inWay_10 : decode cX8_inWay 10 = .ok (.iload_n 1, 1) := by decide +kernel
theorem dX8_inWay_11 : decode cX8_inWay 11 = .ok (.invokevirtual 331, 3) := by decide +kernel
theorem dX8_inWay_14 : decode cX8_inWay 14 = .ok (.ifCond .eq 18, 3) := by decide +kernel
theorem dX8_inWay_17 : decode cX8_inWay 17 = .ok (.aload_n 2, 1) := by decide +kernel
theorem dX8_inWay_18 : decode cX8_inWay 18 = .ok (.aload_n 0, 1) := by decide +kernel
theorem dX8_inWay_19 : decode cX8_inWay 19 = .ok (.getfield 42, 3) := by decide +kernel
theorem dX8_inWay_22 : decode cX8_inWay 22 = .ok (.iload_n 1, 1) := by decide +kernel
theorem dX8_inWay_23 : decode cX8_inWay 23 = .ok (.invokevirtual 249, 3) := by decide +kernel
theorem dX8_inWay_26 : decode cX8_inWay 26 = .ok (.invokevirtual 273, 3) := by decide +kernel
theorem dX8_inWay_29 : decode cX8_inWay 29 = .ok (.goto 4, 3) := by decide +kernel
theorem dX8_inWay_32 : decode cX8_inWay 32 = .ok (.iconst (-1), 1) := by decide +kernel
theorem dX8_inWay_33 : decode cX8_inWay 33 = .ok (.ireturn, 1) := by decide +kernel
theorem dX8_inversions_0 : decode cX8_inversions 0 = .ok (.aload_n 0, 1) := by decide +kernel
theorem dX8_inversions_1 : decode cX8_inversions 1 = .ok (.invokevirtual 245, 3) := by decide +kernel
theorem dX8_inversions_4 : decode cX8_inversions 4 = .ok (.astore_n 1, 1) := by decide +kernel
theorem dX8_inversions_5 : decode cX8_inversions 5 = .ok (.iconst 0, 1) := by decide +kernel
theorem dX8_inversions_6 : decode cX8_inversions 6 = .ok (.istore_n 2, 1) := by decide +kernel
theorem dX8_inversions_7 : decode cX8_inversions 7 = .ok (.iconst 1, 1) := by decide +kernel
theorem dX8_inversions_8 : decode cX8_inversions 8 = .ok (.istore_n 3, 1) := by decide +kernel
theorem dX8_inversions_9 : decode cX8_inversions 9 = .ok (.iload_n 3, 1) := by decide +kernel
theorem dX8_inversions_10 : decode cX8_inversions 10 = .ok (.aload_n 0, 1) := by decide +kernel
theorem dX8_inversions_11 : decode cX8_inversions 11 = .ok (.getfield 42, 3) := by decide +kernel
theorem dX8_inversions_14 : decode cX8_inversions 14 = .ok (.invokevirtual 138, 3) := by decide +kernel
theorem dX8_inversions_17 : decode cX8_inversions 17 = .ok (.if_icmp .ge 41, 3) := by decide +kernel
theorem dX8_inversions_20 : decode cX8_inversions 20 = .ok (.iconst 0, 1) := by decide +kernel
theorem dX8_inversions_21 : decode cX8_inversions 21 = .ok (.istore 4, 2) := by decide +kernel
theorem dX8_inversions_23 : decode cX8_inversions 23 = .ok (.iload 4, 2) := by decide +kernel
theorem dX8_inversions_25 : decode cX8_inversions 25 = .ok (.iload_n 3, 1) := by decide +kernel
theorem dX8_inversions_26 : decode cX8_inversions 26 = .ok (.if_icmp .ge 26, 3) := by decide +kernel
theorem dX8_inversions_29 : decode cX8_inversions 29 = .ok (.aload_n 1, 1) := by decide +kernel
theorem dX8_inversions_30 : decode cX8_inversions 30 = .ok (.iload 4, 2) := by decide +kernel
theorem dX8_inversions_32 : decode cX8_inversions 32 = .ok (.invokevirtual 363, 3) := by decide +kernel
theorem dX8_inversions_35 : decode cX8_inversions 35 = .ok (.aload_n 1, 1) := by decide +kernel
theorem dX8_inversions_36 : decode cX8_inversions 36 = .ok (.iload_n 3, 1) := by decide +kernel
theorem dX8_inversions_37 : decode cX8_inversions 37 = .ok (.invokevirtual 363, 3) := by decide +kernel
theorem dX8_inversions_40 : decode cX8_inversions 40 = .ok (.if_icmp .le 6, 3) := by decide +kernel
theorem dX8_inversions_43 : decode cX8_inversions 43 = .ok (.iinc 2 1, 3) := by decide +kernel
theorem dX8_inversions_46 : decode cX8_inversions 46 = .ok (.iinc 4 1, 3) := by decide +kernel
theorem dX8_inversions_49 : decode cX8_inversions 49 = .ok (.goto (-26), 3) := by decide +kernel
theorem dX8_inversions_52 : decode cX8_inversions 52 = .ok (.iinc 3 1, 3) := by decide +kernel
theorem dX8_inversions_55 : decode cX8_inversions 55 = .ok (.goto (-46), 3) := by decide +kernel
theorem dX8_inversions_58 : decode cX8_inversions 58 = .ok (.iload_n 2, 1) := by decide +kernel
theorem dX8_inversions_59 : decode cX8_inversions 59 = .ok (.ireturn, 1) := by decide +kernel
theorem dX8_isBack_0 : decode cX8_isBack 0 = .ok (.iload_n 0, 1) := by decide +kernel
theorem dX8_isBack_1 : decode cX8_isBack 1 = .ok (.ifCond .lt 12, 3) := by decide +kernel
theorem dX8_isBack_4 : decode cX8_isBack 4 = .ok (.iload_n 0, 1) := by decide +kernel
theorem dX8_isBack_5 : decode cX8_isBack 5 = .ok (.iconst 5, 1) := by decide +kernel
theorem dX8_isBack_6 : decode cX8_isBack 6 = .ok (.if_icmp .gt 7, 3) := by decide +kernel
theorem dX8_isBack_9 : decode cX8_isBack 9 = .ok (.iconst 1, 1) := by decide +kernel
theorem dX8_isBack_10 : decode cX8_isBack 10 = .ok (.goto 4, 3) := by decide +kernel
theorem dX8_isBack_13 : decode cX8_isBack 13 = .ok (.iconst 0, 1) := by decide +kernel
theorem dX8_isBack_14 : decode cX8_isBack 14 = .ok (.ireturn, 1) := by decide +kernel
theorem dX8_isDigit_0 : decode cX8_isDigit 0 = .ok (.iload_n 0, 1) := by decide +kernel
theorem dX8_isDigit_1 : decode cX8_isDigit 1 = .ok (.bipush 48, 2) := by decide +kernel
theorem dX8_isDigit_3 : decode cX8_isDigit 3 = .ok (.if_icmp .lt 13, 3) := by decide +kernel
theorem dX8_isDigit_6 : decode cX8_isDigit 6 = .ok (.iload_n 0, 1) := by decide +kernel
theorem dX8_isDigit_7 : decode cX8_isDigit 7 = .ok (.bipush 57, 2) := by decide +kernel
theorem dX8_isDigit_9 : decode cX8_isDigit 9 = .ok (.if_icmp .gt 7, 3) := by decide +kernel
theorem dX8_isDigit_12 : decode cX8_isDigit 12 = .ok (.iconst 1, 1) := by decide +kernel
theorem dX8_isDigit_13 : decode cX8_isDigit 13 = .ok (.goto 4, 3) := by decide +kernel
theorem dX8_isDigit_16 : decode cX8_isDigit 16 = .ok (.iconst 0, 1) := by decide +kernel
theorem dX8_isDigit_17 : decode cX8_isDigit 17 = .ok (.ireturn, 1) := by decide +kernel
theorem dX8_isLetter_0 : decode cX8_isLetter 0 = .ok (.iload_n 0, 1) := by decide +kernel
theorem dX8_isLetter_1 : decode cX8_isLetter 1 = .ok (.bipush 97, 2) := by decide +kernel
theorem dX8_isLetter_3 : decode cX8_isLetter 3 = .ok (.if_icmp .lt 13, 3) := by decide +kernel
theorem dX8_isLetter_6 : decode cX8_isLetter 6 = .ok (.iload_n 0, 1) := by decide +kernel
theorem dX8_isLetter_7 : decode cX8_isLetter 7 = .ok (.bipush 122, 2) := by decide +kernel
theorem dX8_isLetter_9 : decode cX8_isLetter 9 = .ok (.if_icmp .gt 7, 3) := by decide +kernel
theorem dX8_isLetter_12 : decode cX8_isLetter 12 = .ok (.iconst 1, 1) := by decide +kernel
theorem dX8_isLetter_13 : decode cX8_isLetter 13 = .ok (.goto 4, 3) := by decide +kernel
theorem dX8_isLetter_16 : decode cX8_isLetter 16 = .ok (.iconst 0, 1) := by decide +kernel
theorem dX8_isLetter_17 : decode cX8_isLetter 17 = .ok (.ireturn, 1) := by decide +kernel
theorem dX8_isParking_0 : decode cX8_isParking 0 = .ok (.aload_n 0, 1) := by decide +kernel
theorem dX8_isParking_1 : decode cX8_isParking 1 = .ok (.invokevirtual 245, 3) := by decide +kernel
theorem dX8_isParking_4 : decode cX8_isParking 4 = .ok (.invokevirtual 295, 3) := by decide +kernel
theorem dX8_isParking_7 : decode cX8_isParking 7 = .ok (.ifCond .ne 7, 3) := by decide +kernel
theorem dX8_isParking_10 : decode cX8_isParking 10 = .ok (.iconst 1, 1) := by decide +kernel
theorem dX8_isParking_11 : decode cX8_isParking 11 = .ok (.goto 4, 3) := by decide +kernel
theorem dX8_isParking_14 : decode cX8_isParking 14 = .ok (.iconst 0, 1) := by decide +kernel
theorem dX8_isParking_15 : decode cX8_isParking 15 = .ok (.ireturn, 1) := by decide +kernel
theorem dX8_isTurn_0 : decode cX8_isTurn 0 = .ok (.iload_n 0, 1) := by decide +kernel
theorem dX8_isTurn_1 : decode cX8_isTurn 1 = .ok (.ifCond .lt 13, 3) := by decide +kernel
theorem dX8_isTurn_4 : decode cX8_isTurn 4 = .ok (.iload_n 0, 1) := by decide +kernel
theorem dX8_isTurn_5 : decode cX8_isTurn 5 = .ok (.bipush 99, 2) := by decide +kernel
theorem dX8_isTurn_7 : decode cX8_isTurn 7 = .ok (.if_icmp .gt 7, 3) := by decide +kernel
theorem dX8_isTurn_10 : decode cX8_isTurn 10 = .ok (.iconst 1, 1) := by decide +kernel
theorem dX8_isTurn_11 : decode cX8_isTurn 11 = .ok (.goto 4, 3) := by decide +kernel
theorem dX8_isTurn_14 : decode cX8_isTurn 14 = .ok (.iconst 0, 1) := by decide +kernel
theorem dX8_isTurn_15 : decode cX8_isTurn 15 = .ok (.ireturn, 1) := by decide +kernel
theorem dX8_keepNoted_0 : decode cX8_keepNoted 0 = .ok (.aload_n 0, 1) := by decide +kernel
theorem dX8_keepNoted_1 : decode cX8_keepNoted 1 = .ok (.getfield 80, 3) := by decide +kernel
theorem dX8_keepNoted_4 : decode cX8_keepNoted 4 = .ok (.bipush 6, 2) := by decide +kernel
theorem dX8_keepNoted_6 : decode cX8_keepNoted 6 = .ok (.if_icmp .lt 50, 3) := by decide +kernel
theorem dX8_keepNoted_9 : decode cX8_keepNoted 9 = .ok (.aload_n 0, 1) := by decide +kernel
theorem dX8_keepNoted_10 : decode cX8_keepNoted 10 = .ok (.getfield 55, 3) := by decide +kernel
theorem dX8_keepNoted_13 : decode cX8_keepNoted 13 = .ok (.iconst 0, 1) := by decide +kernel
theorem dX8_keepNoted_14 : decode cX8_keepNoted 14 = .ok (.aaload, 1) := by decide +kernel
theorem dX8_keepNoted_15 : decode cX8_keepNoted 15 = .ok (.astore_n 1, 1) := by decide +kernel
theorem dX8_keepNoted_16 : decode cX8_keepNoted 16 = .ok (.iconst 1, 1) := by decide +kernel
theorem dX8_keepNoted_17 : decode cX8_keepNoted 17 = .ok (.istore_n 2, 1) := by decide +kernel
theorem dX8_keepNoted_18 : decode cX8_keepNoted 18 = .ok (.iload_n 2, 1) := by decide +kernel
theorem dX8_keepNoted_19 : decode cX8_keepNoted 19 = .ok (.bipush 6, 2) := by decide +kernel
theorem dX8_keepNoted_21 : decode cX8_keepNoted 21 = .ok (.if_icmp .ge 23, 3) := by decide +kernel
theorem dX8_keepNoted_24 : decode cX8_keepNoted 24 = .ok (.aload_n 0, 1) := by decide +kernel
theorem dX8_keepNoted_25 : decode cX8_keepNoted 25 = .ok (.getfield 55, 3) := by decide +kernel
theorem dX8_keepNoted_28 : decode cX8_keepNoted 28 = .ok (.iload_n 2, 1) := by decide +kernel
theorem dX8_keepNoted_29 : decode cX8_keepNoted 29 = .ok (.iconst 1, 1) := by decide +kernel
theorem dX8_keepNoted_30 : decode cX8_keepNoted 30 = .ok (.isub, 1) := by decide +kernel
theorem dX8_keepNoted_31 : decode cX8_keepNoted 31 = .ok (.aload_n 0, 1) := by decide +kernel
theorem dX8_keepNoted_32 : decode cX8_keepNoted 32 = .ok (.getfield 55, 3) := by decide +kernel
theorem dX8_keepNoted_35 : decode cX8_keepNoted 35 = .ok (.iload_n 2, 1) := by decide +kernel
theorem dX8_keepNoted_36 : decode cX8_keepNoted 36 = .ok (.aaload, 1) := by decide +kernel
theorem dX8_keepNoted_37 : decode cX8_keepNoted 37 = .ok (.aastore, 1) := by decide +kernel
theorem dX8_keepNoted_38 : decode cX8_keepNoted 38 = .ok (.iinc 2 1, 3) := by decide +kernel
theorem dX8_keepNoted_41 : decode cX8_keepNoted 41 = .ok (.goto (-23), 3) := by decide +kernel
theorem dX8_keepNoted_44 : decode cX8_keepNoted 44 = .ok (.aload_n 0, 1) := by decide +kernel
theorem dX8_keepNoted_45 : decode cX8_keepNoted 45 = .ok (.getfield 55, 3) := by decide +kernel
theorem dX8_keepNoted_48 : decode cX8_keepNoted 48 = .ok (.iconst 5, 1) := by decide +kernel
theorem dX8_keepNoted_49 : decode cX8_keepNoted 49 = .ok (.aload_n 1, 1) := by decide +kernel
theorem dX8_keepNoted_50 : decode cX8_keepNoted 50 = .ok (.aastore, 1) := by decide +kernel
theorem dX8_keepNoted_51 : decode cX8_keepNoted 51 = .ok (.aload_n 0, 1) := by decide +kernel
theorem dX8_keepNoted_52 : decode cX8_keepNoted 52 = .ok (.iconst 5, 1) := by decide +kernel
theorem dX8_keepNoted_53 : decode cX8_keepNoted 53 = .ok (.putfield 80, 3) := by decide +kernel
theorem dX8_keepNoted_56 : decode cX8_keepNoted 56 = .ok (.aload_n 0, 1) := by decide +kernel
theorem dX8_keepNoted_57 : decode cX8_keepNoted 57 = .ok (.getfield 80, 3) := by decide +kernel
theorem dX8_keepNoted_60 : decode cX8_keepNoted 60 = .ok (.ifCond .lt 38, 3) := by decide +kernel
theorem dX8_keepNoted_63 : decode cX8_keepNoted 63 = .ok (.aload_n 0, 1) := by decide +kernel
theorem dX8_keepNoted_64 : decode cX8_keepNoted 64 = .ok (.getfield 80, 3) := by decide +kernel
theorem dX8_keepNoted_67 : decode cX8_keepNoted 67 = .ok (.bipush 6, 2) := by decide +kernel
theorem dX8_keepNoted_69 : decode cX8_keepNoted 69 = .ok (.if_icmp .ge 29, 3) := by decide +kernel
theorem dX8_keepNoted_72 : decode cX8_keepNoted 72 = .ok (.aload_n 0, 1) := by decide +kernel
theorem dX8_keepNoted_73 : decode cX8_keepNoted 73 = .ok (.getfield 55, 3) := by decide +kernel
theorem dX8_keepNoted_76 : decode cX8_keepNoted 76 = .ok (.aload_n 0, 1) := by decide +kernel
theorem dX8_keepNoted_77 : decode cX8_keepNoted 77 = .ok (.getfield 80, 3) := by decide +kernel
theorem dX8_keepNoted_80 : decode cX8_keepNoted 80 = .ok (.aaload, 1) := by decide +kernel
theorem dX8_keepNoted_81 : decode cX8_keepNoted 81 = .ok (.aload_n 0, 1) := by decide +kernel
theorem dX8_keepNoted_82 : decode cX8_keepNoted 82 = .ok (.getfield 52, 3) := by decide +kernel
theorem dX8_keepNoted_85 : decode cX8_keepNoted 85 = .ok (.invokevirtual 134, 3) := by decide +kernel
theorem dX8_keepNoted_88 : decode cX8_keepNoted 88 = .ok (.aload_n 0, 1) := by decide +kernel
theorem dX8_keepNoted_89 : decode cX8_keepNoted 89 = .ok (.dup, 1) := by decide +kernel
theorem dX8_keepNoted_90 : decode cX8_keepNoted 90 = .ok (.getfield 80, 3) := by decide +kernel
theorem dX8_keepNoted_93 : decode cX8_keepNoted 93 = .ok (.iconst 1, 1) := by decide +kernel
theorem dX8_keepNoted_94 : decode cX8_keepNoted 94 = .ok (.iadd, 1) := by decide +kernel
theorem dX8_keepNoted_95 : decode cX8_keepNoted 95 = .ok (.putfield 80, 3) := by decide +kernel
theorem dX8_keepNoted_98 : decode cX8_keepNoted 98 = .ok (.return_, 1) := by decide +kernel
theorem dX8_keepNotedIf_0 : decode cX8_keepNotedIf 0 = .ok (.iload_n 1, 1) := by decide +kernel
theorem dX8_keepNotedIf_1 : decode cX8_keepNotedIf 1 = .ok (.ifCond .eq 7, 3) := by decide +kernel
theorem dX8_keepNotedIf_4 : decode cX8_keepNotedIf 4 = .ok (.aload_n 0, 1) := by decide +kernel
theorem dX8_keepNotedIf_5 : decode cX8_keepNotedIf 5 = .ok (.invokevirtual 155, 3) := by decide +kernel
theorem dX8_keepNotedIf_8 : decode cX8_keepNotedIf 8 = .ok (.iload_n 1, 1) := by decide +kernel
theorem dX8_keepNotedIf_9 : decode cX8_keepNotedIf 9 = .ok (.ireturn, 1) := by decide +kernel
theorem dX8_latest_0 : decode cX8_latest 0 = .ok (.aload_n 0, 1) := by decide +kernel
theorem dX8_latest_1 : decode cX8_latest 1 = .ok (.iload_n 1, 1) := by decide +kernel
theorem dX8_latest_2 : decode cX8_latest 2 = .ok (.invokevirtual 234, 3) := by decide +kernel
theorem dX8_latest_5 : decode cX8_latest 5 = .ok (.aload_n 0, 1) := by decide +kernel
theorem dX8_latest_6 : decode cX8_latest 6 = .ok (.getfield 46, 3) := by decide +kernel
theorem dX8_latest_9 : decode cX8_latest 9 = .ok (.aload_n 0, 1) := by decide +kernel
theorem dX8_latest_10 : decode cX8_latest 10 = .ok (.getfield 42, 3) := by decide +kernel
theorem dX8_latest_13 : decode cX8_latest 13 = .ok (.invokevirtual 134, 3) := by decide +kernel
theorem dX8_latest_16 : decode cX8_latest 16 = .ok (.iload_n 1, 1) := by decide +kernel
theorem dX8_latest_17 : decode cX8_latest 17 = .ok (.istore_n 2, 1) := by decide +kernel
theorem dX8_latest_18 : decode cX8_latest 18 = .ok (.iload_n 2, 1) := by decide +kernel
theorem dX8_latest_19 : decode cX8_latest 19 = .ok (.iconst 1, 1) := by decide +kernel
theorem dX8_latest_20 : decode cX8_latest 20 = .ok (.iadd, 1) := by decide +kernel
theorem dX8_latest_21 : decode cX8_latest 21 = .ok (.aload_n 0, 1) := by decide +kernel
theorem dX8_latest_22 : decode cX8_latest 22 = .ok (.getfield 42, 3) := by decide +kernel
theorem dX8_latest_25 : decode cX8_latest 25 = .ok (.invokevirtual 138, 3) := by decide +kernel
theorem dX8_latest_28 : decode cX8_latest 28 = .ok (.if_icmp .ge 20, 3) := by decide +kernel
theorem dX8_latest_31 : decode cX8_latest 31 = .ok (.aload_n 0, 1) := by decide +kernel
theorem dX8_latest_32 : decode cX8_latest 32 = .ok (.getfield 46, 3) := by decide +kernel
theorem dX8_latest_35 : decode cX8_latest 35 = .ok (.iload_n 2, 1) := by decide +kernel
theorem dX8_latest_36 : decode cX8_latest 36 = .ok (.iload_n 2, 1) := by decide +kernel
theorem dX8_latest_37 : decode cX8_latest 37 = .ok (.iconst 1, 1) := by decide +kernel
theorem dX8_latest_38 : decode cX8_latest 38 = .ok (.iadd, 1) := by decide +kernel
theorem dX8_latest_39 : decode cX8_latest 39 = .ok (.invokevirtual 416, 3) := by decide +kernel
theorem dX8_latest_42 : decode cX8_latest 42 = .ok (.iinc 2 1, 3) := by decide +kernel
theorem dX8_latest_45 : decode cX8_latest 45 = .ok (.goto (-27), 3) := by decide +kernel
theorem dX8_latest_48 : decode cX8_latest 48 = .ok (.aload_n 0, 1) := by decide +kernel
theorem dX8_latest_49 : decode cX8_latest 49 = .ok (.getfield 62, 3) := by decide +kernel
theorem dX8_latest_52 : decode cX8_latest 52 = .ok (.aload_n 0, 1) := by decide +kernel
theorem dX8_latest_53 : decode cX8_latest 53 = .ok (.getfield 46, 3) := by decide +kernel
theorem dX8_latest_56 : decode cX8_latest 56 = .ok (.aload_n 0, 1) := by decide +kernel
theorem dX8_latest_57 : decode cX8_latest 57 = .ok (.getfield 46, 3) := by decide +kernel
theorem dX8_latest_60 : decode cX8_latest 60 = .ok (.invokevirtual 138, 3) := by decide +kernel
theorem dX8_latest_63 : decode cX8_latest 63 = .ok (.invokevirtual 301, 3) := by decide +kernel
theorem dX8_latest_66 : decode cX8_latest 66 = .ok (.aload_n 0, 1) := by decide +kernel
theorem dX8_latest_67 : decode cX8_latest 67 = .ok (.getfield 62, 3) := by decide +kernel
theorem dX8_latest_70 : decode cX8_latest 70 = .ok (.aload_n 0, 1) := by decide +kernel
theorem dX8_latest_71 : decode cX8_latest 71 = .ok (.getfield 42, 3) := by decide +kernel
theorem dX8_latest_74 : decode cX8_latest 74 = .ok (.iload_n 1, 1) := by decide +kernel
theorem dX8_latest_75 : decode cX8_latest 75 = .ok (.invokevirtual 249, 3) := by decide +kernel
theorem dX8_latest_78 : decode cX8_latest 78 = .ok (.invokevirtual 273, 3) := by decide +kernel
theorem dX8_latest_81 : decode cX8_latest 81 = .ok (.ireturn, 1) := by decide +kernel
theorem dX8_leaves_0 : decode cX8_leaves 0 = .ok (.aload_n 0, 1) := by decide +kernel
theorem dX8_leaves_1 : decode cX8_leaves 1 = .ok (.invokevirtual 366, 3) := by decide +kernel
theorem dX8_leaves_4 : decode cX8_leaves 4 = .ok (.invokevirtual 391, 3) := by decide +kernel
theorem dX8_leaves_7 : decode cX8_leaves 7 = .ok (.ireturn, 1) := by decide +kernel
theorem dX8_letter_0 : decode cX8_letter 0 = .ok (.aload_n 0, 1) := by decide +kernel
theorem dX8_letter_1 : decode cX8_letter 1 = .ok (.iload_n 1, 1) := by decide +kernel
theorem dX8_letter_2 : decode cX8_letter 2 = .ok (.invokevirtual 234, 3) := by decide +kernel
theorem dX8_letter_5 : decode cX8_letter 5 = .ok (.aload_n 0, 1) := by decide +kernel
theorem dX8_letter_6 : decode cX8_letter 6 = .ok (.getfield 42, 3) := by decide +kernel
theorem dX8_letter_9 : decode cX8_letter 9 = .ok (.iload_n 1, 1) := by decide +kernel
theorem dX8_letter_10 : decode cX8_letter 10 = .ok (.invokevirtual 237, 3) := by decide +kernel
theorem dX8_letter_13 : decode cX8_letter 13 = .ok (.iload_n 2, 1) := by decide +kernel
theorem dX8_letter_14 : decode cX8_letter 14 = .ok (.invokestatic 241, 3) := by decide +kernel
theorem dX8_letter_17 : decode cX8_letter 17 = .ok (.ireturn, 1) := by decide +kernel
theorem dX8_letterOf_0 : decode cX8_letterOf 0 = .ok (.iload_n 2, 1) := by decide +kernel
theorem dX8_letterOf_1 : decode cX8_letterOf 1 = .ok (.ifCond .lt 9, 3) := by decide +kernel
theorem dX8_letterOf_4 : decode cX8_letterOf 4 = .ok (.iload_n 2, 1) := by decide +kernel
theorem dX8_letterOf_5 : decode cX8_letterOf 5 = .ok (.bipush 8, 2) := by decide +kernel
theorem dX8_letterOf_7 : decode cX8_letterOf 7 = .ok (.if_icmp .lt 5, 3) := by decide +kernel
theorem dX8_letterOf_10 : decode cX8_letterOf 10 = .ok (.iconst 0, 1) := by decide +kernel
theorem dX8_letterOf_11 : decode cX8_letterOf 11 = .ok (.ireturn, 1) := by decide +kernel
theorem dX8_letterOf_12 : decode cX8_letterOf 12 = .ok (.lload_n 0, 1) := by decide +kernel
theorem dX8_letterOf_13 : decode cX8_letterOf 13 = .ok (.iconst 5, 1) := by decide +kernel
theorem dX8_letterOf_14 : decode cX8_letterOf 14 = .ok (.bipush 7, 2) := by decide +kernel
theorem dX8_letterOf_16 : decode cX8_letterOf 16 = .ok (.iload_n 2, 1) := by decide +kernel
theorem dX8_letterOf_17 : decode cX8_letterOf 17 = .ok (.isub, 1) := by decide +kernel
theorem dX8_letterOf_18 : decode cX8_letterOf 18 = .ok (.imul, 1) := by decide +kernel
theorem dX8_letterOf_19 : decode cX8_letterOf 19 = .ok (.lshr, 1) := by decide +kernel
theorem dX8_letterOf_20 : decode cX8_letterOf 20 = .ok (.l2i, 1) := by decide +kernel
theorem dX8_letterOf_21 : decode cX8_letterOf 21 = .ok (.bipush 31, 2) := by decide +kernel
theorem dX8_letterOf_23 : decode cX8_letterOf 23 = .ok (.iand, 1) := by decide +kernel
theorem dX8_letterOf_24 : decode cX8_letterOf 24 = .ok (.ireturn, 1) := by decide +kernel
theorem dX8_longestAfter_0 : decode cX8_longestAfter 0 = .ok (.aload_n 0, 1) := by decide +kernel
theorem dX8_longestAfter_1 : decode cX8_longestAfter 1 = .ok (.iload_n 1, 1) := by decide +kernel
theorem dX8_longestAfter_2 : decode cX8_longestAfter 2 = .ok (.invokevirtual 351, 3) := by decide +kernel
theorem dX8_longestAfter_5 : decode cX8_longestAfter 5 = .ok (.invokevirtual 355, 3) := by decide +kernel
theorem dX8_longestAfter_8 : decode cX8_longestAfter 8 = .ok (.ireturn, 1) := by decide +kernel
theorem dX8_luckyShare_0 : decode cX8_luckyShare 0 = .ok (.aload_n 0, 1) := by decide +kernel
theorem dX8_luckyShare_1 : decode cX8_luckyShare 1 = .ok (.getfield 42, 3) := by decide +kernel
theorem dX8_luckyShare_4 : decode cX8_luckyShare 4 = .ok (.invokevirtual 138, 3) := by decide +kernel
theorem dX8_luckyShare_7 : decode cX8_luckyShare 7 = .ok (.istore_n 1, 1) := by decide +kernel
theorem dX8_luckyShare_8 : decode cX8_luckyShare 8 = .ok (.iload_n 1, 1) := by decide +kernel
theorem dX8_luckyShare_9 : decode cX8_luckyShare 9 = .ok (.ifCond .ne 7, 3) := by decide +kernel
theorem dX8_luckyShare_12 : decode cX8_luckyShare 12 = .ok (.fconst 0, 1) := by decide +kernel
theorem dX8_luckyShare_13 : decode cX8_luckyShare 13 = .ok (.goto 14, 3) := by decide +kernel
theorem dX8_luckyShare_16 : decode cX8_luckyShare 16 = .ok (.aload_n 0, 1) := by decide +kernel
theorem dX8_luckyShare_17 : decode cX8_luckyShare 17 = .ok (.invokevirtual 245, 3) := by decide +kernel
theorem dX8_luckyShare_20 : decode cX8_luckyShare 20 = .ok (.invokevirtual 317, 3) := by decide +kernel
theorem dX8_luckyShare_23 : decode cX8_luckyShare 23 = .ok (.i2f, 1) := by decide +kernel
theorem dX8_luckyShare_24 : decode cX8_luckyShare 24 = .ok (.iload_n 1, 1) := by decide +kernel
theorem dX8_luckyShare_25 : decode cX8_luckyShare 25 = .ok (.i2f, 1) := by decide +kernel
theorem dX8_luckyShare_26 : decode cX8_luckyShare 26 = .ok (.fdiv, 1) := by decide +kernel
theorem dX8_luckyShare_27 : decode cX8_luckyShare 27 = .ok (.freturn, 1) := by decide +kernel
theorem dX8_meanWay_0 : decode cX8_meanWay 0 = .ok (.aload_n 0, 1) := by decide +kernel
theorem dX8_meanWay_1 : decode cX8_meanWay 1 = .ok (.getfield 42, 3) := by decide +kernel
theorem dX8_meanWay_4 : decode cX8_meanWay 4 = .ok (.invokevirtual 138, 3) := by decide +kernel
theorem dX8_meanWay_7 : decode cX8_meanWay 7 = .ok (.istore_n 1, 1) := by decide +kernel
theorem dX8_meanWay_8 : decode cX8_meanWay 8 = .ok (.iload_n 1, 1) := by decide +kernel
theorem dX8_meanWay_9 : decode cX8_meanWay 9 = .ok (.ifCond .ne 7, 3) := by decide +kernel
theorem dX8_meanWay_12 : decode cX8_meanWay 12 = .ok (.dconst 0, 1) := by decide +kernel
theorem dX8_meanWay_13 : decode cX8_meanWay 13 = .ok (.goto 14, 3) := by decide +kernel
theorem dX8_meanWay_16 : decode cX8_meanWay 16 = .ok (.aload_n 0, 1) := by decide +kernel
theorem dX8_meanWay_17 : decode cX8_meanWay 17 = .ok (.invokevirtual 245, 3) := by decide +kernel
theorem dX8_meanWay_20 : decode cX8_meanWay 20 = .ok (.invokevirtual 320, 3) := by decide +kernel
theorem dX8_meanWay_23 : decode cX8_meanWay 23 = .ok (.i2d, 1) := by decide +kernel
theorem dX8_meanWay_24 : decode cX8_meanWay 24 = .ok (.iload_n 1, 1) := by decide +kernel
theorem dX8_meanWay_25 : decode cX8_meanWay 25 = .ok (.i2d, 1) := by decide +kernel
theorem dX8_meanWay_26 : decode cX8_meanWay 26 = .ok (.ddiv, 1) := by decide +kernel
theorem dX8_meanWay_27 : decode cX8_meanWay 27 = .ok (.dreturn, 1) := by decide +kernel
theorem dX8_measured_0 : decode cX8_measured 0 = .ok (.aload_n 0, 1) := by decide +kernel
theorem dX8_measured_1 : decode cX8_measured 1 = .ok (.getfield 72, 3) := by decide +kernel
theorem dX8_measured_4 : decode cX8_measured 4 = .ok (.aload_n 0, 1) := by decide +kernel
theorem dX8_measured_5 : decode cX8_measured 5 = .ok (.getfield 42, 3) := by decide +kernel
theorem dX8_measured_8 : decode cX8_measured 8 = .ok (.invokevirtual 397, 3) := by decide +kernel
theorem dX8_measured_11 : decode cX8_measured 11 = .ok (.aload_n 0, 1) := by decide +kernel
theorem dX8_measured_12 : decode cX8_measured 12 = .ok (.getfield 72, 3) := by decide +kernel
theorem dX8_measured_15 : decode cX8_measured 15 = .ok (.invokevirtual 400, 3) := by decide +kernel
theorem dX8_measured_18 : decode cX8_measured 18 = .ok (.aload_n 0, 1) := by decide +kernel
theorem dX8_measured_19 : decode cX8_measured 19 = .ok (.getfield 72, 3) := by decide +kernel
theorem dX8_measured_22 : decode cX8_measured 22 = .ok (.areturn, 1) := by decide +kernel
theorem dX8_needBack_0 : decode cX8_needBack 0 = .ok (.iload_n 1, 1) := by decide +kernel
theorem dX8_needBack_1 : decode cX8_needBack 1 = .ok (.invokestatic 346, 3) := by decide +kernel
theorem dX8_needBack_4 : decode cX8_needBack 4 = .ok (.ifCond .ne 14, 3) := by decide +kernel
theorem dX8_needBack_7 : decode cX8_needBack 7 = .ok (.new 114, 3) := by decide +kernel
theorem dX8_needBack_10 : decode cX8_needBack 10 = .ok (.dup, 1) := by decide +kernel
theorem dX8_needBack_11 : decode cX8_needBack 11 = .ok (.ldc_w 349, 3) := by decide +kernel
theorem dX8_needBack_14 : decode cX8_needBack 14 = .ok (.invokespecial 118, 3) := by decide +kernel
theorem dX8_needBack_17 : decode cX8_needBack 17 = .ok (.athrow, 1) := by decide +kernel
theorem dX8_needBack_18 : decode cX8_needBack 18 = .ok (.return_, 1) := by decide +kernel
theorem dX8_needCar_0 : decode cX8_needCar 0 = .ok (.aload_n 0, 1) := by decide +kernel
theorem dX8_needCar_1 : decode cX8_needCar 1 = .ok (.getfield 42, 3) := by decide +kernel
theorem dX8_needCar_4 : decode cX8_needCar 4 = .ok (.iload_n 1, 1) := by decide +kernel
theorem dX8_needCar_5 : decode cX8_needCar 5 = .ok (.invokevirtual 331, 3) := by decide +kernel
theorem dX8_needCar_8 : decode cX8_needCar 8 = .ok (.ifCond .ne 14, 3) := by decide +kernel
theorem dX8_needCar_11 : decode cX8_needCar 11 = .ok (.new 334, 3) := by decide +kernel
theorem dX8_needCar_14 : decode cX8_needCar 14 = .ok (.dup, 1) := by decide +kernel
theorem dX8_needCar_15 : decode cX8_needCar 15 = .ok (.ldc_w 336, 3) := by decide +kernel
theorem dX8_needCar_18 : decode cX8_needCar 18 = .ok (.invokespecial 338, 3) := by decide +kernel
theorem dX8_needCar_21 : decode cX8_needCar 21 = .ok (.athrow, 1) := by decide +kernel
theorem dX8_needCar_22 : decode cX8_needCar 22 = .ok (.return_, 1) := by decide +kernel
theorem dX8_needNode_0 : decode cX8_needNode 0 = .ok (.aload_n 0, 1) := by decide +kernel
theorem dX8_needNode_1 : decode cX8_needNode 1 = .ok (.getfield 42, 3) := by decide +kernel
theorem dX8_needNode_4 : decode cX8_needNode 4 = .ok (.iload_n 1, 1) := by decide +kernel
theorem dX8_needNode_5 : decode cX8_needNode 5 = .ok (.invokevirtual 339, 3) := by decide +kernel
theorem dX8_needNode_8 : decode cX8_needNode 8 = .ok (.ifCond .ne 14, 3) := by decide +kernel
theorem dX8_needNode_11 : decode cX8_needNode 11 = .ok (.new 334, 3) := by decide +kernel
theorem dX8_needNode_14 : decode cX8_needNode 14 = .ok (.dup, 1) := by decide +kernel
theorem dX8_needNode_15 : decode cX8_needNode 15 = .ok (.ldc_w 403, 3) := by decide +kernel
theorem dX8_needNode_18 : decode cX8_needNode 18 = .ok (.invokespecial 338, 3) := by decide +kernel
theorem dX8_needNode_21 : decode cX8_needNode 21 = .ok (.athrow, 1) := by decide +kernel
theorem dX8_needNode_22 : decode cX8_needNode 22 = .ok (.return_, 1) := by decide +kernel
theorem dX8_needPreference_0 : decode cX8_needPreference 0 = .ok (.aload_n 0, 1) := by decide +kernel
theorem dX8_needPreference_1 : decode cX8_needPreference 1 = .ok (.getfield 42, 3) := by decide +kernel
theorem dX8_needPreference_4 : decode cX8_needPreference 4 = .ok (.iload_n 1, 1) := by decide +kernel
theorem dX8_needPreference_5 : decode cX8_needPreference 5 = .ok (.invokevirtual 339, 3) := by decide +kernel
theorem dX8_needPreference_8 : decode cX8_needPreference 8 = .ok (.ifCond .ne 14, 3) := by decide +kernel
theorem dX8_needPreference_11 : decode cX8_needPreference 11 = .ok (.new 114, 3) := by decide +kernel
theorem dX8_needPreference_14 : decode cX8_needPreference 14 = .ok (.dup, 1) := by decide +kernel
theorem dX8_needPreference_15 : decode cX8_needPreference 15 = .ok (.ldc_w 344, 3) := by decide +kernel
theorem dX8_needPreference_18 : decode cX8_needPreference 18 = .ok (.invokespecial 118, 3) := by decide +kernel
theorem dX8_needPreference_21 : decode cX8_needPreference 21 = .ok (.athrow, 1) := by decide +kernel
theorem dX8_needPreference_22 : decode cX8_needPreference 22 = .ok (.return_, 1) := by decide +kernel
theorem dX8_needSetting_0 : decode cX8_needSetting 0 = .ok (.iload_n 1, 1) := by decide +kernel
theorem dX8_needSetting_1 : decode cX8_needSetting 1 = .ok (.ifCond .lt 9, 3) := by decide +kernel
theorem dX8_needSetting_4 : decode cX8_needSetting 4 = .ok (.iload_n 1, 1) := by decide +kernel
theorem dX8_needSetting_5 : decode cX8_needSetting 5 = .ok (.bipush 9, 2) := by decide +kernel
theorem dX8_needSetting_7 : decode cX8_needSetting 7 = .ok (.if_icmp .le 14, 3) := by decide +kernel
theorem dX8_needSetting_10 : decode cX8_needSetting 10 = .ok (.new 114, 3) := by decide +kernel
theorem dX8_needSetting_13 : decode cX8_needSetting 13 = .ok (.dup, 1) := by decide +kernel
theorem dX8_needSetting_14 : decode cX8_needSetting 14 = .ok (.ldc_w 329, 3) := by decide +kernel
theorem dX8_needSetting_17 : decode cX8_needSetting 17 = .ok (.invokespecial 118, 3) := by decide +kernel
theorem dX8_needSetting_20 : decode cX8_needSetting 20 = .ok (.athrow, 1) := by decide +kernel
theorem dX8_needSetting_21 : decode cX8_needSetting 21 = .ok (.return_, 1) := by decide +kernel
theorem dX8_needSpot_0 : decode cX8_needSpot 0 = .ok (.aload_n 0, 1) := by decide +kernel
theorem dX8_needSpot_1 : decode cX8_needSpot 1 = .ok (.getfield 42, 3) := by decide +kernel
theorem dX8_needSpot_4 : decode cX8_needSpot 4 = .ok (.iload_n 1, 1) := by decide +kernel
theorem dX8_needSpot_5 : decode cX8_needSpot 5 = .ok (.invokevirtual 339, 3) := by decide +kernel
theorem dX8_needSpot_8 : decode cX8_needSpot 8 = .ok (.ifCond .ne 14, 3) := by decide +kernel
theorem dX8_needSpot_11 : decode cX8_needSpot 11 = .ok (.new 334, 3) := by decide +kernel
theorem dX8_needSpot_14 : decode cX8_needSpot 14 = .ok (.dup, 1) := by decide +kernel
theorem dX8_needSpot_15 : decode cX8_needSpot 15 = .ok (.ldc_w 342, 3) := by decide +kernel
theorem dX8_needSpot_18 : decode cX8_needSpot 18 = .ok (.invokespecial 338, 3) := by decide +kernel
theorem dX8_needSpot_21 : decode cX8_needSpot 21 = .ok (.athrow, 1) := by decide +kernel
theorem dX8_needSpot_22 : decode cX8_needSpot 22 = .ok (.return_, 1) := by decide +kernel
theorem dX8_note_0 : decode cX8_note 0 = .ok (.aload_n 0, 1) := by decide +kernel
theorem dX8_note_1 : decode cX8_note 1 = .ok (.getfield 52, 3) := by decide +kernel
theorem dX8_note_4 : decode cX8_note 4 = .ok (.aload_n 0, 1) := by decide +kernel
theorem dX8_note_5 : decode cX8_note 5 = .ok (.getfield 42, 3) := by decide +kernel
theorem dX8_note_8 : decode cX8_note 8 = .ok (.invokevirtual 134, 3) := by decide +kernel
theorem dX8_note_11 : decode cX8_note 11 = .ok (.return_, 1) := by decide +kernel
theorem dX8_parked_0 : decode cX8_parked 0 = .ok (.aload_n 0, 1) := by decide +kernel
theorem dX8_parked_1 : decode cX8_parked 1 = .ok (.getfield 62, 3) := by decide +kernel
theorem dX8_parked_4 : decode cX8_parked 4 = .ok (.aload_n 0, 1) := by decide +kernel
theorem dX8_parked_5 : decode cX8_parked 5 = .ok (.getfield 42, 3) := by decide +kernel
theorem dX8_parked_8 : decode cX8_parked 8 = .ok (.aload_n 0, 1) := by decide +kernel
theorem dX8_parked_9 : decode cX8_parked 9 = .ok (.getfield 42, 3) := by decide +kernel
theorem dX8_parked_12 : decode cX8_parked 12 = .ok (.invokevirtual 138, 3) := by decide +kernel
theorem dX8_parked_15 : decode cX8_parked 15 = .ok (.invokevirtual 301, 3) := by decide +kernel
theorem dX8_parked_18 : decode cX8_parked 18 = .ok (.aload_n 0, 1) := by decide +kernel
theorem dX8_parked_19 : decode cX8_parked 19 = .ok (.getfield 62, 3) := by decide +kernel
theorem dX8_parked_22 : decode cX8_parked 22 = .ok (.areturn, 1) := by decide +kernel
theorem dX8_parkedAfter_0 : decode cX8_parkedAfter 0 = .ok (.iload_n 1, 1) := by decide +kernel
theorem dX8_parkedAfter_1 : decode cX8_parkedAfter 1 = .ok (.ifCond .lt 14, 3) := by decide +kernel
theorem dX8_parkedAfter_4 : decode cX8_parkedAfter 4 = .ok (.iload_n 1, 1) := by decide +kernel
theorem dX8_parkedAfter_5 : decode cX8_parkedAfter 5 = .ok (.aload_n 0, 1) := by decide +kernel
theorem dX8_parkedAfter_6 : decode cX8_parkedAfter 6 = .ok (.getfield 42, 3) := by decide +kernel
theorem dX8_parkedAfter_9 : decode cX8_parkedAfter 9 = .ok (.invokevirtual 138, 3) := by decide +kernel
theorem dX8_parkedAfter_12 : decode cX8_parkedAfter 12 = .ok (.if_icmp .le 14, 3) := by decide +kernel
theorem dX8_parkedAfter_15 : decode cX8_parkedAfter 15 = .ok (.new 114, 3) := by decide +kernel
theorem dX8_parkedAfter_18 : decode cX8_parkedAfter 18 = .ok (.dup, 1) := by decide +kernel
theorem dX8_parkedAfter_19 : decode cX8_parkedAfter 19 = .ok (.ldc_w 358, 3) := by decide +kernel
theorem dX8_parkedAfter_22 : decode cX8_parkedAfter 22 = .ok (.invokespecial 118, 3) := by decide +kernel
theorem dX8_parkedAfter_25 : decode cX8_parkedAfter 25 = .ok (.athrow, 1) := by decide +kernel
theorem dX8_parkedAfter_26 : decode cX8_parkedAfter 26 = .ok (.aload_n 0, 1) := by decide +kernel
theorem dX8_parkedAfter_27 : decode cX8_parkedAfter 27 = .ok (.getfield 62, 3) := by decide +kernel
theorem dX8_parkedAfter_30 : decode cX8_parkedAfter 30 = .ok (.aload_n 0, 1) := by decide +kernel
theorem dX8_parkedAfter_31 : decode cX8_parkedAfter 31 = .ok (.getfield 42, 3) := by decide +kernel
theorem dX8_parkedAfter_34 : decode cX8_parkedAfter 34 = .ok (.iload_n 1, 1) := by decide +kernel
theorem dX8_parkedAfter_35 : decode cX8_parkedAfter 35 = .ok (.invokevirtual 301, 3) := by decide +kernel
theorem dX8_parkedAfter_38 : decode cX8_parkedAfter 38 = .ok (.aload_n 0, 1) := by decide +kernel
theorem dX8_parkedAfter_39 : decode cX8_parkedAfter 39 = .ok (.getfield 62, 3) := by decide +kernel
theorem dX8_parkedAfter_42 : decode cX8_parkedAfter 42 = .ok (.areturn, 1) := by decide +kernel
theorem dX8_parkedIf_0 : decode cX8_parkedIf 0 = .ok (.aload_n 0, 1) := by decide +kernel
theorem dX8_parkedIf_1 : decode cX8_parkedIf 1 = .ok (.getfield 46, 3) := by decide +kernel
theorem dX8_parkedIf_4 : decode cX8_parkedIf 4 = .ok (.aload_n 0, 1) := by decide +kernel
theorem dX8_parkedIf_5 : decode cX8_parkedIf 5 = .ok (.getfield 42, 3) := by decide +kernel
theorem dX8_parkedIf_8 : decode cX8_parkedIf 8 = .ok (.invokevirtual 134, 3) := by decide +kernel
theorem dX8_parkedIf_11 : decode cX8_parkedIf 11 = .ok (.aload_n 0, 1) := by decide +kernel
theorem dX8_parkedIf_12 : decode cX8_parkedIf 12 = .ok (.getfield 46, 3) := by decide +kernel
theorem dX8_parkedIf_15 : decode cX8_parkedIf 15 = .ok (.iload_n 1, 1) := by decide +kernel
theorem dX8_parkedIf_16 : decode cX8_parkedIf 16 = .ok (.iload_n 2, 1) := by decide +kernel
theorem dX8_parkedIf_17 : decode cX8_parkedIf 17 = .ok (.invokevirtual 412, 3) := by decide +kernel
theorem dX8_parkedIf_20 : decode cX8_parkedIf 20 = .ok (.aload_n 0, 1) := by decide +kernel
theorem dX8_parkedIf_21 : decode cX8_parkedIf 21 = .ok (.getfield 62, 3) := by decide +kernel
theorem dX8_parkedIf_24 : decode cX8_parkedIf 24 = .ok (.aload_n 0, 1) := by decide +kernel
theorem dX8_parkedIf_25 : decode cX8_parkedIf 25 = .ok (.getfield 46, 3) := by decide +kernel
theorem dX8_parkedIf_28 : decode cX8_parkedIf 28 = .ok (.aload_n 0, 1) := by decide +kernel
theorem dX8_parkedIf_29 : decode cX8_parkedIf 29 = .ok (.getfield 46, 3) := by decide +kernel
theorem dX8_parkedIf_32 : decode cX8_parkedIf 32 = .ok (.invokevirtual 138, 3) := by decide +kernel
theorem dX8_parkedIf_35 : decode cX8_parkedIf 35 = .ok (.invokevirtual 301, 3) := by decide +kernel
theorem dX8_parkedIf_38 : decode cX8_parkedIf 38 = .ok (.aload_n 0, 1) := by decide +kernel
theorem dX8_parkedIf_39 : decode cX8_parkedIf 39 = .ok (.getfield 62, 3) := by decide +kernel
theorem dX8_parkedIf_42 : decode cX8_parkedIf 42 = .ok (.areturn, 1) := by decide +kernel
theorem dX8_prefer_0 : decode cX8_prefer 0 = .ok (.aload_n 0, 1) := by decide +kernel
theorem dX8_prefer_1 : decode cX8_prefer 1 = .ok (.iload_n 1, 1) := by decide +kernel
theorem dX8_prefer_2 : decode cX8_prefer 2 = .ok (.invokevirtual 234, 3) := by decide +kernel
theorem dX8_prefer_5 : decode cX8_prefer 5 = .ok (.aload_n 0, 1) := by decide +kernel
theorem dX8_prefer_6 : decode cX8_prefer 6 = .ok (.iload_n 2, 1) := by decide +kernel
theorem dX8_prefer_7 : decode cX8_prefer 7 = .ok (.invokevirtual 405, 3) := by decide +kernel
theorem dX8_prefer_10 : decode cX8_prefer 10 = .ok (.aload_n 0, 1) := by decide +kernel
theorem dX8_prefer_11 : decode cX8_prefer 11 = .ok (.getfield 42, 3) := by decide +kernel
theorem dX8_prefer_14 : decode cX8_prefer 14 = .ok (.iload_n 1, 1) := by decide +kernel
theorem dX8_prefer_15 : decode cX8_prefer 15 = .ok (.invokevirtual 249, 3) := by decide +kernel
theorem dX8_prefer_18 : decode cX8_prefer 18 = .ok (.istore_n 3, 1) := by decide +kernel
theorem dX8_prefer_19 : decode cX8_prefer 19 = .ok (.aload_n 0, 1) := by decide +kernel
theorem dX8_prefer_20 : decode cX8_prefer 20 = .ok (.invokevirtual 147, 3) := by decide +kernel
theorem dX8_prefer_23 : decode cX8_prefer 23 = .ok (.aload_n 0, 1) := by decide +kernel
theorem dX8_prefer_24 : decode cX8_prefer 24 = .ok (.iload_n 1, 1) := by decide +kernel
theorem dX8_prefer_25 : decode cX8_prefer 25 = .ok (.iload_n 2, 1) := by decide +kernel
theorem dX8_prefer_26 : decode cX8_prefer 26 = .ok (.invokevirtual 425, 3) := by decide +kernel
theorem dX8_prefer_29 : decode cX8_prefer 29 = .ok (.pop, 1) := by decide +kernel
theorem dX8_prefer_30 : decode cX8_prefer 30 = .ok (.aload_n 0, 1) := by decide +kernel
theorem dX8_prefer_31 : decode cX8_prefer 31 = .ok (.invokevirtual 155, 3) := by decide +kernel
theorem dX8_prefer_34 : decode cX8_prefer 34 = .ok (.iload_n 3, 1) := by decide +kernel
theorem dX8_prefer_35 : decode cX8_prefer 35 = .ok (.ireturn, 1) := by decide +kernel
theorem dX8_ranked_0 : decode cX8_ranked 0 = .ok (.iconst 0, 1) := by decide +kernel
theorem dX8_ranked_1 : decode cX8_ranked 1 = .ok (.istore_n 2, 1) := by decide +kernel
theorem dX8_ranked_2 : decode cX8_ranked 2 = .ok (.iload_n 2, 1) := by decide +kernel
theorem dX8_ranked_3 : decode cX8_ranked 3 = .ok (.aload_n 0, 1) := by decide +kernel
theorem dX8_ranked_4 : decode cX8_ranked 4 = .ok (.getfield 42, 3) := by decide +kernel
theorem dX8_ranked_7 : decode cX8_ranked 7 = .ok (.invokevirtual 138, 3) := by decide +kernel
theorem dX8_ranked_10 : decode cX8_ranked 10 = .ok (.if_icmp .ge 23, 3) := by decide +kernel
theorem dX8_ranked_13 : decode cX8_ranked 13 = .ok (.aload_n 0, 1) := by decide +kernel
theorem dX8_ranked_14 : decode cX8_ranked 14 = .ok (.getfield 42, 3) := by decide +kernel
theorem dX8_ranked_17 : decode cX8_ranked 17 = .ok (.iload_n 2, 1) := by decide +kernel
theorem dX8_ranked_18 : decode cX8_ranked 18 = .ok (.invokevirtual 279, 3) := by decide +kernel
theorem dX8_ranked_21 : decode cX8_ranked 21 = .ok (.iload_n 1, 1) := by decide +kernel
theorem dX8_ranked_22 : decode cX8_ranked 22 = .ok (.if_icmp .ne 5, 3) := by decide +kernel
theorem dX8_ranked_25 : decode cX8_ranked 25 = .ok (.iload_n 2, 1) := by decide +kernel
theorem dX8_ranked_26 : decode cX8_ranked 26 = .ok (.ireturn, 1) := by decide +kernel
theorem dX8_ranked_27 : decode cX8_ranked 27 = .ok (.iinc 2 1, 3) := by decide +kernel
theorem dX8_ranked_30 : decode cX8_ranked 30 = .ok (.goto (-28), 3) := by decide +kernel
theorem dX8_ranked_33 : decode cX8_ranked 33 = .ok (.iconst (-1), 1) := by decide +kernel
theorem dX8_ranked_34 : decode cX8_ranked 34 = .ok (.ireturn, 1) := by decide +kernel
theorem dX8_readBack_0 : decode cX8_readBack 0 = .ok (.aload_n 0, 1) := by decide +kernel
theorem dX8_readBack_1 : decode cX8_readBack 1 = .ok (.getfield 12, 3) := by decide +kernel
theorem dX8_readBack_4 : decode cX8_readBack 4 = .ok (.iconst 0, 1) := by decide +kernel
theorem dX8_readBack_5 : decode cX8_readBack 5 = .ok (.iconst 5, 1) := by decide +kernel
theorem dX8_readBack_6 : decode cX8_readBack 6 = .ok (.invokevirtual 173, 3) := by decide +kernel
theorem dX8_readBack_9 : decode cX8_readBack 9 = .ok (.ifCond .ne 5, 3) := by decide +kernel
theorem dX8_readBack_12 : decode cX8_readBack 12 = .ok (.iconst 0, 1) := by decide +kernel
theorem dX8_readBack_13 : decode cX8_readBack 13 = .ok (.ireturn, 1) := by decide +kernel
theorem dX8_readBack_14 : decode cX8_readBack 14 = .ok (.aload_n 1, 1) := by decide +kernel
theorem dX8_readBack_15 : decode cX8_readBack 15 = .ok (.aload_n 0, 1) := by decide +kernel
theorem dX8_readBack_16 : decode cX8_readBack 16 = .ok (.getfield 12, 3) := by decide +kernel
theorem dX8_readBack_19 : decode cX8_readBack 19 = .ok (.invokevirtual 177, 3) := by decide +kernel
theorem dX8_readBack_22 : decode cX8_readBack 22 = .ok (.invokevirtual 209, 3) := by decide +kernel
theorem dX8_readBack_25 : decode cX8_readBack 25 = .ok (.aload_n 0, 1) := by decide +kernel
theorem dX8_readBack_26 : decode cX8_readBack 26 = .ok (.getfield 12, 3) := by decide +kernel
theorem dX8_readBack_29 : decode cX8_readBack 29 = .ok (.bipush 59, 2) := by decide +kernel
theorem dX8_readBack_31 : decode cX8_readBack 31 = .ok (.invokevirtual 180, 3) := by decide +kernel
theorem dX8_readBack_34 : decode cX8_readBack 34 = .ok (.ifCond .ne 5, 3) := by decide +kernel
theorem dX8_readBack_37 : decode cX8_readBack 37 = .ok (.iconst 0, 1) := by decide +kernel
theorem dX8_readBack_38 : decode cX8_readBack 38 = .ok (.ireturn, 1) := by decide +kernel
theorem dX8_readBack_39 : decode cX8_readBack 39 = .ok (.aload_n 0, 1) := by decide +kernel
theorem dX8_readBack_40 : decode cX8_readBack 40 = .ok (.getfield 12, 3) := by decide +kernel
theorem dX8_readBack_43 : decode cX8_readBack 43 = .ok (.invokevirtual 184, 3) := by decide +kernel
theorem dX8_readBack_46 : decode cX8_readBack 46 = .ok (.iconst 1, 1) := by decide +kernel
theorem dX8_readBack_47 : decode cX8_readBack 47 = .ok (.ireturn, 1) := by decide +kernel
theorem dX8_refusal_0 : decode cX8_refusal 0 = .ok (.aload_n 0, 1) := by decide +kernel
theorem dX8_refusal_1 : decode cX8_refusal 1 = .ok (.getfield 91, 3) := by decide +kernel
theorem dX8_refusal_4 : decode cX8_refusal 4 = .ok (.ireturn, 1) := by decide +kernel
theorem dX8_refuse_0 : decode cX8_refuse 0 = .ok (.aload_n 0, 1) := by decide +kernel
theorem dX8_refuse_1 : decode cX8_refuse 1 = .ok (.iload_n 1, 1) := by decide +kernel
theorem dX8_refuse_2 : decode cX8_refuse 2 = .ok (.putfield 91, 3) := by decide +kernel
theorem dX8_refuse_5 : decode cX8_refuse 5 = .ok (.aload_n 0, 1) := by decide +kernel
theorem dX8_refuse_6 : decode cX8_refuse 6 = .ok (.getfield 76, 3) := by decide +kernel
theorem dX8_refuse_9 : decode cX8_refuse 9 = .ok (.iconst 1, 1) := by decide +kernel
theorem dX8_refuse_10 : decode cX8_refuse 10 = .ok (.dup2, 1) := by decide +kernel
theorem dX8_refuse_11 : decode cX8_refuse 11 = .ok (.iaload, 1) := by decide +kernel
theorem dX8_refuse_12 : decode cX8_refuse 12 = .ok (.iconst 1, 1) := by decide +kernel
theorem dX8_refuse_13 : decode cX8_refuse 13 = .ok (.iadd, 1) := by decide +kernel
theorem dX8_refuse_14 : decode cX8_refuse 14 = .ok (.iastore, 1) := by decide +kernel
theorem dX8_refuse_15 : decode cX8_refuse 15 = .ok (.iconst 0, 1) := by decide +kernel
theorem dX8_refuse_16 : decode cX8_refuse 16 = .ok (.ireturn, 1) := by decide +kernel
theorem dX8_report_0 : decode cX8_report 0 = .ok (.aload_n 0, 1) := by decide +kernel
theorem dX8_report_1 : decode cX8_report 1 = .ok (.invokevirtual 245, 3) := by decide +kernel
theorem dX8_report_4 : decode cX8_report 4 = .ok (.astore_n 1, 1) := by decide +kernel
theorem dX8_report_5 : decode cX8_report 5 = .ok (.aload_n 0, 1) := by decide +kernel
theorem dX8_report_6 : decode cX8_report 6 = .ok (.getfield 29, 3) := by decide +kernel
theorem dX8_report_9 : decode cX8_report 9 = .ok (.iconst 0, 1) := by decide +kernel
theorem dX8_report_10 : decode cX8_report 10 = .ok (.invokevirtual 119, 3) := by decide +kernel
theorem dX8_report_13 : decode cX8_report 13 = .ok (.iconst 0, 1) := by decide +kernel
theorem dX8_report_14 : decode cX8_report 14 = .ok (.istore_n 2, 1) := by decide +kernel
theorem dX8_report_15 : decode cX8_report 15 = .ok (.iload_n 2, 1) := by decide +kernel
theorem dX8_report_16 : decode cX8_report 16 = .ok (.aload_n 0, 1) := by decide +kernel
theorem dX8_report_17 : decode cX8_report 17 = .ok (.getfield 42, 3) := by decide +kernel
theorem dX8_report_20 : decode cX8_report 20 = .ok (.invokevirtual 305, 3) := by decide +kernel
theorem dX8_report_23 : decode cX8_report 23 = .ok (.if_icmp .ge 77, 3) := by decide +kernel
theorem dX8_report_26 : decode cX8_report 26 = .ok (.iload_n 2, 1) := by decide +kernel
theorem dX8_report_27 : decode cX8_report 27 = .ok (.ifCond .le 12, 3) := by decide +kernel
theorem dX8_report_30 : decode cX8_report 30 = .ok (.aload_n 0, 1) := by decide +kernel
theorem dX8_report_31 : decode cX8_report 31 = .ok (.getfield 29, 3) := by decide +kernel
theorem dX8_report_34 : decode cX8_report 34 = .ok (.bipush 32, 2) := by decide +kernel
theorem dX8_report_36 : decode cX8_report 36 = .ok (.invokevirtual 513, 3) := by decide +kernel
theorem dX8_report_39 : decode cX8_report 39 = .ok (.aload_n 1, 1) := by decide +kernel
theorem dX8_report_40 : decode cX8_report 40 = .ok (.iload_n 2, 1) := by decide +kernel
theorem dX8_report_41 : decode cX8_report 41 = .ok (.invokevirtual 273, 3) := by decide +kernel
theorem dX8_report_44 : decode cX8_report 44 = .ok (.istore_n 3, 1) := by decide +kernel
theorem dX8_report_45 : decode cX8_report 45 = .ok (.iload_n 3, 1) := by decide +kernel
theorem dX8_report_46 : decode cX8_report 46 = .ok (.iconst (-1), 1) := by decide +kernel
theorem dX8_report_47 : decode cX8_report 47 = .ok (.if_icmp .ne 15, 3) := by decide +kernel
theorem dX8_report_50 : decode cX8_report 50 = .ok (.aload_n 0, 1) := by decide +kernel
theorem dX8_report_51 : decode cX8_report 51 = .ok (.getfield 29, 3) := by decide +kernel
theorem dX8_report_54 : decode cX8_report 54 = .ok (.bipush 46, 2) := by decide +kernel
theorem dX8_report_56 : decode cX8_report 56 = .ok (.invokevirtual 513, 3) := by decide +kernel
theorem dX8_report_59 : decode cX8_report 59 = .ok (.goto 35, 3) := by decide +kernel
theorem dX8_report_62 : decode cX8_report 62 = .ok (.aload_n 0, 1) := by decide +kernel
theorem dX8_report_63 : decode cX8_report 63 = .ok (.getfield 29, 3) := by decide +kernel
theorem dX8_report_66 : decode cX8_report 66 = .ok (.aload_n 0, 1) := by decide +kernel
theorem dX8_report_67 : decode cX8_report 67 = .ok (.getfield 42, 3) := by decide +kernel
theorem dX8_report_70 : decode cX8_report 70 = .ok (.iload_n 3, 1) := by decide +kernel
theorem dX8_report_71 : decode cX8_report 71 = .ok (.invokevirtual 237, 3) := by decide +kernel
theorem dX8_report_74 : decode cX8_report 74 = .ok (.invokevirtual 515, 3) := by decide +kernel
theorem dX8_report_77 : decode cX8_report 77 = .ok (.aload_n 1, 1) := by decide +kernel
theorem dX8_report_78 : decode cX8_report 78 = .ok (.iload_n 3, 1) := by decide +kernel
theorem dX8_report_79 : decode cX8_report 79 = .ok (.invokevirtual 259, 3) := by decide +kernel
theorem dX8_report_82 : decode cX8_report 82 = .ok (.ifCond .eq 12, 3) := by decide +kernel
theorem dX8_report_85 : decode cX8_report 85 = .ok (.aload_n 0, 1) := by decide +kernel
theorem dX8_report_86 : decode cX8_report 86 = .ok (.getfield 29, 3) := by decide +kernel
theorem dX8_report_89 : decode cX8_report 89 = .ok (.bipush 33, 2) := by decide +kernel
theorem dX8_report_91 : decode cX8_report 91 = .ok (.invokevirtual 513, 3) := by decide +kernel
theorem dX8_report_94 : decode cX8_report 94 = .ok (.iinc 2 1, 3) := by decide +kernel
theorem dX8_report_97 : decode cX8_report 97 = .ok (.goto (-82), 3) := by decide +kernel
theorem dX8_report_100 : decode cX8_report 100 = .ok (.aload_n 0, 1) := by decide +kernel
theorem dX8_report_101 : decode cX8_report 101 = .ok (.getfield 29, 3) := by decide +kernel
theorem dX8_report_104 : decode cX8_report 104 = .ok (.bipush 10, 2) := by decide +kernel
theorem dX8_report_106 : decode cX8_report 106 = .ok (.invokevirtual 513, 3) := by decide +kernel
theorem dX8_report_109 : decode cX8_report 109 = .ok (.aload_n 0, 1) := by decide +kernel
theorem dX8_report_110 : decode cX8_report 110 = .ok (.getfield 29, 3) := by decide +kernel
theorem dX8_report_113 : decode cX8_report 113 = .ok (.invokevirtual 100, 3) := by decide +kernel
theorem dX8_report_116 : decode cX8_report 116 = .ok (.ireturn, 1) := by decide +kernel
theorem dX8_reportByte_0 : decode cX8_reportByte 0 = .ok (.iload_n 1, 1) := by decide +kernel
theorem dX8_reportByte_1 : decode cX8_reportByte 1 = .ok (.ifCond .lt 14, 3) := by decide +kernel
theorem dX8_reportByte_4 : decode cX8_reportByte 4 = .ok (.iload_n 1, 1) := by decide +kernel
theorem dX8_reportByte_5 : decode cX8_reportByte 5 = .ok (.aload_n 0, 1) := by decide +kernel
theorem dX8_reportByte_6 : decode cX8_reportByte 6 = .ok (.getfield 29, 3) := by decide +kernel
theorem dX8_reportByte_9 : decode cX8_reportByte 9 = .ok (.invokevirtual 100, 3) := by decide +kernel
theorem dX8_reportByte_12 : decode cX8_reportByte 12 = .ok (.if_icmp .lt 14, 3) := by decide +kernel
theorem dX8_reportByte_15 : decode cX8_reportByte 15 = .ok (.new 334, 3) := by decide +kernel
theorem dX8_reportByte_18 : decode cX8_reportByte 18 = .ok (.dup, 1) := by decide +kernel
theorem dX8_reportByte_19 : decode cX8_reportByte 19 = .ok (.ldc_w 519, 3) := by decide +kernel
theorem dX8_reportByte_22 : decode cX8_reportByte 22 = .ok (.invokespecial 338, 3) := by decide +kernel
theorem dX8_reportByte_25 : decode cX8_reportByte 25 = .ok (.athrow, 1) := by decide +kernel
theorem dX8_reportByte_26 : decode cX8_reportByte 26 = .ok (.aload_n 0, 1) := by decide +kernel
theorem dX8_reportByte_27 : decode cX8_reportByte 27 = .ok (.getfield 29, 3) := by decide +kernel
theorem dX8_reportByte_30 : decode cX8_reportByte 30 = .ok (.iload_n 1, 1) := by decide +kernel
theorem dX8_reportByte_31 : decode cX8_reportByte 31 = .ok (.invokevirtual 521, 3) := by decide +kernel
theorem dX8_reportByte_34 : decode cX8_reportByte 34 = .ok (.ireturn, 1) := by decide +kernel
theorem dX8_restore_0 : decode cX8_restore 0 = .ok (.aload_n 0, 1) := by decide +kernel
theorem dX8_restore_1 : decode cX8_restore 1 = .ok (.getfield 84, 3) := by decide +kernel
theorem dX8_restore_4 : decode cX8_restore 4 = .ok (.ifCond .ne 14, 3) := by decide +kernel
theorem dX8_restore_7 : decode cX8_restore 7 = .ok (.new 104, 3) := by decide +kernel
theorem dX8_restore_10 : decode cX8_restore 10 = .ok (.dup, 1) := by decide +kernel
theorem dX8_restore_11 : decode cX8_restore 11 = .ok (.ldc_w 524, 3) := by decide +kernel
theorem dX8_restore_14 : decode cX8_restore 14 = .ok (.invokespecial 108, 3) := by decide +kernel
theorem dX8_restore_17 : decode cX8_restore 17 = .ok (.athrow, 1) := by decide +kernel
theorem dX8_restore_18 : decode cX8_restore 18 = .ok (.aload_n 0, 1) := by decide +kernel
theorem dX8_restore_19 : decode cX8_restore 19 = .ok (.getfield 42, 3) := by decide +kernel
theorem dX8_restore_22 : decode cX8_restore 22 = .ok (.aload_n 0, 1) := by decide +kernel
theorem dX8_restore_23 : decode cX8_restore 23 = .ok (.getfield 49, 3) := by decide +kernel
theorem dX8_restore_26 : decode cX8_restore 26 = .ok (.invokevirtual 134, 3) := by decide +kernel
theorem dX8_restore_29 : decode cX8_restore 29 = .ok (.aload_n 0, 1) := by decide +kernel
theorem dX8_restore_30 : decode cX8_restore 30 = .ok (.iconst 0, 1) := by decide +kernel
theorem dX8_restore_31 : decode cX8_restore 31 = .ok (.putfield 80, 3) := by decide +kernel
theorem dX8_restore_34 : decode cX8_restore 34 = .ok (.aload_n 0, 1) := by decide +kernel
theorem dX8_restore_35 : decode cX8_restore 35 = .ok (.getfield 42, 3) := by decide +kernel
theorem dX8_restore_38 : decode cX8_restore 38 = .ok (.invokevirtual 138, 3) := by decide +kernel
theorem dX8_restore_41 : decode cX8_restore 41 = .ok (.ireturn, 1) := by decide +kernel
theorem dX8_reverse_0 : decode cX8_reverse 0 = .ok (.aload_n 0, 1) := by decide +kernel
theorem dX8_reverse_1 : decode cX8_reverse 1 = .ok (.invokevirtual 147, 3) := by decide +kernel
theorem dX8_reverse_4 : decode cX8_reverse 4 = .ok (.aload_n 0, 1) := by decide +kernel
theorem dX8_reverse_5 : decode cX8_reverse 5 = .ok (.invokevirtual 464, 3) := by decide +kernel
theorem dX8_reverse_8 : decode cX8_reverse 8 = .ok (.pop, 1) := by decide +kernel
theorem dX8_reverse_9 : decode cX8_reverse 9 = .ok (.aload_n 0, 1) := by decide +kernel
theorem dX8_reverse_10 : decode cX8_reverse 10 = .ok (.invokevirtual 155, 3) := by decide +kernel
theorem dX8_reverse_13 : decode cX8_reverse 13 = .ok (.aload_n 0, 1) := by decide +kernel
theorem dX8_reverse_14 : decode cX8_reverse 14 = .ok (.invokevirtual 245, 3) := by decide +kernel
theorem dX8_reverse_17 : decode cX8_reverse 17 = .ok (.invokevirtual 317, 3) := by decide +kernel
theorem dX8_reverse_20 : decode cX8_reverse 20 = .ok (.ireturn, 1) := by decide +kernel
theorem dX8_save_0 : decode cX8_save 0 = .ok (.aload_n 0, 1) := by decide +kernel
theorem dX8_save_1 : decode cX8_save 1 = .ok (.getfield 49, 3) := by decide +kernel
theorem dX8_save_4 : decode cX8_save 4 = .ok (.aload_n 0, 1) := by decide +kernel
theorem dX8_save_5 : decode cX8_save 5 = .ok (.getfield 42, 3) := by decide +kernel
theorem dX8_save_8 : decode cX8_save 8 = .ok (.invokevirtual 134, 3) := by decide +kernel
theorem dX8_save_11 : decode cX8_save 11 = .ok (.aload_n 0, 1) := by decide +kernel
theorem dX8_save_12 : decode cX8_save 12 = .ok (.iconst 1, 1) := by decide +kernel
theorem dX8_save_13 : decode cX8_save 13 = .ok (.putfield 84, 3) := by decide +kernel
theorem dX8_save_16 : decode cX8_save 16 = .ok (.aload_n 0, 1) := by decide +kernel
theorem dX8_save_17 : decode cX8_save 17 = .ok (.getfield 42, 3) := by decide +kernel
theorem dX8_save_20 : decode cX8_save 20 = .ok (.invokevirtual 138, 3) := by decide +kernel
theorem dX8_save_23 : decode cX8_save 23 = .ok (.ireturn, 1) := by decide +kernel
theorem dX8_setBack_0 : decode cX8_setBack 0 = .ok (.aload_n 0, 1) := by decide +kernel
theorem dX8_setBack_1 : decode cX8_setBack 1 = .ok (.iload_n 1, 1) := by decide +kernel
theorem dX8_setBack_2 : decode cX8_setBack 2 = .ok (.invokevirtual 419, 3) := by decide +kernel
theorem dX8_setBack_5 : decode cX8_setBack 5 = .ok (.aload_n 0, 1) := by decide +kernel
theorem dX8_setBack_6 : decode cX8_setBack 6 = .ok (.getfield 42, 3) := by decide +kernel
theorem dX8_setBack_9 : decode cX8_setBack 9 = .ok (.invokevirtual 312, 3) := by decide +kernel
theorem dX8_setBack_12 : decode cX8_setBack 12 = .ok (.istore_n 2, 1) := by decide +kernel
theorem dX8_setBack_13 : decode cX8_setBack 13 = .ok (.aload_n 0, 1) := by decide +kernel
theorem dX8_setBack_14 : decode cX8_setBack 14 = .ok (.invokevirtual 147, 3) := by decide +kernel
theorem dX8_setBack_17 : decode cX8_setBack 17 = .ok (.aload_n 0, 1) := by decide +kernel
theorem dX8_setBack_18 : decode cX8_setBack 18 = .ok (.iload_n 1, 1) := by decide +kernel
theorem dX8_setBack_19 : decode cX8_setBack 19 = .ok (.invokevirtual 443, 3) := by decide +kernel
theorem dX8_setBack_22 : decode cX8_setBack 22 = .ok (.pop, 1) := by decide +kernel
theorem dX8_setBack_23 : decode cX8_setBack 23 = .ok (.aload_n 0, 1) := by decide +kernel
theorem dX8_setBack_24 : decode cX8_setBack 24 = .ok (.invokevirtual 155, 3) := by decide +kernel
theorem dX8_setBack_27 : decode cX8_setBack 27 = .ok (.iload_n 2, 1) := by decide +kernel
theorem dX8_setBack_28 : decode cX8_setBack 28 = .ok (.ireturn, 1) := by decide +kernel
theorem dX8_setting_0 : decode cX8_setting 0 = .ok (.aload_n 0, 1) := by decide +kernel
theorem dX8_setting_1 : decode cX8_setting 1 = .ok (.iload_n 1, 1) := by decide +kernel
theorem dX8_setting_2 : decode cX8_setting 2 = .ok (.invokevirtual 227, 3) := by decide +kernel
theorem dX8_setting_5 : decode cX8_setting 5 = .ok (.aload_n 0, 1) := by decide +kernel
theorem dX8_setting_6 : decode cX8_setting 6 = .ok (.aload_n 0, 1) := by decide +kernel
theorem dX8_setting_7 : decode cX8_setting 7 = .ok (.getfield 42, 3) := by decide +kernel
theorem dX8_setting_10 : decode cX8_setting 10 = .ok (.iload_n 1, 1) := by decide +kernel
theorem dX8_setting_11 : decode cX8_setting 11 = .ok (.invokevirtual 230, 3) := by decide +kernel
theorem dX8_setting_14 : decode cX8_setting 14 = .ok (.ireturn, 1) := by decide +kernel
theorem dX8_settingIf_0 : decode cX8_settingIf 0 = .ok (.aload_n 0, 1) := by decide +kernel
theorem dX8_settingIf_1 : decode cX8_settingIf 1 = .ok (.iload_n 1, 1) := by decide +kernel
theorem dX8_settingIf_2 : decode cX8_settingIf 2 = .ok (.invokevirtual 234, 3) := by decide +kernel
theorem dX8_settingIf_5 : decode cX8_settingIf 5 = .ok (.aload_n 0, 1) := by decide +kernel
theorem dX8_settingIf_6 : decode cX8_settingIf 6 = .ok (.iload_n 2, 1) := by decide +kernel
theorem dX8_settingIf_7 : decode cX8_settingIf 7 = .ok (.invokevirtual 405, 3) := by decide +kernel
theorem dX8_settingIf_10 : decode cX8_settingIf 10 = .ok (.aload_n 0, 1) := by decide +kernel
theorem dX8_settingIf_11 : decode cX8_settingIf 11 = .ok (.iload_n 3, 1) := by decide +kernel
theorem dX8_settingIf_12 : decode cX8_settingIf 12 = .ok (.invokevirtual 227, 3) := by decide +kernel
theorem dX8_settingIf_15 : decode cX8_settingIf 15 = .ok (.aload_n 0, 1) := by decide +kernel
theorem dX8_settingIf_16 : decode cX8_settingIf 16 = .ok (.getfield 46, 3) := by decide +kernel
theorem dX8_settingIf_19 : decode cX8_settingIf 19 = .ok (.aload_n 0, 1) := by decide +kernel
theorem dX8_settingIf_20 : decode cX8_settingIf 20 = .ok (.getfield 42, 3) := by decide +kernel
theorem dX8_settingIf_23 : decode cX8_settingIf 23 = .ok (.invokevirtual 134, 3) := by decide +kernel
theorem dX8_settingIf_26 : decode cX8_settingIf 26 = .ok (.aload_n 0, 1) := by decide +kernel
theorem dX8_settingIf_27 : decode cX8_settingIf 27 = .ok (.getfield 46, 3) := by decide +kernel
theorem dX8_settingIf_30 : decode cX8_settingIf 30 = .ok (.iload_n 1, 1) := by decide +kernel
theorem dX8_settingIf_31 : decode cX8_settingIf 31 = .ok (.iload_n 2, 1) := by decide +kernel
theorem dX8_settingIf_32 : decode cX8_settingIf 32 = .ok (.invokevirtual 412, 3) := by decide +kernel
theorem dX8_settingIf_35 : decode cX8_settingIf 35 = .ok (.aload_n 0, 1) := by decide +kernel
theorem dX8_settingIf_36 : decode cX8_settingIf 36 = .ok (.aload_n 0, 1) := by decide +kernel
theorem dX8_settingIf_37 : decode cX8_settingIf 37 = .ok (.getfield 46, 3) := by decide +kernel
theorem dX8_settingIf_40 : decode cX8_settingIf 40 = .ok (.iload_n 3, 1) := by decide +kernel
theorem dX8_settingIf_41 : decode cX8_settingIf 41 = .ok (.invokevirtual 230, 3) := by decide +kernel
theorem dX8_settingIf_44 : decode cX8_settingIf 44 = .ok (.ireturn, 1) := by decide +kernel
theorem dX8_settingOf_0 : decode cX8_settingOf 0 = .ok (.aload_n 0, 1) := by decide +kernel
theorem dX8_settingOf_1 : decode cX8_settingOf 1 = .ok (.getfield 62, 3) := by decide +kernel
theorem dX8_settingOf_4 : decode cX8_settingOf 4 = .ok (.aload_n 1, 1) := by decide +kernel
theorem dX8_settingOf_5 : decode cX8_settingOf 5 = .ok (.aload_n 1, 1) := by decide +kernel
theorem dX8_settingOf_6 : decode cX8_settingOf 6 = .ok (.invokevirtual 138, 3) := by decide +kernel
theorem dX8_settingOf_9 : decode cX8_settingOf 9 = .ok (.invokevirtual 301, 3) := by decide +kernel
theorem dX8_settingOf_12 : decode cX8_settingOf 12 = .ok (.iload_n 2, 1) := by decide +kernel
theorem dX8_settingOf_13 : decode cX8_settingOf 13 = .ok (.tableswitch 114 0 8 #[51, 56, 61, 66, 74, 82, 90, 98, 106], 51) := by decide +kernel
theorem dX8_settingOf_64 : decode cX8_settingOf 64 = .ok (.aload_n 1, 1) := by decide +kernel
theorem dX8_settingOf_65 : decode cX8_settingOf 65 = .ok (.invokevirtual 138, 3) := by decide +kernel
theorem dX8_settingOf_68 : decode cX8_settingOf 68 = .ok (.ireturn, 1) := by decide +kernel
theorem dX8_settingOf_69 : decode cX8_settingOf 69 = .ok (.aload_n 1, 1) := by decide +kernel
theorem dX8_settingOf_70 : decode cX8_settingOf 70 = .ok (.invokevirtual 305, 3) := by decide +kernel
theorem dX8_settingOf_73 : decode cX8_settingOf 73 = .ok (.ireturn, 1) := by decide +kernel
theorem dX8_settingOf_74 : decode cX8_settingOf 74 = .ok (.aload_n 1, 1) := by decide +kernel
theorem dX8_settingOf_75 : decode cX8_settingOf 75 = .ok (.invokevirtual 312, 3) := by decide +kernel
theorem dX8_settingOf_78 : decode cX8_settingOf 78 = .ok (.ireturn, 1) := by decide +kernel
theorem dX8_settingOf_79 : decode cX8_settingOf 79 = .ok (.aload_n 0, 1) := by decide +kernel
theorem dX8_settingOf_80 : decode cX8_settingOf 80 = .ok (.getfield 62, 3) := by decide +kernel
theorem dX8_settingOf_83 : decode cX8_settingOf 83 = .ok (.invokevirtual 314, 3) := by decide +kernel
theorem dX8_settingOf_86 : decode cX8_settingOf 86 = .ok (.ireturn, 1) := by decide +kernel
theorem dX8_settingOf_87 : decode cX8_settingOf 87 = .ok (.aload_n 0, 1) := by decide +kernel
theorem dX8_settingOf_88 : decode cX8_settingOf 88 = .ok (.getfield 62, 3) := by decide +kernel
theorem dX8_settingOf_91 : decode cX8_settingOf 91 = .ok (.invokevirtual 317, 3) := by decide +kernel
theorem dX8_settingOf_94 : decode cX8_settingOf 94 = .ok (.ireturn, 1) := by decide +kernel
theorem dX8_settingOf_95 : decode cX8_settingOf 95 = .ok (.aload_n 0, 1) := by decide +kernel
theorem dX8_settingOf_96 : decode cX8_settingOf 96 = .ok (.getfield 62, 3) := by decide +kernel
theorem dX8_settingOf_99 : decode cX8_settingOf 99 = .ok (.invokevirtual 289, 3) := by decide +kernel
theorem dX8_settingOf_102 : decode cX8_settingOf 102 = .ok (.ireturn, 1) := by decide +kernel
theorem dX8_settingOf_103 : decode cX8_settingOf 103 = .ok (.aload_n 0, 1) := by decide +kernel
theorem dX8_settingOf_104 : decode cX8_settingOf 104 = .ok (.getfield 62, 3) := by decide +kernel
theorem dX8_settingOf_107 : decode cX8_settingOf 107 = .ok (.invokevirtual 320, 3) := by decide +kernel
theorem dX8_settingOf_110 : decode cX8_settingOf 110 = .ok (.ireturn, 1) := by decide +kernel
theorem dX8_settingOf_111 : decode cX8_settingOf 111 = .ok (.aload_n 0, 1) := by decide +kernel
theorem dX8_settingOf_112 : decode cX8_settingOf 112 = .ok (.getfield 62, 3) := by decide +kernel
theorem dX8_settingOf_115 : decode cX8_settingOf 115 = .ok (.invokevirtual 295, 3) := by decide +kernel
theorem dX8_settingOf_118 : decode cX8_settingOf 118 = .ok (.ireturn, 1) := by decide +kernel
theorem dX8_settingOf_119 : decode cX8_settingOf 119 = .ok (.aload_n 0, 1) := by decide +kernel
theorem dX8_settingOf_120 : decode cX8_settingOf 120 = .ok (.getfield 62, 3) := by decide +kernel
theorem dX8_settingOf_123 : decode cX8_settingOf 123 = .ok (.invokevirtual 323, 3) := by decide +kernel
theorem dX8_settingOf_126 : decode cX8_settingOf 126 = .ok (.ireturn, 1) := by decide +kernel
theorem dX8_settingOf_127 : decode cX8_settingOf 127 = .ok (.aload_n 1, 1) := by decide +kernel
theorem dX8_settingOf_128 : decode cX8_settingOf 128 = .ok (.invokevirtual 326, 3) := by decide +kernel
theorem dX8_settingOf_131 : decode cX8_settingOf 131 = .ok (.ireturn, 1) := by decide +kernel
theorem dX8_sort_0 : decode cX8_sort 0 = .ok (.aload_n 0, 1) := by decide +kernel
theorem dX8_sort_1 : decode cX8_sort 1 = .ok (.invokevirtual 147, 3) := by decide +kernel
theorem dX8_sort_4 : decode cX8_sort 4 = .ok (.aload_n 0, 1) := by decide +kernel
theorem dX8_sort_5 : decode cX8_sort 5 = .ok (.invokevirtual 461, 3) := by decide +kernel
theorem dX8_sort_8 : decode cX8_sort 8 = .ok (.istore_n 1, 1) := by decide +kernel
theorem dX8_sort_9 : decode cX8_sort 9 = .ok (.aload_n 0, 1) := by decide +kernel
theorem dX8_sort_10 : decode cX8_sort 10 = .ok (.invokevirtual 155, 3) := by decide +kernel
theorem dX8_sort_13 : decode cX8_sort 13 = .ok (.iload_n 1, 1) := by decide +kernel
theorem dX8_sort_14 : decode cX8_sort 14 = .ok (.ireturn, 1) := by decide +kernel
theorem dX8_spotByLine_0 : decode cX8_spotByLine 0 = .ok (.aload_n 0, 1) := by decide +kernel
theorem dX8_spotByLine_1 : decode cX8_spotByLine 1 = .ok (.iload_n 1, 1) := by decide +kernel
theorem dX8_spotByLine_2 : decode cX8_spotByLine 2 = .ok (.invokevirtual 234, 3) := by decide +kernel
theorem dX8_spotByLine_5 : decode cX8_spotByLine 5 = .ok (.aload_n 0, 1) := by decide +kernel
theorem dX8_spotByLine_6 : decode cX8_spotByLine 6 = .ok (.getfield 66, 3) := by decide +kernel
theorem dX8_spotByLine_9 : decode cX8_spotByLine 9 = .ok (.aload_n 0, 1) := by decide +kernel
theorem dX8_spotByLine_10 : decode cX8_spotByLine 10 = .ok (.invokevirtual 245, 3) := by decide +kernel
theorem dX8_spotByLine_13 : decode cX8_spotByLine 13 = .ok (.invokevirtual 282, 3) := by decide +kernel
theorem dX8_spotByLine_16 : decode cX8_spotByLine 16 = .ok (.aload_n 0, 1) := by decide +kernel
theorem dX8_spotByLine_17 : decode cX8_spotByLine 17 = .ok (.iload_n 1, 1) := by decide +kernel
theorem dX8_spotByLine_18 : decode cX8_spotByLine 18 = .ok (.invokevirtual 286, 3) := by decide +kernel
theorem dX8_spotByLine_21 : decode cX8_spotByLine 21 = .ok (.ireturn, 1) := by decide +kernel
theorem dX8_spotIf_0 : decode cX8_spotIf 0 = .ok (.aload_n 0, 1) := by decide +kernel
theorem dX8_spotIf_1 : decode cX8_spotIf 1 = .ok (.iload_n 1, 1) := by decide +kernel
theorem dX8_spotIf_2 : decode cX8_spotIf 2 = .ok (.invokevirtual 234, 3) := by decide +kernel
theorem dX8_spotIf_5 : decode cX8_spotIf 5 = .ok (.aload_n 0, 1) := by decide +kernel
theorem dX8_spotIf_6 : decode cX8_spotIf 6 = .ok (.iload_n 2, 1) := by decide +kernel
theorem dX8_spotIf_7 : decode cX8_spotIf 7 = .ok (.invokevirtual 405, 3) := by decide +kernel
theorem dX8_spotIf_10 : decode cX8_spotIf 10 = .ok (.aload_n 0, 1) := by decide +kernel
theorem dX8_spotIf_11 : decode cX8_spotIf 11 = .ok (.iload_n 1, 1) := by decide +kernel
theorem dX8_spotIf_12 : decode cX8_spotIf 12 = .ok (.iload_n 2, 1) := by decide +kernel
theorem dX8_spotIf_13 : decode cX8_spotIf 13 = .ok (.invokevirtual 408, 3) := by decide +kernel
theorem dX8_spotIf_16 : decode cX8_spotIf 16 = .ok (.iload_n 1, 1) := by decide +kernel
theorem dX8_spotIf_17 : decode cX8_spotIf 17 = .ok (.invokevirtual 253, 3) := by decide +kernel
theorem dX8_spotIf_20 : decode cX8_spotIf 20 = .ok (.ireturn, 1) := by decide +kernel
theorem dX8_spotInLine_0 : decode cX8_spotInLine 0 = .ok (.aload_n 0, 1) := by decide +kernel
theorem dX8_spotInLine_1 : decode cX8_spotInLine 1 = .ok (.getfield 66, 3) := by decide +kernel
theorem dX8_spotInLine_4 : decode cX8_spotInLine 4 = .ok (.iload_n 1, 1) := by decide +kernel
theorem dX8_spotInLine_5 : decode cX8_spotInLine 5 = .ok (.invokevirtual 253, 3) := by decide +kernel
theorem dX8_spotInLine_8 : decode cX8_spotInLine 8 = .ok (.istore_n 2, 1) := by decide +kernel
theorem dX8_spotInLine_9 : decode cX8_spotInLine 9 = .ok (.iload_n 2, 1) := by decide +kernel
theorem dX8_spotInLine_10 : decode cX8_spotInLine 10 = .ok (.iconst (-1), 1) := by decide +kernel
theorem dX8_spotInLine_11 : decode cX8_spotInLine 11 = .ok (.if_icmp .ne 7, 3) := by decide +kernel
theorem dX8_spotInLine_14 : decode cX8_spotInLine 14 = .ok (.iconst (-1), 1) := by decide +kernel
theorem dX8_spotInLine_15 : decode cX8_spotInLine 15 = .ok (.goto 22, 3) := by decide +kernel
theorem dX8_spotInLine_18 : decode cX8_spotInLine 18 = .ok (.iload_n 2, 1) := by decide +kernel
theorem dX8_spotInLine_19 : decode cX8_spotInLine 19 = .ok (.aload_n 0, 1) := by decide +kernel
theorem dX8_spotInLine_20 : decode cX8_spotInLine 20 = .ok (.getfield 62, 3) := by decide +kernel
theorem dX8_spotInLine_23 : decode cX8_spotInLine 23 = .ok (.invokevirtual 295, 3) := by decide +kernel
theorem dX8_spotInLine_26 : decode cX8_spotInLine 26 = .ok (.isub, 1) := by decide +kernel
theorem dX8_spotInLine_27 : decode cX8_spotInLine 27 = .ok (.aload_n 0, 1) := by decide +kernel
theorem dX8_spotInLine_28 : decode cX8_spotInLine 28 = .ok (.getfield 42, 3) := by decide +kernel
theorem dX8_spotInLine_31 : decode cX8_spotInLine 31 = .ok (.invokevirtual 305, 3) := by decide +kernel
theorem dX8_spotInLine_34 : decode cX8_spotInLine 34 = .ok (.invokestatic 308, 3) := by decide +kernel
theorem dX8_spotInLine_37 : decode cX8_spotInLine 37 = .ok (.ireturn, 1) := by decide +kernel
theorem dX8_swap_0 : decode cX8_swap 0 = .ok (.aload_n 0, 1) := by decide +kernel
theorem dX8_swap_1 : decode cX8_swap 1 = .ok (.iload_n 1, 1) := by decide +kernel
theorem dX8_swap_2 : decode cX8_swap 2 = .ok (.invokevirtual 234, 3) := by decide +kernel
theorem dX8_swap_5 : decode cX8_swap 5 = .ok (.aload_n 0, 1) := by decide +kernel
theorem dX8_swap_6 : decode cX8_swap 6 = .ok (.invokevirtual 147, 3) := by decide +kernel
theorem dX8_swap_9 : decode cX8_swap 9 = .ok (.aload_n 0, 1) := by decide +kernel
theorem dX8_swap_10 : decode cX8_swap 10 = .ok (.aload_n 0, 1) := by decide +kernel
theorem dX8_swap_11 : decode cX8_swap 11 = .ok (.iload_n 1, 1) := by decide +kernel
theorem dX8_swap_12 : decode cX8_swap 12 = .ok (.invokevirtual 428, 3) := by decide +kernel
theorem dX8_swap_15 : decode cX8_swap 15 = .ok (.invokevirtual 431, 3) := by decide +kernel
theorem dX8_swap_18 : decode cX8_swap 18 = .ok (.ireturn, 1) := by decide +kernel
theorem dX8_truncate_0 : decode cX8_truncate 0 = .ok (.iload_n 1, 1) := by decide +kernel
theorem dX8_truncate_1 : decode cX8_truncate 1 = .ok (.ifCond .lt 14, 3) := by decide +kernel
theorem dX8_truncate_4 : decode cX8_truncate 4 = .ok (.iload_n 1, 1) := by decide +kernel
theorem dX8_truncate_5 : decode cX8_truncate 5 = .ok (.aload_n 0, 1) := by decide +kernel
theorem dX8_truncate_6 : decode cX8_truncate 6 = .ok (.getfield 20, 3) := by decide +kernel
theorem dX8_truncate_9 : decode cX8_truncate 9 = .ok (.invokevirtual 100, 3) := by decide +kernel
theorem dX8_truncate_12 : decode cX8_truncate 12 = .ok (.if_icmp .le 13, 3) := by decide +kernel
theorem dX8_truncate_15 : decode cX8_truncate 15 = .ok (.new 114, 3) := by decide +kernel
theorem dX8_truncate_18 : decode cX8_truncate 18 = .ok (.dup, 1) := by decide +kernel
theorem dX8_truncate_19 : decode cX8_truncate 19 = .ok (.ldc 116, 2) := by decide +kernel
theorem dX8_truncate_21 : decode cX8_truncate 21 = .ok (.invokespecial 118, 3) := by decide +kernel
theorem dX8_truncate_24 : decode cX8_truncate 24 = .ok (.athrow, 1) := by decide +kernel
theorem dX8_truncate_25 : decode cX8_truncate 25 = .ok (.aload_n 0, 1) := by decide +kernel
theorem dX8_truncate_26 : decode cX8_truncate 26 = .ok (.getfield 20, 3) := by decide +kernel
theorem dX8_truncate_29 : decode cX8_truncate 29 = .ok (.iload_n 1, 1) := by decide +kernel
theorem dX8_truncate_30 : decode cX8_truncate 30 = .ok (.invokevirtual 119, 3) := by decide +kernel
theorem dX8_truncate_33 : decode cX8_truncate 33 = .ok (.iload_n 1, 1) := by decide +kernel
theorem dX8_truncate_34 : decode cX8_truncate 34 = .ok (.ireturn, 1) := by decide +kernel
theorem dX8_turn_0 : decode cX8_turn 0 = .ok (.iload_n 1, 1) := by decide +kernel
theorem dX8_turn_1 : decode cX8_turn 1 = .ok (.invokestatic 435, 3) := by decide +kernel
theorem dX8_turn_4 : decode cX8_turn 4 = .ok (.ifCond .ne 14, 3) := by decide +kernel
theorem dX8_turn_7 : decode cX8_turn 7 = .ok (.new 114, 3) := by decide +kernel
theorem dX8_turn_10 : decode cX8_turn 10 = .ok (.dup, 1) := by decide +kernel
theorem dX8_turn_11 : decode cX8_turn 11 = .ok (.ldc_w 438, 3) := by decide +kernel
theorem dX8_turn_14 : decode cX8_turn 14 = .ok (.invokespecial 118, 3) := by decide +kernel
theorem dX8_turn_17 : decode cX8_turn 17 = .ok (.athrow, 1) := by decide +kernel
theorem dX8_turn_18 : decode cX8_turn 18 = .ok (.aload_n 0, 1) := by decide +kernel
theorem dX8_turn_19 : decode cX8_turn 19 = .ok (.invokevirtual 147, 3) := by decide +kernel
theorem dX8_turn_22 : decode cX8_turn 22 = .ok (.aload_n 0, 1) := by decide +kernel
theorem dX8_turn_23 : decode cX8_turn 23 = .ok (.iload_n 1, 1) := by decide +kernel
theorem dX8_turn_24 : decode cX8_turn 24 = .ok (.invokevirtual 440, 3) := by decide +kernel
theorem dX8_turn_27 : decode cX8_turn 27 = .ok (.pop, 1) := by decide +kernel
theorem dX8_turn_28 : decode cX8_turn 28 = .ok (.aload_n 0, 1) := by decide +kernel
theorem dX8_turn_29 : decode cX8_turn 29 = .ok (.invokevirtual 155, 3) := by decide +kernel
theorem dX8_turn_32 : decode cX8_turn 32 = .ok (.aload_n 0, 1) := by decide +kernel
theorem dX8_turn_33 : decode cX8_turn 33 = .ok (.invokevirtual 245, 3) := by decide +kernel
theorem dX8_turn_36 : decode cX8_turn 36 = .ok (.invokevirtual 295, 3) := by decide +kernel
theorem dX8_turn_39 : decode cX8_turn 39 = .ok (.ireturn, 1) := by decide +kernel
theorem dX8_undo_0 : decode cX8_undo 0 = .ok (.aload_n 0, 1) := by decide +kernel
theorem dX8_undo_1 : decode cX8_undo 1 = .ok (.getfield 80, 3) := by decide +kernel
theorem dX8_undo_4 : decode cX8_undo 4 = .ok (.iconst 1, 1) := by decide +kernel
theorem dX8_undo_5 : decode cX8_undo 5 = .ok (.if_icmp .lt 12, 3) := by decide +kernel
theorem dX8_undo_8 : decode cX8_undo 8 = .ok (.aload_n 0, 1) := by decide +kernel
theorem dX8_undo_9 : decode cX8_undo 9 = .ok (.getfield 80, 3) := by decide +kernel
theorem dX8_undo_12 : decode cX8_undo 12 = .ok (.bipush 6, 2) := by decide +kernel
theorem dX8_undo_14 : decode cX8_undo 14 = .ok (.if_icmp .le 5, 3) := by decide +kernel
theorem dX8_undo_17 : decode cX8_undo 17 = .ok (.iconst (-1), 1) := by decide +kernel
theorem dX8_undo_18 : decode cX8_undo 18 = .ok (.ireturn, 1) := by decide +kernel
theorem dX8_undo_19 : decode cX8_undo 19 = .ok (.aload_n 0, 1) := by decide +kernel
theorem dX8_undo_20 : decode cX8_undo 20 = .ok (.dup, 1) := by decide +kernel
theorem dX8_undo_21 : decode cX8_undo 21 = .ok (.getfield 80, 3) := by decide +kernel
theorem dX8_undo_24 : decode cX8_undo 24 = .ok (.iconst 1, 1) := by decide +kernel
theorem dX8_undo_25 : decode cX8_undo 25 = .ok (.isub, 1) := by decide +kernel
theorem dX8_undo_26 : decode cX8_undo 26 = .ok (.putfield 80, 3) := by decide +kernel
theorem dX8_undo_29 : decode cX8_undo 29 = .ok (.aload_n 0, 1) := by decide +kernel
theorem dX8_undo_30 : decode cX8_undo 30 = .ok (.getfield 42, 3) := by decide +kernel
theorem dX8_undo_33 : decode cX8_undo 33 = .ok (.aload_n 0, 1) := by decide +kernel
theorem dX8_undo_34 : decode cX8_undo 34 = .ok (.getfield 55, 3) := by decide +kernel
theorem dX8_undo_37 : decode cX8_undo 37 = .ok (.aload_n 0, 1) := by decide +kernel
theorem dX8_undo_38 : decode cX8_undo 38 = .ok (.getfield 80, 3) := by decide +kernel
theorem dX8_undo_41 : decode cX8_undo 41 = .ok (.aaload, 1) := by decide +kernel
theorem dX8_undo_42 : decode cX8_undo 42 = .ok (.invokevirtual 134, 3) := by decide +kernel
theorem dX8_undo_45 : decode cX8_undo 45 = .ok (.aload_n 0, 1) := by decide +kernel
theorem dX8_undo_46 : decode cX8_undo 46 = .ok (.getfield 76, 3) := by decide +kernel
theorem dX8_undo_49 : decode cX8_undo 49 = .ok (.iconst 4, 1) := by decide +kernel
theorem dX8_undo_50 : decode cX8_undo 50 = .ok (.dup2, 1) := by decide +kernel
theorem dX8_undo_51 : decode cX8_undo 51 = .ok (.iaload, 1) := by decide +kernel
theorem dX8_undo_52 : decode cX8_undo 52 = .ok (.iconst 1, 1) := by decide +kernel
theorem dX8_undo_53 : decode cX8_undo 53 = .ok (.iadd, 1) := by decide +kernel
theorem dX8_undo_54 : decode cX8_undo 54 = .ok (.iastore, 1) := by decide +kernel
theorem dX8_undo_55 : decode cX8_undo 55 = .ok (.aload_n 0, 1) := by decide +kernel
theorem dX8_undo_56 : decode cX8_undo 56 = .ok (.getfield 80, 3) := by decide +kernel
theorem dX8_undo_59 : decode cX8_undo 59 = .ok (.ireturn, 1) := by decide +kernel
theorem dX8_wanted_0 : decode cX8_wanted 0 = .ok (.aload_n 0, 1) := by decide +kernel
theorem dX8_wanted_1 : decode cX8_wanted 1 = .ok (.iload_n 1, 1) := by decide +kernel
theorem dX8_wanted_2 : decode cX8_wanted 2 = .ok (.invokevirtual 270, 3) := by decide +kernel
theorem dX8_wanted_5 : decode cX8_wanted 5 = .ok (.aload_n 0, 1) := by decide +kernel
theorem dX8_wanted_6 : decode cX8_wanted 6 = .ok (.getfield 42, 3) := by decide +kernel
theorem dX8_wanted_9 : decode cX8_wanted 9 = .ok (.iload_n 1, 1) := by decide +kernel
theorem dX8_wanted_10 : decode cX8_wanted 10 = .ok (.invokevirtual 276, 3) := by decide +kernel
theorem dX8_wanted_13 : decode cX8_wanted 13 = .ok (.ireturn, 1) := by decide +kernel
theorem dX8_wayBy_0 : decode cX8_wayBy 0 = .ok (.aload_n 0, 1) := by decide +kernel
theorem dX8_wayBy_1 : decode cX8_wayBy 1 = .ok (.iload_n 1, 1) := by decide +kernel
theorem dX8_wayBy_2 : decode cX8_wayBy 2 = .ok (.invokevirtual 419, 3) := by decide +kernel
theorem dX8_wayBy_5 : decode cX8_wayBy 5 = .ok (.aload_n 0, 1) := by decide +kernel
theorem dX8_wayBy_6 : decode cX8_wayBy 6 = .ok (.iload_n 1, 1) := by decide +kernel
theorem dX8_wayBy_7 : decode cX8_wayBy 7 = .ok (.invokevirtual 422, 3) := by decide +kernel
theorem dX8_wayBy_10 : decode cX8_wayBy 10 = .ok (.ireturn, 1) := by decide +kernel
theorem dX8_wayWith_0 : decode cX8_wayWith 0 = .ok (.aload_n 0, 1) := by decide +kernel
theorem dX8_wayWith_1 : decode cX8_wayWith 1 = .ok (.getfield 46, 3) := by decide +kernel
theorem dX8_wayWith_4 : decode cX8_wayWith 4 = .ok (.aload_n 0, 1) := by decide +kernel
theorem dX8_wayWith_5 : decode cX8_wayWith 5 = .ok (.getfield 42, 3) := by decide +kernel
theorem dX8_wayWith_8 : decode cX8_wayWith 8 = .ok (.invokevirtual 134, 3) := by decide +kernel
theorem dX8_wayWith_11 : decode cX8_wayWith 11 = .ok (.aload_n 0, 1) := by decide +kernel
theorem dX8_wayWith_12 : decode cX8_wayWith 12 = .ok (.getfield 46, 3) := by decide +kernel
theorem dX8_wayWith_15 : decode cX8_wayWith 15 = .ok (.iload_n 1, 1) := by decide +kernel
theorem dX8_wayWith_16 : decode cX8_wayWith 16 = .ok (.invokevirtual 209, 3) := by decide +kernel
theorem dX8_wayWith_19 : decode cX8_wayWith 19 = .ok (.aload_n 0, 1) := by decide +kernel
theorem dX8_wayWith_20 : decode cX8_wayWith 20 = .ok (.getfield 62, 3) := by decide +kernel
theorem dX8_wayWith_23 : decode cX8_wayWith 23 = .ok (.aload_n 0, 1) := by decide +kernel
theorem dX8_wayWith_24 : decode cX8_wayWith 24 = .ok (.getfield 46, 3) := by decide +kernel
theorem dX8_wayWith_27 : decode cX8_wayWith 27 = .ok (.aload_n 0, 1) := by decide +kernel
theorem dX8_wayWith_28 : decode cX8_wayWith 28 = .ok (.getfield 46, 3) := by decide +kernel
theorem dX8_wayWith_31 : decode cX8_wayWith 31 = .ok (.invokevirtual 138, 3) := by decide +kernel
theorem dX8_wayWith_34 : decode cX8_wayWith 34 = .ok (.invokevirtual 301, 3) := by decide +kernel
theorem dX8_wayWith_37 : decode cX8_wayWith 37 = .ok (.aload_n 0, 1) := by decide +kernel
theorem dX8_wayWith_38 : decode cX8_wayWith 38 = .ok (.getfield 62, 3) := by decide +kernel
theorem dX8_wayWith_41 : decode cX8_wayWith 41 = .ok (.invokevirtual 320, 3) := by decide +kernel
theorem dX8_wayWith_44 : decode cX8_wayWith 44 = .ok (.ireturn, 1) := by decide +kernel
theorem dX8_who_0 : decode cX8_who 0 = .ok (.aload_n 0, 1) := by decide +kernel
theorem dX8_who_1 : decode cX8_who 1 = .ok (.iload_n 1, 1) := by decide +kernel
theorem dX8_who_2 : decode cX8_who 2 = .ok (.invokevirtual 270, 3) := by decide +kernel
theorem dX8_who_5 : decode cX8_who 5 = .ok (.aload_n 0, 1) := by decide +kernel
theorem dX8_who_6 : decode cX8_who 6 = .ok (.invokevirtual 245, 3) := by decide +kernel
theorem dX8_who_9 : decode cX8_who 9 = .ok (.iload_n 1, 1) := by decide +kernel
theorem dX8_who_10 : decode cX8_who 10 = .ok (.invokevirtual 273, 3) := by decide +kernel
theorem dX8_who_13 : decode cX8_who 13 = .ok (.ireturn, 1) := by decide +kernel
theorem dX8_whoAfter_0 : decode cX8_whoAfter 0 = .ok (.aload_n 0, 1) := by decide +kernel
theorem dX8_whoAfter_1 : decode cX8_whoAfter 1 = .ok (.iload_n 2, 1) := by decide +kernel
theorem dX8_whoAfter_2 : decode cX8_whoAfter 2 = .ok (.invokevirtual 270, 3) := by decide +kernel
theorem dX8_whoAfter_5 : decode cX8_whoAfter 5 = .ok (.aload_n 0, 1) := by decide +kernel
theorem dX8_whoAfter_6 : decode cX8_whoAfter 6 = .ok (.iload_n 1, 1) := by decide +kernel
theorem dX8_whoAfter_7 : decode cX8_whoAfter 7 = .ok (.invokevirtual 351, 3) := by decide +kernel
theorem dX8_whoAfter_10 : decode cX8_whoAfter 10 = .ok (.iload_n 2, 1) := by decide +kernel
theorem dX8_whoAfter_11 : decode cX8_whoAfter 11 = .ok (.invokevirtual 273, 3) := by decide +kernel
theorem dX8_whoAfter_14 : decode cX8_whoAfter 14 = .ok (.ireturn, 1) := by decide +kernel
theorem dX8_wide_0 : decode cX8_wide 0 = .ok (.aload_n 0, 1) := by decide +kernel
theorem dX8_wide_1 : decode cX8_wide 1 = .ok (.invokevirtual 382, 3) := by decide +kernel
theorem dX8_wide_4 : decode cX8_wide 4 = .ok (.invokevirtual 388, 3) := by decide +kernel
theorem dX8_wide_7 : decode cX8_wide 7 = .ok (.ireturn, 1) := by decide +kernel
theorem dX8_withLetter_0 : decode cX8_withLetter 0 = .ok (.lload_n 0, 1) := by decide +kernel
theorem dX8_withLetter_1 : decode cX8_withLetter 1 = .ok (.iload_n 3, 1) := by decide +kernel
theorem dX8_withLetter_2 : decode cX8_withLetter 2 = .ok (.i2l, 1) := by decide +kernel
theorem dX8_withLetter_3 : decode cX8_withLetter 3 = .ok (.iconst 5, 1) := by decide +kernel
theorem dX8_withLetter_4 : decode cX8_withLetter 4 = .ok (.bipush 7, 2) := by decide +kernel
theorem dX8_withLetter_6 : decode cX8_withLetter 6 = .ok (.iload_n 2, 1) := by decide +kernel
theorem dX8_withLetter_7 : decode cX8_withLetter 7 = .ok (.isub, 1) := by decide +kernel
theorem dX8_withLetter_8 : decode cX8_withLetter 8 = .ok (.imul, 1) := by decide +kernel
theorem dX8_withLetter_9 : decode cX8_withLetter 9 = .ok (.lshl, 1) := by decide +kernel
theorem dX8_withLetter_10 : decode cX8_withLetter 10 = .ok (.lor, 1) := by decide +kernel
theorem dX8_withLetter_11 : decode cX8_withLetter 11 = .ok (.lreturn, 1) := by decide +kernel
theorem dX8_wrapped_0 : decode cX8_wrapped 0 = .ok (.iload_n 1, 1) := by decide +kernel
theorem dX8_wrapped_1 : decode cX8_wrapped 1 = .ok (.iconst 1, 1) := by decide +kernel
theorem dX8_wrapped_2 : decode cX8_wrapped 2 = .ok (.if_icmp .ge 7, 3) := by decide +kernel
theorem dX8_wrapped_5 : decode cX8_wrapped 5 = .ok (.iconst (-1), 1) := by decide +kernel
theorem dX8_wrapped_6 : decode cX8_wrapped 6 = .ok (.goto 8, 3) := by decide +kernel
theorem dX8_wrapped_9 : decode cX8_wrapped 9 = .ok (.iload_n 0, 1) := by decide +kernel
theorem dX8_wrapped_10 : decode cX8_wrapped 10 = .ok (.iload_n 1, 1) := by decide +kernel
theorem dX8_wrapped_11 : decode cX8_wrapped 11 = .ok (.invokestatic 526, 3) := by decide +kernel
theorem dX8_wrapped_14 : decode cX8_wrapped 14 = .ok (.ireturn, 1) := by decide +kernel
theorem dX9_account_0 : decode cX9_account 0 = .ok (.aload_n 0, 1) := by decide +kernel
theorem dX9_account_1 : decode cX9_account 1 = .ok (.iload_n 1, 1) := by decide +kernel
theorem dX9_account_2 : decode cX9_account 2 = .ok (.i2l, 1) := by decide +kernel
theorem dX9_account_3 : decode cX9_account 3 = .ok (.lconst 0, 1) := by decide +kernel
theorem dX9_account_4 : decode cX9_account 4 = .ok (.ldc2_w 212, 3) := by decide +kernel
theorem dX9_account_7 : decode cX9_account 7 = .ok (.invokestatic 130, 3) := by decide +kernel
theorem dX9_account_10 : decode cX9_account 10 = .ok (.invokevirtual 122, 3) := by decide +kernel
theorem dX9_account_13 : decode cX9_account 13 = .ok (.ifCond .eq 12, 3) := by decide +kernel
theorem dX9_account_16 : decode cX9_account 16 = .ok (.aload_n 0, 1) := by decide +kernel
theorem dX9_account_17 : decode cX9_account 17 = .ok (.getfield 51, 3) := by decide +kernel
theorem dX9_account_20 : decode cX9_account 20 = .ok (.iload_n 1, 1) := by decide +kernel
theorem dX9_account_21 : decode cX9_account 21 = .ok (.iaload, 1) := by decide +kernel
theorem dX9_account_22 : decode cX9_account 22 = .ok (.goto 4, 3) := by decide +kernel
theorem dX9_account_25 : decode cX9_account 25 = .ok (.iconst 0, 1) := by decide +kernel
theorem dX9_account_26 : decode cX9_account 26 = .ok (.ireturn, 1) := by decide +kernel
theorem dX9_acted_0 : decode cX9_acted 0 = .ok (.aload_n 0, 1) := by decide +kernel
theorem dX9_acted_1 : decode cX9_acted 1 = .ok (.getfield 51, 3) := by decide +kernel
theorem dX9_acted_4 : decode cX9_acted 4 = .ok (.iconst 0, 1) := by decide +kernel
theorem dX9_acted_5 : decode cX9_acted 5 = .ok (.dup2, 1) := by decide +kernel
theorem dX9_acted_6 : decode cX9_acted 6 = .ok (.iaload, 1) := by decide +kernel
theorem dX9_acted_7 : decode cX9_acted 7 = .ok (.iconst 1, 1) := by decide +kernel
theorem dX9_acted_8 : decode cX9_acted 8 = .ok (.iadd, 1) := by decide +kernel
theorem dX9_acted_9 : decode cX9_acted 9 = .ok (.iastore, 1) := by decide +kernel
theorem dX9_acted_10 : decode cX9_acted 10 = .ok (.iload_n 1, 1) := by decide +kernel
theorem dX9_acted_11 : decode cX9_acted 11 = .ok (.ireturn, 1) := by decide +kernel
theorem dX9_all_0 : decode cX9_all 0 = .ok (.aload_n 0, 1) := by decide +kernel
theorem dX9_all_1 : decode cX9_all 1 = .ok (.iconst 0, 1) := by decide +kernel
theorem dX9_all_2 : decode cX9_all 2 = .ok (.putfield 112, 3) := by decide +kernel
theorem dX9_all_5 : decode cX9_all 5 = .ok (.lconst 1, 1) := by decide +kernel
theorem dX9_all_6 : decode cX9_all 6 = .ok (.lstore_n 1, 1) := by decide +kernel
theorem dX9_all_7 : decode cX9_all 7 = .ok (.iconst 1, 1) := by decide +kernel
theorem dX9_all_8 : decode cX9_all 8 = .ok (.istore_n 3, 1) := by decide +kernel
theorem dX9_all_9 : decode cX9_all 9 = .ok (.iload_n 3, 1) := by decide +kernel
theorem dX9_all_10 : decode cX9_all 10 = .ok (.aload_n 0, 1) := by decide +kernel
theorem dX9_all_11 : decode cX9_all 11 = .ok (.getfield 20, 3) := by decide +kernel
theorem dX9_all_14 : decode cX9_all 14 = .ok (.iconst 0, 1) := by decide +kernel
theorem dX9_all_15 : decode cX9_all 15 = .ok (.iaload, 1) := by decide +kernel
theorem dX9_all_16 : decode cX9_all 16 = .ok (.if_icmp .ge 17, 3) := by decide +kernel
theorem dX9_all_19 : decode cX9_all 19 = .ok (.lload_n 1, 1) := by decide +kernel
theorem dX9_all_20 : decode cX9_all 20 = .ok (.aload_n 0, 1) := by decide +kernel
theorem dX9_all_21 : decode cX9_all 21 = .ok (.invokevirtual 214, 3) := by decide +kernel
theorem dX9_all_24 : decode cX9_all 24 = .ok (.i2l, 1) := by decide +kernel
theorem dX9_all_25 : decode cX9_all 25 = .ok (.lmul, 1) := by decide +kernel
theorem dX9_all_26 : decode cX9_all 26 = .ok (.lstore_n 1, 1) := by decide +kernel
theorem dX9_all_27 : decode cX9_all 27 = .ok (.iinc 3 1, 3) := by decide +kernel
theorem dX9_all_30 : decode cX9_all 30 = .ok (.goto (-21), 3) := by decide +kernel
theorem dX9_all_33 : decode cX9_all 33 = .ok (.lload_n 1, 1) := by decide +kernel
theorem dX9_all_34 : decode cX9_all 34 = .ok (.lreturn, 1) := by decide +kernel
theorem dX9_areCars_0 : decode cX9_areCars 0 = .ok (.iload_n 1, 1) := by decide +kernel
theorem dX9_areCars_1 : decode cX9_areCars 1 = .ok (.i2l, 1) := by decide +kernel
theorem dX9_areCars_2 : decode cX9_areCars 2 = .ok (.lconst 0, 1) := by decide +kernel
theorem dX9_areCars_3 : decode cX9_areCars 3 = .ok (.aload_n 0, 1) := by decide +kernel
theorem dX9_areCars_4 : decode cX9_areCars 4 = .ok (.getfield 20, 3) := by decide +kernel
theorem dX9_areCars_7 : decode cX9_areCars 7 = .ok (.iconst 0, 1) := by decide +kernel
theorem dX9_areCars_8 : decode cX9_areCars 8 = .ok (.iaload, 1) := by decide +kernel
theorem dX9_areCars_9 : decode cX9_areCars 9 = .ok (.i2l, 1) := by decide +kernel
theorem dX9_areCars_10 : decode cX9_areCars 10 = .ok (.invokestatic 130, 3) := by decide +kernel
theorem dX9_areCars_13 : decode cX9_areCars 13 = .ok (.ireturn, 1) := by decide +kernel
theorem dX9_area_0 : decode cX9_area 0 = .ok (.iconst 0, 1) := by decide +kernel
theorem dX9_area_1 : decode cX9_area 1 = .ok (.istore_n 1, 1) := by decide +kernel
theorem dX9_area_2 : decode cX9_area 2 = .ok (.iconst 0, 1) := by decide +kernel
theorem dX9_area_3 : decode cX9_area 3 = .ok (.istore_n 2, 1) := by decide +kernel
theorem dX9_area_4 : decode cX9_area 4 = .ok (.iload_n 2, 1) := by decide +kernel
theorem dX9_area_5 : decode cX9_area 5 = .ok (.aload_n 0, 1) := by decide +kernel
theorem dX9_area_6 : decode cX9_area 6 = .ok (.getfield 20, 3) := by decide +kernel
theorem dX9_area_9 : decode cX9_area 9 = .ok (.iconst 0, 1) := by decide +kernel
theorem dX9_area_10 : decode cX9_area 10 = .ok (.iaload, 1) := by decide +kernel
theorem dX9_area_11 : decode cX9_area 11 = .ok (.if_icmp .ge 18, 3) := by decide +kernel
theorem dX9_area_14 : decode cX9_area 14 = .ok (.iload_n 1, 1) := by decide +kernel
theorem dX9_area_15 : decode cX9_area 15 = .ok (.aload_n 0, 1) := by decide +kernel
theorem dX9_area_16 : decode cX9_area 16 = .ok (.getfield 60, 3) := by decide +kernel
theorem dX9_area_19 : decode cX9_area 19 = .ok (.iload_n 2, 1) := by decide +kernel
theorem dX9_area_20 : decode cX9_area 20 = .ok (.iaload, 1) := by decide +kernel
theorem dX9_area_21 : decode cX9_area 21 = .ok (.iadd, 1) := by decide +kernel
theorem dX9_area_22 : decode cX9_area 22 = .ok (.istore_n 1, 1) := by decide +kernel
theorem dX9_area_23 : decode cX9_area 23 = .ok (.iinc 2 1, 3) := by decide +kernel
theorem dX9_area_26 : decode cX9_area 26 = .ok (.goto (-22), 3) := by decide +kernel
theorem dX9_area_29 : decode cX9_area 29 = .ok (.iload_n 1, 1) := by decide +kernel
theorem dX9_area_30 : decode cX9_area 30 = .ok (.ireturn, 1) := by decide +kernel
theorem dX9_areaByLine_0 : decode cX9_areaByLine 0 = .ok (.aload_n 0, 1) := by decide +kernel
theorem dX9_areaByLine_1 : decode cX9_areaByLine 1 = .ok (.invokevirtual 233, 3) := by decide +kernel
theorem dX9_areaByLine_4 : decode cX9_areaByLine 4 = .ok (.istore_n 1, 1) := by decide +kernel
theorem dX9_areaByLine_5 : decode cX9_areaByLine 5 = .ok (.aload_n 0, 1) := by decide +kernel
theorem dX9_areaByLine_6 : decode cX9_areaByLine 6 = .ok (.getfield 20, 3) := by decide +kernel
theorem dX9_areaByLine_9 : decode cX9_areaByLine 9 = .ok (.iconst 0, 1) := by decide +kernel
theorem dX9_areaByLine_10 : decode cX9_areaByLine 10 = .ok (.iaload, 1) := by decide +kernel
theorem dX9_areaByLine_11 : decode cX9_areaByLine 11 = .ok (.aload_n 0, 1) := by decide +kernel
theorem dX9_areaByLine_12 : decode cX9_areaByLine 12 = .ok (.getfield 20, 3) := by decide +kernel
theorem dX9_areaByLine_15 : decode cX9_areaByLine 15 = .ok (.iconst 0, 1) := by decide +kernel
theorem dX9_areaByLine_16 : decode cX9_areaByLine 16 = .ok (.iaload, 1) := by decide +kernel
theorem dX9_areaByLine_17 : decode cX9_areaByLine 17 = .ok (.iconst 1, 1) := by decide +kernel
theorem dX9_areaByLine_18 : decode cX9_areaByLine 18 = .ok (.isub, 1) := by decide +kernel
theorem dX9_areaByLine_19 : decode cX9_areaByLine 19 = .ok (.imul, 1) := by decide +kernel
theorem dX9_areaByLine_20 : decode cX9_areaByLine 20 = .ok (.iconst 2, 1) := by decide +kernel
theorem dX9_areaByLine_21 : decode cX9_areaByLine 21 = .ok (.idiv, 1) := by decide +kernel
theorem dX9_areaByLine_22 : decode cX9_areaByLine 22 = .ok (.istore_n 2, 1) := by decide +kernel
theorem dX9_areaByLine_23 : decode cX9_areaByLine 23 = .ok (.iconst 0, 1) := by decide +kernel
theorem dX9_areaByLine_24 : decode cX9_areaByLine 24 = .ok (.istore_n 3, 1) := by decide +kernel
theorem dX9_areaByLine_25 : decode cX9_areaByLine 25 = .ok (.iload_n 3, 1) := by decide +kernel
theorem dX9_areaByLine_26 : decode cX9_areaByLine 26 = .ok (.aload_n 0, 1) := by decide +kernel
theorem dX9_areaByLine_27 : decode cX9_areaByLine 27 = .ok (.getfield 20, 3) := by decide +kernel
theorem dX9_areaByLine_30 : decode cX9_areaByLine 30 = .ok (.iconst 0, 1) := by decide +kernel
theorem dX9_areaByLine_31 : decode cX9_areaByLine 31 = .ok (.iaload, 1) := by decide +kernel
theorem dX9_areaByLine_32 : decode cX9_areaByLine 32 = .ok (.if_icmp .ge 18, 3) := by decide +kernel
theorem dX9_areaByLine_35 : decode cX9_areaByLine 35 = .ok (.iload_n 2, 1) := by decide +kernel
theorem dX9_areaByLine_36 : decode cX9_areaByLine 36 = .ok (.aload_n 0, 1) := by decide +kernel
theorem dX9_areaByLine_37 : decode cX9_areaByLine 37 = .ok (.iload_n 3, 1) := by decide +kernel
theorem dX9_areaByLine_38 : decode cX9_areaByLine 38 = .ok (.iload_n 1, 1) := by decide +kernel
theorem dX9_areaByLine_39 : decode cX9_areaByLine 39 = .ok (.invokevirtual 236, 3) := by decide +kernel
theorem dX9_areaByLine_42 : decode cX9_areaByLine 42 = .ok (.isub, 1) := by decide +kernel
theorem dX9_areaByLine_43 : decode cX9_areaByLine 43 = .ok (.istore_n 2, 1) := by decide +kernel
theorem dX9_areaByLine_44 : decode cX9_areaByLine 44 = .ok (.iinc 3 1, 3) := by decide +kernel
theorem dX9_areaByLine_47 : decode cX9_areaByLine 47 = .ok (.goto (-22), 3) := by decide +kernel
theorem dX9_areaByLine_50 : decode cX9_areaByLine 50 = .ok (.iload_n 2, 1) := by decide +kernel
theorem dX9_areaByLine_51 : decode cX9_areaByLine 51 = .ok (.ireturn, 1) := by decide +kernel
theorem dX9_arrangements_0 : decode cX9_arrangements 0 = .ok (.aload_n 0, 1) := by decide +kernel
theorem dX9_arrangements_1 : decode cX9_arrangements 1 = .ok (.iconst 0, 1) := by decide +kernel
theorem dX9_arrangements_2 : decode cX9_arrangements 2 = .ok (.putfield 112, 3) := by decide +kernel
theorem dX9_arrangements_5 : decode cX9_arrangements 5 = .ok (.aload_n 0, 1) := by decide +kernel
theorem dX9_arrangements_6 : decode cX9_arrangements 6 = .ok (.getfield 20, 3) := by decide +kernel
theorem dX9_arrangements_9 : decode cX9_arrangements 9 = .ok (.iconst 0, 1) := by decide +kernel
theorem dX9_arrangements_10 : decode cX9_arrangements 10 = .ok (.iaload, 1) := by decide +kernel
theorem dX9_arrangements_11 : decode cX9_arrangements 11 = .ok (.invokestatic 359, 3) := by decide +kernel
theorem dX9_arrangements_14 : decode cX9_arrangements 14 = .ok (.lstore_n 1, 1) := by decide +kernel
theorem dX9_arrangements_15 : decode cX9_arrangements 15 = .ok (.iconst 0, 1) := by decide +kernel
theorem dX9_arrangements_16 : decode cX9_arrangements 16 = .ok (.istore_n 3, 1) := by decide +kernel
theorem dX9_arrangements_17 : decode cX9_arrangements 17 = .ok (.iload_n 3, 1) := by decide +kernel
theorem dX9_arrangements_18 : decode cX9_arrangements 18 = .ok (.aload_n 0, 1) := by decide +kernel
theorem dX9_arrangements_19 : decode cX9_arrangements 19 = .ok (.invokevirtual 214, 3) := by decide +kernel
theorem dX9_arrangements_22 : decode cX9_arrangements 22 = .ok (.if_icmp .ge 20, 3) := by decide +kernel
theorem dX9_arrangements_25 : decode cX9_arrangements 25 = .ok (.lload_n 1, 1) := by decide +kernel
theorem dX9_arrangements_26 : decode cX9_arrangements 26 = .ok (.aload_n 0, 1) := by decide +kernel
theorem dX9_arrangements_27 : decode cX9_arrangements 27 = .ok (.iload_n 3, 1) := by decide +kernel
theorem dX9_arrangements_28 : decode cX9_arrangements 28 = .ok (.invokevirtual 248, 3) := by decide +kernel
theorem dX9_arrangements_31 : decode cX9_arrangements 31 = .ok (.invokestatic 359, 3) := by decide +kernel
theorem dX9_arrangements_34 : decode cX9_arrangements 34 = .ok (.ldiv, 1) := by decide +kernel
theorem dX9_arrangements_35 : decode cX9_arrangements 35 = .ok (.lstore_n 1, 1) := by decide +kernel
theorem dX9_arrangements_36 : decode cX9_arrangements 36 = .ok (.iinc 3 1, 3) := by decide +kernel
theorem dX9_arrangements_39 : decode cX9_arrangements 39 = .ok (.goto (-22), 3) := by decide +kernel
theorem dX9_arrangements_42 : decode cX9_arrangements 42 = .ok (.lload_n 1, 1) := by decide +kernel
theorem dX9_arrangements_43 : decode cX9_arrangements 43 = .ok (.lreturn, 1) := by decide +kernel
theorem dX9_beginsText_0 : decode cX9_beginsText 0 = .ok (.aload_n 0, 1) := by decide +kernel
theorem dX9_beginsText_1 : decode cX9_beginsText 1 = .ok (.aload_n 0, 1) := by decide +kernel
theorem dX9_beginsText_2 : decode cX9_beginsText 2 = .ok (.getfield 119, 3) := by decide +kernel
theorem dX9_beginsText_5 : decode cX9_beginsText 5 = .ok (.putfield 137, 3) := by decide +kernel
theorem dX9_beginsText_8 : decode cX9_beginsText 8 = .ok (.aload_n 0, 1) := by decide +kernel
theorem dX9_beginsText_9 : decode cX9_beginsText 9 = .ok (.iconst 0, 1) := by decide +kernel
theorem dX9_beginsText_10 : decode cX9_beginsText 10 = .ok (.putfield 119, 3) := by decide +kernel
theorem dX9_beginsText_13 : decode cX9_beginsText 13 = .ok (.aload_n 0, 1) := by decide +kernel
theorem dX9_beginsText_14 : decode cX9_beginsText 14 = .ok (.iconst 0, 1) := by decide +kernel
theorem dX9_beginsText_15 : decode cX9_beginsText 15 = .ok (.putfield 134, 3) := by decide +kernel
theorem dX9_beginsText_18 : decode cX9_beginsText 18 = .ok (.aload_n 0, 1) := by decide +kernel
theorem dX9_beginsText_19 : decode cX9_beginsText 19 = .ok (.iconst 0, 1) := by decide +kernel
theorem dX9_beginsText_20 : decode cX9_beginsText 20 = .ok (.putfield 164, 3) := by decide +kernel
theorem dX9_beginsText_23 : decode cX9_beginsText 23 = .ok (.aload_n 0, 1) := by decide +kernel
theorem dX9_beginsText_24 : decode cX9_beginsText 24 = .ok (.iconst (-1), 1) := by decide +kernel
theorem dX9_beginsText_25 : decode cX9_beginsText 25 = .ok (.putfield 13, 3) := by decide +kernel
theorem dX9_beginsText_28 : decode cX9_beginsText 28 = .ok (.aload_n 0, 1) := by decide +kernel
theorem dX9_beginsText_29 : decode cX9_beginsText 29 = .ok (.invokevirtual 177, 3) := by decide +kernel
theorem dX9_beginsText_32 : decode cX9_beginsText 32 = .ok (.return_, 1) := by decide +kernel
theorem dX9_bestBack_0 : decode cX9_bestBack 0 = .ok (.aload_n 0, 1) := by decide +kernel
theorem dX9_bestBack_1 : decode cX9_bestBack 1 = .ok (.iconst 0, 1) := by decide +kernel
theorem dX9_bestBack_2 : decode cX9_bestBack 2 = .ok (.putfield 112, 3) := by decide +kernel
theorem dX9_bestBack_5 : decode cX9_bestBack 5 = .ok (.iconst 0, 1) := by decide +kernel
theorem dX9_bestBack_6 : decode cX9_bestBack 6 = .ok (.istore_n 1, 1) := by decide +kernel
theorem dX9_bestBack_7 : decode cX9_bestBack 7 = .ok (.iconst 1, 1) := by decide +kernel
theorem dX9_bestBack_8 : decode cX9_bestBack 8 = .ok (.istore_n 2, 1) := by decide +kernel
theorem dX9_bestBack_9 : decode cX9_bestBack 9 = .ok (.iload_n 2, 1) := by decide +kernel
theorem dX9_bestBack_10 : decode cX9_bestBack 10 = .ok (.iconst 5, 1) := by decide +kernel
theorem dX9_bestBack_11 : decode cX9_bestBack 11 = .ok (.if_icmp .gt 24, 3) := by decide +kernel
theorem dX9_bestBack_14 : decode cX9_bestBack 14 = .ok (.aload_n 0, 1) := by decide +kernel
theorem dX9_bestBack_15 : decode cX9_bestBack 15 = .ok (.iload_n 2, 1) := by decide +kernel
theorem dX9_bestBack_16 : decode cX9_bestBack 16 = .ok (.invokevirtual 418, 3) := by decide +kernel
theorem dX9_bestBack_19 : decode cX9_bestBack 19 = .ok (.aload_n 0, 1) := by decide +kernel
theorem dX9_bestBack_20 : decode cX9_bestBack 20 = .ok (.iload_n 1, 1) := by decide +kernel
theorem dX9_bestBack_21 : decode cX9_bestBack 21 = .ok (.invokevirtual 418, 3) := by decide +kernel
theorem dX9_bestBack_24 : decode cX9_bestBack 24 = .ok (.if_icmp .ge 5, 3) := by decide +kernel
theorem dX9_bestBack_27 : decode cX9_bestBack 27 = .ok (.iload_n 2, 1) := by decide +kernel
theorem dX9_bestBack_28 : decode cX9_bestBack 28 = .ok (.istore_n 1, 1) := by decide +kernel
theorem dX9_bestBack_29 : decode cX9_bestBack 29 = .ok (.iinc 2 1, 3) := by decide +kernel
theorem dX9_bestBack_32 : decode cX9_bestBack 32 = .ok (.goto (-23), 3) := by decide +kernel
theorem dX9_bestBack_35 : decode cX9_bestBack 35 = .ok (.iload_n 1, 1) := by decide +kernel
theorem dX9_bestBack_36 : decode cX9_bestBack 36 = .ok (.ireturn, 1) := by decide +kernel
theorem dX9_bestFor_0 : decode cX9_bestFor 0 = .ok (.aload_n 0, 1) := by decide +kernel
theorem dX9_bestFor_1 : decode cX9_bestFor 1 = .ok (.aload_n 0, 1) := by decide +kernel
theorem dX9_bestFor_2 : decode cX9_bestFor 2 = .ok (.iload_n 1, 1) := by decide +kernel
theorem dX9_bestFor_3 : decode cX9_bestFor 3 = .ok (.invokevirtual 325, 3) := by decide +kernel
theorem dX9_bestFor_6 : decode cX9_bestFor 6 = .ok (.invokevirtual 122, 3) := by decide +kernel
theorem dX9_bestFor_9 : decode cX9_bestFor 9 = .ok (.ifCond .ne 5, 3) := by decide +kernel
theorem dX9_bestFor_12 : decode cX9_bestFor 12 = .ok (.iconst 0, 1) := by decide +kernel
theorem dX9_bestFor_13 : decode cX9_bestFor 13 = .ok (.ireturn, 1) := by decide +kernel
theorem dX9_bestFor_14 : decode cX9_bestFor 14 = .ok (.aload_n 0, 1) := by decide +kernel
theorem dX9_bestFor_15 : decode cX9_bestFor 15 = .ok (.invokevirtual 403, 3) := by decide +kernel
theorem dX9_bestFor_18 : decode cX9_bestFor 18 = .ok (.iconst 0, 1) := by decide +kernel
theorem dX9_bestFor_19 : decode cX9_bestFor 19 = .ok (.istore_n 2, 1) := by decide +kernel
theorem dX9_bestFor_20 : decode cX9_bestFor 20 = .ok (.iconst (-1), 1) := by decide +kernel
theorem dX9_bestFor_21 : decode cX9_bestFor 21 = .ok (.istore_n 3, 1) := by decide +kernel
theorem dX9_bestFor_22 : decode cX9_bestFor 22 = .ok (.iconst 0, 1) := by decide +kernel
theorem dX9_bestFor_23 : decode cX9_bestFor 23 = .ok (.istore 4, 2) := by decide +kernel
theorem dX9_bestFor_25 : decode cX9_bestFor 25 = .ok (.iload 4, 2) := by decide +kernel
theorem dX9_bestFor_27 : decode cX9_bestFor 27 = .ok (.aload_n 0, 1) := by decide +kernel
theorem dX9_bestFor_28 : decode cX9_bestFor 28 = .ok (.invokevirtual 214, 3) := by decide +kernel
theorem dX9_bestFor_31 : decode cX9_bestFor 31 = .ok (.if_icmp .ge 41, 3) := by decide +kernel
theorem dX9_bestFor_34 : decode cX9_bestFor 34 = .ok (.aload_n 0, 1) := by decide +kernel
theorem dX9_bestFor_35 : decode cX9_bestFor 35 = .ok (.getfield 20, 3) := by decide +kernel
theorem dX9_bestFor_38 : decode cX9_bestFor 38 = .ok (.iconst 2, 1) := by decide +kernel
theorem dX9_bestFor_39 : decode cX9_bestFor 39 = .ok (.iload_n 1, 1) := by decide +kernel
theorem dX9_bestFor_40 : decode cX9_bestFor 40 = .ok (.iadd, 1) := by decide +kernel
theorem dX9_bestFor_41 : decode cX9_bestFor 41 = .ok (.iload 4, 2) := by decide +kernel
theorem dX9_bestFor_43 : decode cX9_bestFor 43 = .ok (.iastore, 1) := by decide +kernel
theorem dX9_bestFor_44 : decode cX9_bestFor 44 = .ok (.aload_n 0, 1) := by decide +kernel
theorem dX9_bestFor_45 : decode cX9_bestFor 45 = .ok (.iconst 4, 1) := by decide +kernel
theorem dX9_bestFor_46 : decode cX9_bestFor 46 = .ok (.invokevirtual 317, 3) := by decide +kernel
theorem dX9_bestFor_49 : decode cX9_bestFor 49 = .ok (.istore 5, 2) := by decide +kernel
theorem dX9_bestFor_51 : decode cX9_bestFor 51 = .ok (.iload 5, 2) := by decide +kernel
theorem dX9_bestFor_53 : decode cX9_bestFor 53 = .ok (.iload_n 3, 1) := by decide +kernel
theorem dX9_bestFor_54 : decode cX9_bestFor 54 = .ok (.if_icmp .gt 6, 3) := by decide +kernel
theorem dX9_bestFor_57 : decode cX9_bestFor 57 = .ok (.goto 9, 3) := by decide +kernel
theorem dX9_bestFor_60 : decode cX9_bestFor 60 = .ok (.iload 4, 2) := by decide +kernel
theorem dX9_bestFor_62 : decode cX9_bestFor 62 = .ok (.istore_n 2, 1) := by decide +kernel
theorem dX9_bestFor_63 : decode cX9_bestFor 63 = .ok (.iload 5, 2) := by decide +kernel
theorem dX9_bestFor_65 : decode cX9_bestFor 65 = .ok (.istore_n 3, 1) := by decide +kernel
theorem dX9_bestFor_66 : decode cX9_bestFor 66 = .ok (.iinc 4 1, 3) := by decide +kernel
theorem dX9_bestFor_69 : decode cX9_bestFor 69 = .ok (.goto (-44), 3) := by decide +kernel
theorem dX9_bestFor_72 : decode cX9_bestFor 72 = .ok (.aload_n 0, 1) := by decide +kernel
theorem dX9_bestFor_73 : decode cX9_bestFor 73 = .ok (.iload_n 2, 1) := by decide +kernel
theorem dX9_bestFor_74 : decode cX9_bestFor 74 = .ok (.invokevirtual 406, 3) := by decide +kernel
theorem dX9_bestFor_77 : decode cX9_bestFor 77 = .ok (.ireturn, 1) := by decide +kernel
theorem dX9_breakAt_0 : decode cX9_breakAt 0 = .ok (.aload_n 0, 1) := by decide +kernel
theorem dX9_breakAt_1 : decode cX9_breakAt 1 = .ok (.iconst 0, 1) := by decide +kernel
theorem dX9_breakAt_2 : decode cX9_breakAt 2 = .ok (.putfield 112, 3) := by decide +kernel
theorem dX9_breakAt_5 : decode cX9_breakAt 5 = .ok (.aload_n 0, 1) := by decide +kernel
theorem dX9_breakAt_6 : decode cX9_breakAt 6 = .ok (.aload_n 0, 1) := by decide +kernel
theorem dX9_breakAt_7 : decode cX9_breakAt 7 = .ok (.getfield 20, 3) := by decide +kernel
theorem dX9_breakAt_10 : decode cX9_breakAt 10 = .ok (.iconst 0, 1) := by decide +kernel
theorem dX9_breakAt_11 : decode cX9_breakAt 11 = .ok (.iaload, 1) := by decide +kernel
theorem dX9_breakAt_12 : decode cX9_breakAt 12 = .ok (.invokevirtual 230, 3) := by decide +kernel
theorem dX9_breakAt_15 : decode cX9_breakAt 15 = .ok (.iload_n 1, 1) := by decide +kernel
theorem dX9_breakAt_16 : decode cX9_breakAt 16 = .ok (.istore_n 2, 1) := by decide +kernel
theorem dX9_breakAt_17 : decode cX9_breakAt 17 = .ok (.iconst 1, 1) := by decide +kernel
theorem dX9_breakAt_18 : decode cX9_breakAt 18 = .ok (.istore_n 3, 1) := by decide +kernel
theorem dX9_breakAt_19 : decode cX9_breakAt 19 = .ok (.iload_n 3, 1) := by decide +kernel
theorem dX9_breakAt_20 : decode cX9_breakAt 20 = .ok (.aload_n 0, 1) := by decide +kernel
theorem dX9_breakAt_21 : decode cX9_breakAt 21 = .ok (.getfield 20, 3) := by decide +kernel
theorem dX9_breakAt_24 : decode cX9_breakAt 24 = .ok (.iconst 0, 1) := by decide +kernel
theorem dX9_breakAt_25 : decode cX9_breakAt 25 = .ok (.iaload, 1) := by decide +kernel
theorem dX9_breakAt_26 : decode cX9_breakAt 26 = .ok (.if_icmp .gt 29, 3) := by decide +kernel
theorem dX9_breakAt_29 : decode cX9_breakAt 29 = .ok (.aload_n 0, 1) := by decide +kernel
theorem dX9_breakAt_30 : decode cX9_breakAt 30 = .ok (.iload_n 3, 1) := by decide +kernel
theorem dX9_breakAt_31 : decode cX9_breakAt 31 = .ok (.invokevirtual 245, 3) := by decide +kernel
theorem dX9_breakAt_34 : decode cX9_breakAt 34 = .ok (.ifCond .ne 6, 3) := by decide +kernel
theorem dX9_breakAt_37 : decode cX9_breakAt 37 = .ok (.goto 12, 3) := by decide +kernel
theorem dX9_breakAt_40 : decode cX9_breakAt 40 = .ok (.iload_n 2, 1) := by decide +kernel
theorem dX9_breakAt_41 : decode cX9_breakAt 41 = .ok (.ifCond .ne 5, 3) := by decide +kernel
theorem dX9_breakAt_44 : decode cX9_breakAt 44 = .ok (.iload_n 3, 1) := by decide +kernel
theorem dX9_breakAt_45 : decode cX9_breakAt 45 = .ok (.ireturn, 1) := by decide +kernel
theorem dX9_breakAt_46 : decode cX9_breakAt 46 = .ok (.iinc 2 (-1), 3) := by decide +kernel
theorem dX9_breakAt_49 : decode cX9_breakAt 49 = .ok (.iinc 3 1, 3) := by decide +kernel
theorem dX9_breakAt_52 : decode cX9_breakAt 52 = .ok (.goto (-33), 3) := by decide +kernel
theorem dX9_breakAt_55 : decode cX9_breakAt 55 = .ok (.iconst (-1), 1) := by decide +kernel
theorem dX9_breakAt_56 : decode cX9_breakAt 56 = .ok (.ireturn, 1) := by decide +kernel
theorem dX9_breaks_0 : decode cX9_breaks 0 = .ok (.iconst 0, 1) := by decide +kernel
theorem dX9_breaks_1 : decode cX9_breaks 1 = .ok (.istore_n 1, 1) := by decide +kernel
theorem dX9_breaks_2 : decode cX9_breaks 2 = .ok (.iconst 1, 1) := by decide +kernel
theorem dX9_breaks_3 : decode cX9_breaks 3 = .ok (.istore_n 2, 1) := by decide +kernel
theorem dX9_breaks_4 : decode cX9_breaks 4 = .ok (.iload_n 2, 1) := by decide +kernel
theorem dX9_breaks_5 : decode cX9_breaks 5 = .ok (.aload_n 0, 1) := by decide +kernel
theorem dX9_breaks_6 : decode cX9_breaks 6 = .ok (.getfield 20, 3) := by decide +kernel
theorem dX9_breaks_9 : decode cX9_breaks 9 = .ok (.iconst 0, 1) := by decide +kernel
theorem dX9_breaks_10 : decode cX9_breaks 10 = .ok (.iaload, 1) := by decide +kernel
theorem dX9_breaks_11 : decode cX9_breaks 11 = .ok (.if_icmp .gt 20, 3) := by decide +kernel
theorem dX9_breaks_14 : decode cX9_breaks 14 = .ok (.iload_n 1, 1) := by decide +kernel
theorem dX9_breaks_15 : decode cX9_breaks 15 = .ok (.aload_n 0, 1) := by decide +kernel
theorem dX9_breaks_16 : decode cX9_breaks 16 = .ok (.iload_n 2, 1) := by decide +kernel
theorem dX9_breaks_17 : decode cX9_breaks 17 = .ok (.invokevirtual 245, 3) := by decide +kernel
theorem dX9_breaks_20 : decode cX9_breaks 20 = .ok (.invokestatic 115, 3) := by decide +kernel
theorem dX9_breaks_23 : decode cX9_breaks 23 = .ok (.iadd, 1) := by decide +kernel
theorem dX9_breaks_24 : decode cX9_breaks 24 = .ok (.istore_n 1, 1) := by decide +kernel
theorem dX9_breaks_25 : decode cX9_breaks 25 = .ok (.iinc 2 1, 3) := by decide +kernel
theorem dX9_breaks_28 : decode cX9_breaks 28 = .ok (.goto (-24), 3) := by decide +kernel
theorem dX9_breaks_31 : decode cX9_breaks 31 = .ok (.iload_n 1, 1) := by decide +kernel
theorem dX9_breaks_32 : decode cX9_breaks 32 = .ok (.ireturn, 1) := by decide +kernel
theorem dX9_bufferName_0 : decode cX9_bufferName 0 = .ok (.lconst 0, 1) := by decide +kernel
theorem dX9_bufferName_1 : decode cX9_bufferName 1 = .ok (.lstore_n 1, 1) := by decide +kernel
theorem dX9_bufferName_2 : decode cX9_bufferName 2 = .ok (.aload_n 0, 1) := by decide +kernel
theorem dX9_bufferName_3 : decode cX9_bufferName 3 = .ok (.getfield 119, 3) := by decide +kernel
theorem dX9_bufferName_6 : decode cX9_bufferName 6 = .ok (.i2l, 1) := by decide +kernel
theorem dX9_bufferName_7 : decode cX9_bufferName 7 = .ok (.lconst 1, 1) := by decide +kernel
theorem dX9_bufferName_8 : decode cX9_bufferName 8 = .ok (.ldc2_w 450, 3) := by decide +kernel
theorem dX9_bufferName_11 : decode cX9_bufferName 11 = .ok (.invokestatic 130, 3) := by decide +kernel
theorem dX9_bufferName_14 : decode cX9_bufferName 14 = .ok (.istore_n 3, 1) := by decide +kernel
theorem dX9_bufferName_15 : decode cX9_bufferName 15 = .ok (.iconst 0, 1) := by decide +kernel
theorem dX9_bufferName_16 : decode cX9_bufferName 16 = .ok (.istore 4, 2) := by decide +kernel
theorem dX9_bufferName_18 : decode cX9_bufferName 18 = .ok (.iload 4, 2) := by decide +kernel
theorem dX9_bufferName_20 : decode cX9_bufferName 20 = .ok (.aload_n 0, 1) := by decide +kernel
theorem dX9_bufferName_21 : decode cX9_bufferName 21 = .ok (.getfield 119, 3) := by decide +kernel
theorem dX9_bufferName_24 : decode cX9_bufferName 24 = .ok (.if_icmp .ge 50, 3) := by decide +kernel
theorem dX9_bufferName_27 : decode cX9_bufferName 27 = .ok (.iload_n 3, 1) := by decide +kernel
theorem dX9_bufferName_28 : decode cX9_bufferName 28 = .ok (.ifCond .eq 46, 3) := by decide +kernel
theorem dX9_bufferName_31 : decode cX9_bufferName 31 = .ok (.aload_n 0, 1) := by decide +kernel
theorem dX9_bufferName_32 : decode cX9_bufferName 32 = .ok (.getfield 7, 3) := by decide +kernel
theorem dX9_bufferName_35 : decode cX9_bufferName 35 = .ok (.iload 4, 2) := by decide +kernel
theorem dX9_bufferName_37 : decode cX9_bufferName 37 = .ok (.iaload, 1) := by decide +kernel
theorem dX9_bufferName_38 : decode cX9_bufferName 38 = .ok (.i2l, 1) := by decide +kernel
theorem dX9_bufferName_39 : decode cX9_bufferName 39 = .ok (.ldc2_w 452, 3) := by decide +kernel
theorem dX9_bufferName_42 : decode cX9_bufferName 42 = .ok (.ldc2_w 454, 3) := by decide +kernel
theorem dX9_bufferName_45 : decode cX9_bufferName 45 = .ok (.invokestatic 130, 3) := by decide +kernel
theorem dX9_bufferName_48 : decode cX9_bufferName 48 = .ok (.istore_n 3, 1) := by decide +kernel
theorem dX9_bufferName_49 : decode cX9_bufferName 49 = .ok (.ldc2_w 456, 3) := by decide +kernel
theorem dX9_bufferName_52 : decode cX9_bufferName 52 = .ok (.lload_n 1, 1) := by decide +kernel
theorem dX9_bufferName_53 : decode cX9_bufferName 53 = .ok (.lmul, 1) := by decide +kernel
theorem dX9_bufferName_54 : decode cX9_bufferName 54 = .ok (.aload_n 0, 1) := by decide +kernel
theorem dX9_bufferName_55 : decode cX9_bufferName 55 = .ok (.getfield 7, 3) := by decide +kernel
theorem dX9_bufferName_58 : decode cX9_bufferName 58 = .ok (.iload 4, 2) := by decide +kernel
theorem dX9_bufferName_60 : decode cX9_bufferName 60 = .ok (.iaload, 1) := by decide +kernel
theorem dX9_bufferName_61 : decode cX9_bufferName 61 = .ok (.i2l, 1) := by decide +kernel
theorem dX9_bufferName_62 : decode cX9_bufferName 62 = .ok (.ladd, 1) := by decide +kernel
theorem dX9_bufferName_63 : decode cX9_bufferName 63 = .ok (.ldc2_w 458, 3) := by decide +kernel
theorem dX9_bufferName_66 : decode cX9_bufferName 66 = .ok (.lsub, 1) := by decide +kernel
theorem dX9_bufferName_67 : decode cX9_bufferName 67 = .ok (.lstore_n 1, 1) := by decide +kernel
theorem dX9_bufferName_68 : decode cX9_bufferName 68 = .ok (.iinc 4 1, 3) := by decide +kernel
theorem dX9_bufferName_71 : decode cX9_bufferName 71 = .ok (.goto (-53), 3) := by decide +kernel
theorem dX9_bufferName_74 : decode cX9_bufferName 74 = .ok (.iload_n 3, 1) := by decide +kernel
theorem dX9_bufferName_75 : decode cX9_bufferName 75 = .ok (.ifCond .eq 7, 3) := by decide +kernel
theorem dX9_bufferName_78 : decode cX9_bufferName 78 = .ok (.lload_n 1, 1) := by decide +kernel
theorem dX9_bufferName_79 : decode cX9_bufferName 79 = .ok (.goto 4, 3) := by decide +kernel
theorem dX9_bufferName_82 : decode cX9_bufferName 82 = .ok (.lconst 0, 1) := by decide +kernel
theorem dX9_bufferName_83 : decode cX9_bufferName 83 = .ok (.lreturn, 1) := by decide +kernel
theorem dX9_car_0 : decode cX9_car 0 = .ok (.aload_n 0, 1) := by decide +kernel
theorem dX9_car_1 : decode cX9_car 1 = .ok (.aload_n 0, 1) := by decide +kernel
theorem dX9_car_2 : decode cX9_car 2 = .ok (.iload_n 1, 1) := by decide +kernel
theorem dX9_car_3 : decode cX9_car 3 = .ok (.invokevirtual 325, 3) := by decide +kernel
theorem dX9_car_6 : decode cX9_car 6 = .ok (.iload_n 2, 1) := by decide +kernel
theorem dX9_car_7 : decode cX9_car 7 = .ok (.i2l, 1) := by decide +kernel
theorem dX9_car_8 : decode cX9_car 8 = .ok (.lconst 0, 1) := by decide +kernel
theorem dX9_car_9 : decode cX9_car 9 = .ok (.ldc2_w 332, 3) := by decide +kernel
theorem dX9_car_12 : decode cX9_car 12 = .ok (.invokestatic 130, 3) := by decide +kernel
theorem dX9_car_15 : decode cX9_car 15 = .ok (.invokevirtual 334, 3) := by decide +kernel
theorem dX9_car_18 : decode cX9_car 18 = .ok (.ifCond .ne 5, 3) := by decide +kernel
theorem dX9_car_21 : decode cX9_car 21 = .ok (.iconst 0, 1) := by decide +kernel
theorem dX9_car_22 : decode cX9_car 22 = .ok (.ireturn, 1) := by decide +kernel
theorem dX9_car_23 : decode cX9_car 23 = .ok (.aload_n 0, 1) := by decide +kernel
theorem dX9_car_24 : decode cX9_car 24 = .ok (.aload_n 0, 1) := by decide +kernel
theorem dX9_car_25 : decode cX9_car 25 = .ok (.getfield 20, 3) := by decide +kernel
theorem dX9_car_28 : decode cX9_car 28 = .ok (.iconst 0, 1) := by decide +kernel
theorem dX9_car_29 : decode cX9_car 29 = .ok (.iaload, 1) := by decide +kernel
theorem dX9_car_30 : decode cX9_car 30 = .ok (.invokevirtual 230, 3) := by decide +kernel
theorem dX9_car_33 : decode cX9_car 33 = .ok (.iload_n 2, 1) := by decide +kernel
theorem dX9_car_34 : decode cX9_car 34 = .ok (.tableswitch 78 0 4 #[34, 40, 47, 54, 72], 34) := by decide +kernel
theorem dX9_car_68 : decode cX9_car 68 = .ok (.aload_n 0, 1) := by decide +kernel
theorem dX9_car_69 : decode cX9_car 69 = .ok (.iload_n 1, 1) := by decide +kernel
theorem dX9_car_70 : decode cX9_car 70 = .ok (.invokevirtual 221, 3) := by decide +kernel
theorem dX9_car_73 : decode cX9_car 73 = .ok (.ireturn, 1) := by decide +kernel
theorem dX9_car_74 : decode cX9_car 74 = .ok (.aload_n 0, 1) := by decide +kernel
theorem dX9_car_75 : decode cX9_car 75 = .ok (.getfield 57, 3) := by decide +kernel
theorem dX9_car_78 : decode cX9_car 78 = .ok (.iload_n 1, 1) := by decide +kernel
theorem dX9_car_79 : decode cX9_car 79 = .ok (.iaload, 1) := by decide +kernel
theorem dX9_car_80 : decode cX9_car 80 = .ok (.ireturn, 1) := by decide +kernel
theorem dX9_car_81 : decode cX9_car 81 = .ok (.aload_n 0, 1) := by decide +kernel
theorem dX9_car_82 : decode cX9_car 82 = .ok (.getfield 60, 3) := by decide +kernel
theorem dX9_car_85 : decode cX9_car 85 = .ok (.iload_n 1, 1) := by decide +kernel
theorem dX9_car_86 : decode cX9_car 86 = .ok (.iaload, 1) := by decide +kernel
theorem dX9_car_87 : decode cX9_car 87 = .ok (.ireturn, 1) := by decide +kernel
theorem dX9_car_88 : decode cX9_car 88 = .ok (.aload_n 0, 1) := by decide +kernel
theorem dX9_car_89 : decode cX9_car 89 = .ok (.getfield 60, 3) := by decide +kernel
theorem dX9_car_92 : decode cX9_car 92 = .ok (.iload_n 1, 1) := by decide +kernel
theorem dX9_car_93 : decode cX9_car 93 = .ok (.iaload, 1) := by decide +kernel
theorem dX9_car_94 : decode cX9_car 94 = .ok (.ifCond .ne 7, 3) := by decide +kernel
theorem dX9_car_97 : decode cX9_car 97 = .ok (.iconst 1, 1) := by decide +kernel
theorem dX9_car_98 : decode cX9_car 98 = .ok (.goto 4, 3) := by decide +kernel
theorem dX9_car_101 : decode cX9_car 101 = .ok (.iconst 0, 1) := by decide +kernel
theorem dX9_car_102 : decode cX9_car 102 = .ok (.invokestatic 115, 3) := by decide +kernel
theorem dX9_car_105 : decode cX9_car 105 = .ok (.ireturn, 1) := by decide +kernel
theorem dX9_car_106 : decode cX9_car 106 = .ok (.aload_n 0, 1) := by decide +kernel
theorem dX9_car_107 : decode cX9_car 107 = .ok (.iload_n 1, 1) := by decide +kernel
theorem dX9_car_108 : decode cX9_car 108 = .ok (.invokevirtual 338, 3) := by decide +kernel
theorem dX9_car_111 : decode cX9_car 111 = .ok (.ireturn, 1) := by decide +kernel
theorem dX9_car_112 : decode cX9_car 112 = .ok (.aload_n 0, 1) := by decide +kernel
theorem dX9_car_113 : decode cX9_car 113 = .ok (.iload_n 1, 1) := by decide +kernel
theorem dX9_car_114 : decode cX9_car 114 = .ok (.aload_n 0, 1) := by decide +kernel
theorem dX9_car_115 : decode cX9_car 115 = .ok (.invokevirtual 233, 3) := by decide +kernel
theorem dX9_car_118 : decode cX9_car 118 = .ok (.invokevirtual 236, 3) := by decide +kernel
theorem dX9_car_121 : decode cX9_car 121 = .ok (.ireturn, 1) := by decide +kernel
theorem dX9_carLine_0 : decode cX9_carLine 0 = .ok (.aload_n 0, 1) := by decide +kernel
theorem dX9_carLine_1 : decode cX9_carLine 1 = .ok (.invokevirtual 167, 3) := by decide +kernel
theorem dX9_carLine_4 : decode cX9_carLine 4 = .ok (.ifCond .eq 18, 3) := by decide +kernel
theorem dX9_carLine_7 : decode cX9_carLine 7 = .ok (.aload_n 0, 1) := by decide +kernel
theorem dX9_carLine_8 : decode cX9_carLine 8 = .ok (.ldc2_w 258, 3) := by decide +kernel
theorem dX9_carLine_11 : decode cX9_carLine 11 = .ok (.invokevirtual 180, 3) := by decide +kernel
theorem dX9_carLine_14 : decode cX9_carLine 14 = .ok (.ifCond .ne 8, 3) := by decide +kernel
theorem dX9_carLine_17 : decode cX9_carLine 17 = .ok (.aload_n 0, 1) := by decide +kernel
theorem dX9_carLine_18 : decode cX9_carLine 18 = .ok (.iconst 1, 1) := by decide +kernel
theorem dX9_carLine_19 : decode cX9_carLine 19 = .ok (.invokevirtual 174, 3) := by decide +kernel
theorem dX9_carLine_22 : decode cX9_carLine 22 = .ok (.aload_n 0, 1) := by decide +kernel
theorem dX9_carLine_23 : decode cX9_carLine 23 = .ok (.invokevirtual 167, 3) := by decide +kernel
theorem dX9_carLine_26 : decode cX9_carLine 26 = .ok (.ifCond .eq 18, 3) := by decide +kernel
theorem dX9_carLine_29 : decode cX9_carLine 29 = .ok (.aload_n 0, 1) := by decide +kernel
theorem dX9_carLine_30 : decode cX9_carLine 30 = .ok (.getfield 20, 3) := by decide +kernel
theorem dX9_carLine_33 : decode cX9_carLine 33 = .ok (.iconst 0, 1) := by decide +kernel
theorem dX9_carLine_34 : decode cX9_carLine 34 = .ok (.iaload, 1) := by decide +kernel
theorem dX9_carLine_35 : decode cX9_carLine 35 = .ok (.iload_n 1, 1) := by decide +kernel
theorem dX9_carLine_36 : decode cX9_carLine 36 = .ok (.if_icmp .ne 8, 3) := by decide +kernel
theorem dX9_carLine_39 : decode cX9_carLine 39 = .ok (.aload_n 0, 1) := by decide +kernel
theorem dX9_carLine_40 : decode cX9_carLine 40 = .ok (.iconst 5, 1) := by decide +kernel
theorem dX9_carLine_41 : decode cX9_carLine 41 = .ok (.invokevirtual 174, 3) := by decide +kernel
theorem dX9_carLine_44 : decode cX9_carLine 44 = .ok (.aload_n 0, 1) := by decide +kernel
theorem dX9_carLine_45 : decode cX9_carLine 45 = .ok (.invokevirtual 167, 3) := by decide +kernel
theorem dX9_carLine_48 : decode cX9_carLine 48 = .ok (.ifCond .eq 7, 3) := by decide +kernel
theorem dX9_carLine_51 : decode cX9_carLine 51 = .ok (.aload_n 0, 1) := by decide +kernel
theorem dX9_carLine_52 : decode cX9_carLine 52 = .ok (.invokevirtual 177, 3) := by decide +kernel
theorem dX9_carLine_55 : decode cX9_carLine 55 = .ok (.aload_n 0, 1) := by decide +kernel
theorem dX9_carLine_56 : decode cX9_carLine 56 = .ok (.invokevirtual 255, 3) := by decide +kernel
theorem dX9_carLine_59 : decode cX9_carLine 59 = .ok (.aload_n 0, 1) := by decide +kernel
theorem dX9_carLine_60 : decode cX9_carLine 60 = .ok (.invokevirtual 167, 3) := by decide +kernel
theorem dX9_carLine_63 : decode cX9_carLine 63 = .ok (.ifCond .eq 20, 3) := by decide +kernel
theorem dX9_carLine_66 : decode cX9_carLine 66 = .ok (.aload_n 0, 1) := by decide +kernel
theorem dX9_carLine_67 : decode cX9_carLine 67 = .ok (.aload_n 0, 1) := by decide +kernel
theorem dX9_carLine_68 : decode cX9_carLine 68 = .ok (.getfield 147, 3) := by decide +kernel
theorem dX9_carLine_71 : decode cX9_carLine 71 = .ok (.invokevirtual 260, 3) := by decide +kernel
theorem dX9_carLine_74 : decode cX9_carLine 74 = .ok (.iconst (-1), 1) := by decide +kernel
theorem dX9_carLine_75 : decode cX9_carLine 75 = .ok (.if_icmp .eq 8, 3) := by decide +kernel
theorem dX9_carLine_78 : decode cX9_carLine 78 = .ok (.aload_n 0, 1) := by decide +kernel
theorem dX9_carLine_79 : decode cX9_carLine 79 = .ok (.iconst 3, 1) := by decide +kernel
theorem dX9_carLine_80 : decode cX9_carLine 80 = .ok (.invokevirtual 174, 3) := by decide +kernel
theorem dX9_carLine_83 : decode cX9_carLine 83 = .ok (.aload_n 0, 1) := by decide +kernel
theorem dX9_carLine_84 : decode cX9_carLine 84 = .ok (.invokevirtual 264, 3) := by decide +kernel
theorem dX9_carLine_87 : decode cX9_carLine 87 = .ok (.lstore_n 2, 1) := by decide +kernel
theorem dX9_carLine_88 : decode cX9_carLine 88 = .ok (.aload_n 0, 1) := by decide +kernel
theorem dX9_carLine_89 : decode cX9_carLine 89 = .ok (.iconst 0, 1) := by decide +kernel
theorem dX9_carLine_90 : decode cX9_carLine 90 = .ok (.iload_n 1, 1) := by decide +kernel
theorem dX9_carLine_91 : decode cX9_carLine 91 = .ok (.invokevirtual 268, 3) := by decide +kernel
theorem dX9_carLine_94 : decode cX9_carLine 94 = .ok (.istore 4, 2) := by decide +kernel
theorem dX9_carLine_96 : decode cX9_carLine 96 = .ok (.aload_n 0, 1) := by decide +kernel
theorem dX9_carLine_97 : decode cX9_carLine 97 = .ok (.invokevirtual 167, 3) := by decide +kernel
theorem dX9_carLine_100 : decode cX9_carLine 100 = .ok (.ifCond .ne 4, 3) := by decide +kernel
theorem dX9_carLine_103 : decode cX9_carLine 103 = .ok (.return_, 1) := by decide +kernel
theorem dX9_carLine_104 : decode cX9_carLine 104 = .ok (.aload_n 0, 1) := by decide +kernel
theorem dX9_carLine_105 : decode cX9_carLine 105 = .ok (.getfield 35, 3) := by decide +kernel
theorem dX9_carLine_108 : decode cX9_carLine 108 = .ok (.aload_n 0, 1) := by decide +kernel
theorem dX9_carLine_109 : decode cX9_carLine 109 = .ok (.getfield 20, 3) := by decide +kernel
theorem dX9_carLine_112 : decode cX9_carLine 112 = .ok (.iconst 0, 1) := by decide +kernel
theorem dX9_carLine_113 : decode cX9_carLine 113 = .ok (.iaload, 1) := by decide +kernel
theorem dX9_carLine_114 : decode cX9_carLine 114 = .ok (.lload_n 2, 1) := by decide +kernel
theorem dX9_carLine_115 : decode cX9_carLine 115 = .ok (.lastore, 1) := by decide +kernel
theorem dX9_carLine_116 : decode cX9_carLine 116 = .ok (.aload_n 0, 1) := by decide +kernel
theorem dX9_carLine_117 : decode cX9_carLine 117 = .ok (.getfield 20, 3) := by decide +kernel
theorem dX9_carLine_120 : decode cX9_carLine 120 = .ok (.iconst 2, 1) := by decide +kernel
theorem dX9_carLine_121 : decode cX9_carLine 121 = .ok (.aload_n 0, 1) := by decide +kernel
theorem dX9_carLine_122 : decode cX9_carLine 122 = .ok (.getfield 20, 3) := by decide +kernel
theorem dX9_carLine_125 : decode cX9_carLine 125 = .ok (.iconst 0, 1) := by decide +kernel
theorem dX9_carLine_126 : decode cX9_carLine 126 = .ok (.iaload, 1) := by decide +kernel
theorem dX9_carLine_127 : decode cX9_carLine 127 = .ok (.iadd, 1) := by decide +kernel
theorem dX9_carLine_128 : decode cX9_carLine 128 = .ok (.iload 4, 2) := by decide +kernel
theorem dX9_carLine_130 : decode cX9_carLine 130 = .ok (.iastore, 1) := by decide +kernel
theorem dX9_carLine_131 : decode cX9_carLine 131 = .ok (.aload_n 0, 1) := by decide +kernel
theorem dX9_carLine_132 : decode cX9_carLine 132 = .ok (.getfield 20, 3) := by decide +kernel
theorem dX9_carLine_135 : decode cX9_carLine 135 = .ok (.iconst 0, 1) := by decide +kernel
theorem dX9_carLine_136 : decode cX9_carLine 136 = .ok (.dup2, 1) := by decide +kernel
theorem dX9_carLine_137 : decode cX9_carLine 137 = .ok (.iaload, 1) := by decide +kernel
theorem dX9_carLine_138 : decode cX9_carLine 138 = .ok (.iconst 1, 1) := by decide +kernel
theorem dX9_carLine_139 : decode cX9_carLine 139 = .ok (.iadd, 1) := by decide +kernel
theorem dX9_carLine_140 : decode cX9_carLine 140 = .ok (.iastore, 1) := by decide +kernel
theorem dX9_carLine_141 : decode cX9_carLine 141 = .ok (.return_, 1) := by decide +kernel
theorem dX9_carNamed_0 : decode cX9_carNamed 0 = .ok (.iconst 0, 1) := by decide +kernel
theorem dX9_carNamed_1 : decode cX9_carNamed 1 = .ok (.istore_n 3, 1) := by decide +kernel
theorem dX9_carNamed_2 : decode cX9_carNamed 2 = .ok (.iload_n 3, 1) := by decide +kernel
theorem dX9_carNamed_3 : decode cX9_carNamed 3 = .ok (.aload_n 0, 1) := by decide +kernel
theorem dX9_carNamed_4 : decode cX9_carNamed 4 = .ok (.getfield 20, 3) := by decide +kernel
theorem dX9_carNamed_7 : decode cX9_carNamed 7 = .ok (.iconst 0, 1) := by decide +kernel
theorem dX9_carNamed_8 : decode cX9_carNamed 8 = .ok (.iaload, 1) := by decide +kernel
theorem dX9_carNamed_9 : decode cX9_carNamed 9 = .ok (.if_icmp .ge 22, 3) := by decide +kernel
theorem dX9_carNamed_12 : decode cX9_carNamed 12 = .ok (.aload_n 0, 1) := by decide +kernel
theorem dX9_carNamed_13 : decode cX9_carNamed 13 = .ok (.getfield 35, 3) := by decide +kernel
theorem dX9_carNamed_16 : decode cX9_carNamed 16 = .ok (.iload_n 3, 1) := by decide +kernel
theorem dX9_carNamed_17 : decode cX9_carNamed 17 = .ok (.laload, 1) := by decide +kernel
theorem dX9_carNamed_18 : decode cX9_carNamed 18 = .ok (.lload_n 1, 1) := by decide +kernel
theorem dX9_carNamed_19 : decode cX9_carNamed 19 = .ok (.lcmp, 1) := by decide +kernel
theorem dX9_carNamed_20 : decode cX9_carNamed 20 = .ok (.ifCond .ne 5, 3) := by decide +kernel
theorem dX9_carNamed_23 : decode cX9_carNamed 23 = .ok (.iload_n 3, 1) := by decide +kernel
theorem dX9_carNamed_24 : decode cX9_carNamed 24 = .ok (.ireturn, 1) := by decide +kernel
theorem dX9_carNamed_25 : decode cX9_carNamed 25 = .ok (.iinc 3 1, 3) := by decide +kernel
theorem dX9_carNamed_28 : decode cX9_carNamed 28 = .ok (.goto (-26), 3) := by decide +kernel
theorem dX9_carNamed_31 : decode cX9_carNamed 31 = .ok (.iconst (-1), 1) := by decide +kernel
theorem dX9_carNamed_32 : decode cX9_carNamed 32 = .ok (.ireturn, 1) := by decide +kernel
theorem dX9_changesPlaces_0 : decode cX9_changesPlaces 0 = .ok (.aload_n 0, 1) := by decide +kernel
theorem dX9_changesPlaces_1 : decode cX9_changesPlaces 1 = .ok (.iload_n 1, 1) := by decide +kernel
theorem dX9_changesPlaces_2 : decode cX9_changesPlaces 2 = .ok (.invokevirtual 221, 3) := by decide +kernel
theorem dX9_changesPlaces_5 : decode cX9_changesPlaces 5 = .ok (.istore_n 3, 1) := by decide +kernel
theorem dX9_changesPlaces_6 : decode cX9_changesPlaces 6 = .ok (.aload_n 0, 1) := by decide +kernel
theorem dX9_changesPlaces_7 : decode cX9_changesPlaces 7 = .ok (.getfield 35, 3) := by decide +kernel
theorem dX9_changesPlaces_10 : decode cX9_changesPlaces 10 = .ok (.iload_n 1, 1) := by decide +kernel
theorem dX9_changesPlaces_11 : decode cX9_changesPlaces 11 = .ok (.laload, 1) := by decide +kernel
theorem dX9_changesPlaces_12 : decode cX9_changesPlaces 12 = .ok (.lstore 4, 2) := by decide +kernel
theorem dX9_changesPlaces_14 : decode cX9_changesPlaces 14 = .ok (.aload_n 0, 1) := by decide +kernel
theorem dX9_changesPlaces_15 : decode cX9_changesPlaces 15 = .ok (.getfield 20, 3) := by decide +kernel
theorem dX9_changesPlaces_18 : decode cX9_changesPlaces 18 = .ok (.iconst 2, 1) := by decide +kernel
theorem dX9_changesPlaces_19 : decode cX9_changesPlaces 19 = .ok (.iload_n 1, 1) := by decide +kernel
theorem dX9_changesPlaces_20 : decode cX9_changesPlaces 20 = .ok (.iadd, 1) := by decide +kernel
theorem dX9_changesPlaces_21 : decode cX9_changesPlaces 21 = .ok (.aload_n 0, 1) := by decide +kernel
theorem dX9_changesPlaces_22 : decode cX9_changesPlaces 22 = .ok (.iload_n 2, 1) := by decide +kernel
theorem dX9_changesPlaces_23 : decode cX9_changesPlaces 23 = .ok (.invokevirtual 221, 3) := by decide +kernel
theorem dX9_changesPlaces_26 : decode cX9_changesPlaces 26 = .ok (.iastore, 1) := by decide +kernel
theorem dX9_changesPlaces_27 : decode cX9_changesPlaces 27 = .ok (.aload_n 0, 1) := by decide +kernel
theorem dX9_changesPlaces_28 : decode cX9_changesPlaces 28 = .ok (.getfield 35, 3) := by decide +kernel
theorem dX9_changesPlaces_31 : decode cX9_changesPlaces 31 = .ok (.iload_n 1, 1) := by decide +kernel
theorem dX9_changesPlaces_32 : decode cX9_changesPlaces 32 = .ok (.aload_n 0, 1) := by decide +kernel
theorem dX9_changesPlaces_33 : decode cX9_changesPlaces 33 = .ok (.getfield 35, 3) := by decide +kernel
theorem dX9_changesPlaces_36 : decode cX9_changesPlaces 36 = .ok (.iload_n 2, 1) := by decide +kernel
theorem dX9_changesPlaces_37 : decode cX9_changesPlaces 37 = .ok (.laload, 1) := by decide +kernel
theorem dX9_changesPlaces_38 : decode cX9_changesPlaces 38 = .ok (.lastore, 1) := by decide +kernel
theorem dX9_changesPlaces_39 : decode cX9_changesPlaces 39 = .ok (.aload_n 0, 1) := by decide +kernel
theorem dX9_changesPlaces_40 : decode cX9_changesPlaces 40 = .ok (.getfield 20, 3) := by decide +kernel
theorem dX9_changesPlaces_43 : decode cX9_changesPlaces 43 = .ok (.iconst 2, 1) := by decide +kernel
theorem dX9_changesPlaces_44 : decode cX9_changesPlaces 44 = .ok (.iload_n 2, 1) := by decide +kernel
theorem dX9_changesPlaces_45 : decode cX9_changesPlaces 45 = .ok (.iadd, 1) := by decide +kernel
theorem dX9_changesPlaces_46 : decode cX9_changesPlaces 46 = .ok (.iload_n 3, 1) := by decide +kernel
theorem dX9_changesPlaces_47 : decode cX9_changesPlaces 47 = .ok (.iastore, 1) := by decide +kernel
theorem dX9_changesPlaces_48 : decode cX9_changesPlaces 48 = .ok (.aload_n 0, 1) := by decide +kernel
theorem dX9_changesPlaces_49 : decode cX9_changesPlaces 49 = .ok (.getfield 35, 3) := by decide +kernel
theorem dX9_changesPlaces_52 : decode cX9_changesPlaces 52 = .ok (.iload_n 2, 1) := by decide +kernel
theorem dX9_changesPlaces_53 : decode cX9_changesPlaces 53 = .ok (.lload 4, 2) := by decide +kernel
theorem dX9_changesPlaces_55 : decode cX9_changesPlaces 55 = .ok (.lastore, 1) := by decide +kernel
theorem dX9_changesPlaces_56 : decode cX9_changesPlaces 56 = .ok (.return_, 1) := by decide +kernel
theorem dX9_clears_0 : decode cX9_clears 0 = .ok (.iconst 0, 1) := by decide +kernel
theorem dX9_clears_1 : decode cX9_clears 1 = .ok (.istore_n 1, 1) := by decide +kernel
theorem dX9_clears_2 : decode cX9_clears 2 = .ok (.iload_n 1, 1) := by decide +kernel
theorem dX9_clears_3 : decode cX9_clears 3 = .ok (.bipush 13, 2) := by decide +kernel
theorem dX9_clears_5 : decode cX9_clears 5 = .ok (.if_icmp .ge 16, 3) := by decide +kernel
theorem dX9_clears_8 : decode cX9_clears 8 = .ok (.aload_n 0, 1) := by decide +kernel
theorem dX9_clears_9 : decode cX9_clears 9 = .ok (.getfield 20, 3) := by decide +kernel
theorem dX9_clears_12 : decode cX9_clears 12 = .ok (.iload_n 1, 1) := by decide +kernel
theorem dX9_clears_13 : decode cX9_clears 13 = .ok (.iconst 0, 1) := by decide +kernel
theorem dX9_clears_14 : decode cX9_clears 14 = .ok (.iastore, 1) := by decide +kernel
theorem dX9_clears_15 : decode cX9_clears 15 = .ok (.iinc 1 1, 3) := by decide +kernel
theorem dX9_clears_18 : decode cX9_clears 18 = .ok (.goto (-16), 3) := by decide +kernel
theorem dX9_clears_21 : decode cX9_clears 21 = .ok (.return_, 1) := by decide +kernel
theorem dX9_closes_0 : decode cX9_closes 0 = .ok (.aload_n 0, 1) := by decide +kernel
theorem dX9_closes_1 : decode cX9_closes 1 = .ok (.getfield 505, 3) := by decide +kernel
theorem dX9_closes_4 : decode cX9_closes 4 = .ok (.ifCond .le 56, 3) := by decide +kernel
theorem dX9_closes_7 : decode cX9_closes 7 = .ok (.aload_n 0, 1) := by decide +kernel
theorem dX9_closes_8 : decode cX9_closes 8 = .ok (.bipush 41, 2) := by decide +kernel
theorem dX9_closes_10 : decode cX9_closes 10 = .ok (.invokevirtual 171, 3) := by decide +kernel
theorem dX9_closes_13 : decode cX9_closes 13 = .ok (.ifCond .eq 47, 3) := by decide +kernel
theorem dX9_closes_16 : decode cX9_closes 16 = .ok (.aload_n 0, 1) := by decide +kernel
theorem dX9_closes_17 : decode cX9_closes 17 = .ok (.dup, 1) := by decide +kernel
theorem dX9_closes_18 : decode cX9_closes 18 = .ok (.getfield 505, 3) := by decide +kernel
theorem dX9_closes_21 : decode cX9_closes 21 = .ok (.iconst 1, 1) := by decide +kernel
theorem dX9_closes_22 : decode cX9_closes 22 = .ok (.isub, 1) := by decide +kernel
theorem dX9_closes_23 : decode cX9_closes 23 = .ok (.putfield 505, 3) := by decide +kernel
theorem dX9_closes_26 : decode cX9_closes 26 = .ok (.aload_n 0, 1) := by decide +kernel
theorem dX9_closes_27 : decode cX9_closes 27 = .ok (.getfield 91, 3) := by decide +kernel
theorem dX9_closes_30 : decode cX9_closes 30 = .ok (.aload_n 0, 1) := by decide +kernel
theorem dX9_closes_31 : decode cX9_closes 31 = .ok (.getfield 511, 3) := by decide +kernel
theorem dX9_closes_34 : decode cX9_closes 34 = .ok (.bipush 9, 2) := by decide +kernel
theorem dX9_closes_36 : decode cX9_closes 36 = .ok (.iastore, 1) := by decide +kernel
theorem dX9_closes_37 : decode cX9_closes 37 = .ok (.aload_n 0, 1) := by decide +kernel
theorem dX9_closes_38 : decode cX9_closes 38 = .ok (.dup, 1) := by decide +kernel
theorem dX9_closes_39 : decode cX9_closes 39 = .ok (.getfield 511, 3) := by decide +kernel
theorem dX9_closes_42 : decode cX9_closes 42 = .ok (.iconst 1, 1) := by decide +kernel
theorem dX9_closes_43 : decode cX9_closes 43 = .ok (.iadd, 1) := by decide +kernel
theorem dX9_closes_44 : decode cX9_closes 44 = .ok (.putfield 511, 3) := by decide +kernel
theorem dX9_closes_47 : decode cX9_closes 47 = .ok (.aload_n 0, 1) := by decide +kernel
theorem dX9_closes_48 : decode cX9_closes 48 = .ok (.invokevirtual 177, 3) := by decide +kernel
theorem dX9_closes_51 : decode cX9_closes 51 = .ok (.aload_n 0, 1) := by decide +kernel
theorem dX9_closes_52 : decode cX9_closes 52 = .ok (.bipush 59, 2) := by decide +kernel
theorem dX9_closes_54 : decode cX9_closes 54 = .ok (.invokevirtual 283, 3) := by decide +kernel
theorem dX9_closes_57 : decode cX9_closes 57 = .ok (.goto (-57), 3) := by decide +kernel
theorem dX9_closes_60 : decode cX9_closes 60 = .ok (.return_, 1) := by decide +kernel
theorem dX9_code_0 : decode cX9_code 0 = .ok (.aload_n 0, 1) := by decide +kernel
theorem dX9_code_1 : decode cX9_code 1 = .ok (.iconst 0, 1) := by decide +kernel
theorem dX9_code_2 : decode cX9_code 2 = .ok (.putfield 112, 3) := by decide +kernel
theorem dX9_code_5 : decode cX9_code 5 = .ok (.iload_n 1, 1) := by decide +kernel
theorem dX9_code_6 : decode cX9_code 6 = .ok (.i2l, 1) := by decide +kernel
theorem dX9_code_7 : decode cX9_code 7 = .ok (.lconst 0, 1) := by decide +kernel
theorem dX9_code_8 : decode cX9_code 8 = .ok (.aload_n 0, 1) := by decide +kernel
theorem dX9_code_9 : decode cX9_code 9 = .ok (.invokevirtual 369, 3) := by decide +kernel
theorem dX9_code_12 : decode cX9_code 12 = .ok (.iconst 1, 1) := by decide +kernel
theorem dX9_code_13 : decode cX9_code 13 = .ok (.isub, 1) := by decide +kernel
theorem dX9_code_14 : decode cX9_code 14 = .ok (.i2l, 1) := by decide +kernel
theorem dX9_code_15 : decode cX9_code 15 = .ok (.invokestatic 130, 3) := by decide +kernel
theorem dX9_code_18 : decode cX9_code 18 = .ok (.ifCond .eq 11, 3) := by decide +kernel
theorem dX9_code_21 : decode cX9_code 21 = .ok (.aload_n 0, 1) := by decide +kernel
theorem dX9_code_22 : decode cX9_code 22 = .ok (.iload_n 1, 1) := by decide +kernel
theorem dX9_code_23 : decode cX9_code 23 = .ok (.invokevirtual 372, 3) := by decide +kernel
theorem dX9_code_26 : decode cX9_code 26 = .ok (.goto 4, 3) := by decide +kernel
theorem dX9_code_29 : decode cX9_code 29 = .ok (.iconst (-1), 1) := by decide +kernel
theorem dX9_code_30 : decode cX9_code 30 = .ok (.ireturn, 1) := by decide +kernel
theorem dX9_codeAt_0 : decode cX9_codeAt 0 = .ok (.aload_n 0, 1) := by decide +kernel
theorem dX9_codeAt_1 : decode cX9_codeAt 1 = .ok (.aload_n 0, 1) := by decide +kernel
theorem dX9_codeAt_2 : decode cX9_codeAt 2 = .ok (.iload_n 1, 1) := by decide +kernel
theorem dX9_codeAt_3 : decode cX9_codeAt 3 = .ok (.iconst 1, 1) := by decide +kernel
theorem dX9_codeAt_4 : decode cX9_codeAt 4 = .ok (.iadd, 1) := by decide +kernel
theorem dX9_codeAt_5 : decode cX9_codeAt 5 = .ok (.invokevirtual 221, 3) := by decide +kernel
theorem dX9_codeAt_8 : decode cX9_codeAt 8 = .ok (.aload_n 0, 1) := by decide +kernel
theorem dX9_codeAt_9 : decode cX9_codeAt 9 = .ok (.iload_n 1, 1) := by decide +kernel
theorem dX9_codeAt_10 : decode cX9_codeAt 10 = .ok (.invokevirtual 221, 3) := by decide +kernel
theorem dX9_codeAt_13 : decode cX9_codeAt 13 = .ok (.isub, 1) := by decide +kernel
theorem dX9_codeAt_14 : decode cX9_codeAt 14 = .ok (.invokevirtual 218, 3) := by decide +kernel
theorem dX9_codeAt_17 : decode cX9_codeAt 17 = .ok (.ireturn, 1) := by decide +kernel
theorem dX9_codeGap_0 : decode cX9_codeGap 0 = .ok (.aload_n 0, 1) := by decide +kernel
theorem dX9_codeGap_1 : decode cX9_codeGap 1 = .ok (.iconst 0, 1) := by decide +kernel
theorem dX9_codeGap_2 : decode cX9_codeGap 2 = .ok (.putfield 112, 3) := by decide +kernel
theorem dX9_codeGap_5 : decode cX9_codeGap 5 = .ok (.aload_n 0, 1) := by decide +kernel
theorem dX9_codeGap_6 : decode cX9_codeGap 6 = .ok (.invokevirtual 382, 3) := by decide +kernel
theorem dX9_codeGap_9 : decode cX9_codeGap 9 = .ok (.iconst 0, 1) := by decide +kernel
theorem dX9_codeGap_10 : decode cX9_codeGap 10 = .ok (.istore_n 1, 1) := by decide +kernel
theorem dX9_codeGap_11 : decode cX9_codeGap 11 = .ok (.iload_n 1, 1) := by decide +kernel
theorem dX9_codeGap_12 : decode cX9_codeGap 12 = .ok (.aload_n 0, 1) := by decide +kernel
theorem dX9_codeGap_13 : decode cX9_codeGap 13 = .ok (.getfield 363, 3) := by decide +kernel
theorem dX9_codeGap_16 : decode cX9_codeGap 16 = .ok (.if_icmp .ge 16, 3) := by decide +kernel
theorem dX9_codeGap_19 : decode cX9_codeGap 19 = .ok (.aload_n 0, 1) := by decide +kernel
theorem dX9_codeGap_20 : decode cX9_codeGap 20 = .ok (.getfield 88, 3) := by decide +kernel
theorem dX9_codeGap_23 : decode cX9_codeGap 23 = .ok (.iload_n 1, 1) := by decide +kernel
theorem dX9_codeGap_24 : decode cX9_codeGap 24 = .ok (.iconst 0, 1) := by decide +kernel
theorem dX9_codeGap_25 : decode cX9_codeGap 25 = .ok (.bastore, 1) := by decide +kernel
theorem dX9_codeGap_26 : decode cX9_codeGap 26 = .ok (.iinc 1 1, 3) := by decide +kernel
theorem dX9_codeGap_29 : decode cX9_codeGap 29 = .ok (.goto (-18), 3) := by decide +kernel
theorem dX9_codeGap_32 : decode cX9_codeGap 32 = .ok (.iconst 0, 1) := by decide +kernel
theorem dX9_codeGap_33 : decode cX9_codeGap 33 = .ok (.istore_n 1, 1) := by decide +kernel
theorem dX9_codeGap_34 : decode cX9_codeGap 34 = .ok (.iconst 0, 1) := by decide +kernel
theorem dX9_codeGap_35 : decode cX9_codeGap 35 = .ok (.istore_n 2, 1) := by decide +kernel
theorem dX9_codeGap_36 : decode cX9_codeGap 36 = .ok (.iload_n 2, 1) := by decide +kernel
theorem dX9_codeGap_37 : decode cX9_codeGap 37 = .ok (.aload_n 0, 1) := by decide +kernel
theorem dX9_codeGap_38 : decode cX9_codeGap 38 = .ok (.invokevirtual 369, 3) := by decide +kernel
theorem dX9_codeGap_41 : decode cX9_codeGap 41 = .ok (.if_icmp .ge 77, 3) := by decide +kernel
theorem dX9_codeGap_44 : decode cX9_codeGap 44 = .ok (.aload_n 0, 1) := by decide +kernel
theorem dX9_codeGap_45 : decode cX9_codeGap 45 = .ok (.invokevirtual 397, 3) := by decide +kernel
theorem dX9_codeGap_48 : decode cX9_codeGap 48 = .ok (.istore_n 3, 1) := by decide +kernel
theorem dX9_codeGap_49 : decode cX9_codeGap 49 = .ok (.aload_n 0, 1) := by decide +kernel
theorem dX9_codeGap_50 : decode cX9_codeGap 50 = .ok (.iload_n 3, 1) := by decide +kernel
theorem dX9_codeGap_51 : decode cX9_codeGap 51 = .ok (.invokevirtual 400, 3) := by decide +kernel
theorem dX9_codeGap_54 : decode cX9_codeGap 54 = .ok (.istore 4, 2) := by decide +kernel
theorem dX9_codeGap_56 : decode cX9_codeGap 56 = .ok (.aload_n 0, 1) := by decide +kernel
theorem dX9_codeGap_57 : decode cX9_codeGap 57 = .ok (.getfield 81, 3) := by decide +kernel
theorem dX9_codeGap_60 : decode cX9_codeGap 60 = .ok (.iload_n 2, 1) := by decide +kernel
theorem dX9_codeGap_61 : decode cX9_codeGap 61 = .ok (.aload_n 0, 1) := by decide +kernel
theorem dX9_codeGap_62 : decode cX9_codeGap 62 = .ok (.getfield 72, 3) := by decide +kernel
theorem dX9_codeGap_65 : decode cX9_codeGap 65 = .ok (.iload 4, 2) := by decide +kernel
theorem dX9_codeGap_67 : decode cX9_codeGap 67 = .ok (.iaload, 1) := by decide +kernel
theorem dX9_codeGap_68 : decode cX9_codeGap 68 = .ok (.aload_n 0, 1) := by decide +kernel
theorem dX9_codeGap_69 : decode cX9_codeGap 69 = .ok (.getfield 75, 3) := by decide +kernel
theorem dX9_codeGap_72 : decode cX9_codeGap 72 = .ok (.iload 4, 2) := by decide +kernel
theorem dX9_codeGap_74 : decode cX9_codeGap 74 = .ok (.iaload, 1) := by decide +kernel
theorem dX9_codeGap_75 : decode cX9_codeGap 75 = .ok (.iadd, 1) := by decide +kernel
theorem dX9_codeGap_76 : decode cX9_codeGap 76 = .ok (.iload_n 3, 1) := by decide +kernel
theorem dX9_codeGap_77 : decode cX9_codeGap 77 = .ok (.isub, 1) := by decide +kernel
theorem dX9_codeGap_78 : decode cX9_codeGap 78 = .ok (.iastore, 1) := by decide +kernel
theorem dX9_codeGap_79 : decode cX9_codeGap 79 = .ok (.aload_n 0, 1) := by decide +kernel
theorem dX9_codeGap_80 : decode cX9_codeGap 80 = .ok (.getfield 88, 3) := by decide +kernel
theorem dX9_codeGap_83 : decode cX9_codeGap 83 = .ok (.iload 4, 2) := by decide +kernel
theorem dX9_codeGap_85 : decode cX9_codeGap 85 = .ok (.iconst 1, 1) := by decide +kernel
theorem dX9_codeGap_86 : decode cX9_codeGap 86 = .ok (.bastore, 1) := by decide +kernel
theorem dX9_codeGap_87 : decode cX9_codeGap 87 = .ok (.iload_n 1, 1) := by decide +kernel
theorem dX9_codeGap_88 : decode cX9_codeGap 88 = .ok (.aload_n 0, 1) := by decide +kernel
theorem dX9_codeGap_89 : decode cX9_codeGap 89 = .ok (.getfield 81, 3) := by decide +kernel
theorem dX9_codeGap_92 : decode cX9_codeGap 92 = .ok (.iload_n 2, 1) := by decide +kernel
theorem dX9_codeGap_93 : decode cX9_codeGap 93 = .ok (.iaload, 1) := by decide +kernel
theorem dX9_codeGap_94 : decode cX9_codeGap 94 = .ok (.aload_n 0, 1) := by decide +kernel
theorem dX9_codeGap_95 : decode cX9_codeGap 95 = .ok (.iload_n 2, 1) := by decide +kernel
theorem dX9_codeGap_96 : decode cX9_codeGap 96 = .ok (.invokevirtual 372, 3) := by decide +kernel
theorem dX9_codeGap_99 : decode cX9_codeGap 99 = .ok (.if_icmp .eq 7, 3) := by decide +kernel
theorem dX9_codeGap_102 : decode cX9_codeGap 102 = .ok (.iconst 1, 1) := by decide +kernel
theorem dX9_codeGap_103 : decode cX9_codeGap 103 = .ok (.goto 4, 3) := by decide +kernel
theorem dX9_codeGap_106 : decode cX9_codeGap 106 = .ok (.iconst 0, 1) := by decide +kernel
theorem dX9_codeGap_107 : decode cX9_codeGap 107 = .ok (.invokestatic 115, 3) := by decide +kernel
theorem dX9_codeGap_110 : decode cX9_codeGap 110 = .ok (.iadd, 1) := by decide +kernel
theorem dX9_codeGap_111 : decode cX9_codeGap 111 = .ok (.istore_n 1, 1) := by decide +kernel
theorem dX9_codeGap_112 : decode cX9_codeGap 112 = .ok (.iinc 2 1, 3) := by decide +kernel
theorem dX9_codeGap_115 : decode cX9_codeGap 115 = .ok (.goto (-79), 3) := by decide +kernel
theorem dX9_codeGap_118 : decode cX9_codeGap 118 = .ok (.iload_n 1, 1) := by decide +kernel
theorem dX9_codeGap_119 : decode cX9_codeGap 119 = .ok (.ireturn, 1) := by decide +kernel
theorem dX9_codes_0 : decode cX9_codes 0 = .ok (.aload_n 0, 1) := by decide +kernel
theorem dX9_codes_1 : decode cX9_codes 1 = .ok (.getfield 20, 3) := by decide +kernel
theorem dX9_codes_4 : decode cX9_codes 4 = .ok (.iconst 0, 1) := by decide +kernel
theorem dX9_codes_5 : decode cX9_codes 5 = .ok (.iaload, 1) := by decide +kernel
theorem dX9_codes_6 : decode cX9_codes 6 = .ok (.iconst 1, 1) := by decide +kernel
theorem dX9_codes_7 : decode cX9_codes 7 = .ok (.if_icmp .le 14, 3) := by decide +kernel
theorem dX9_codes_10 : decode cX9_codes 10 = .ok (.aload_n 0, 1) := by decide +kernel
theorem dX9_codes_11 : decode cX9_codes 11 = .ok (.getfield 20, 3) := by decide +kernel
theorem dX9_codes_14 : decode cX9_codes 14 = .ok (.iconst 0, 1) := by decide +kernel
theorem dX9_codes_15 : decode cX9_codes 15 = .ok (.iaload, 1) := by decide +kernel
theorem dX9_codes_16 : decode cX9_codes 16 = .ok (.iconst 1, 1) := by decide +kernel
theorem dX9_codes_17 : decode cX9_codes 17 = .ok (.isub, 1) := by decide +kernel
theorem dX9_codes_18 : decode cX9_codes 18 = .ok (.goto 4, 3) := by decide +kernel
theorem dX9_codes_21 : decode cX9_codes 21 = .ok (.iconst 0, 1) := by decide +kernel
theorem dX9_codes_22 : decode cX9_codes 22 = .ok (.ireturn, 1) := by decide +kernel
theorem dX9_come_0 : decode cX9_come 0 = .ok (.aload_n 0, 1) := by decide +kernel
theorem dX9_come_1 : decode cX9_come 1 = .ok (.aload_n 0, 1) := by decide +kernel
theorem dX9_come_2 : decode cX9_come 2 = .ok (.iload_n 1, 1) := by decide +kernel
theorem dX9_come_3 : decode cX9_come 3 = .ok (.invokevirtual 460, 3) := by decide +kernel
theorem dX9_come_6 : decode cX9_come 6 = .ok (.invokevirtual 122, 3) := by decide +kernel
theorem dX9_come_9 : decode cX9_come 9 = .ok (.ifCond .eq 18, 3) := by decide +kernel
theorem dX9_come_12 : decode cX9_come 12 = .ok (.aload_n 0, 1) := by decide +kernel
theorem dX9_come_13 : decode cX9_come 13 = .ok (.aload_n 0, 1) := by decide +kernel
theorem dX9_come_14 : decode cX9_come 14 = .ok (.aload_n 0, 1) := by decide +kernel
theorem dX9_come_15 : decode cX9_come 15 = .ok (.invokevirtual 463, 3) := by decide +kernel
theorem dX9_come_18 : decode cX9_come 18 = .ok (.invokevirtual 466, 3) := by decide +kernel
theorem dX9_come_21 : decode cX9_come 21 = .ok (.invokevirtual 433, 3) := by decide +kernel
theorem dX9_come_24 : decode cX9_come 24 = .ok (.ifCond .eq 5, 3) := by decide +kernel
theorem dX9_come_27 : decode cX9_come 27 = .ok (.iconst 0, 1) := by decide +kernel
theorem dX9_come_28 : decode cX9_come 28 = .ok (.ireturn, 1) := by decide +kernel
theorem dX9_come_29 : decode cX9_come 29 = .ok (.aload_n 0, 1) := by decide +kernel
theorem dX9_come_30 : decode cX9_come 30 = .ok (.invokevirtual 271, 3) := by decide +kernel
theorem dX9_come_33 : decode cX9_come 33 = .ok (.aload_n 0, 1) := by decide +kernel
theorem dX9_come_34 : decode cX9_come 34 = .ok (.aload_n 0, 1) := by decide +kernel
theorem dX9_come_35 : decode cX9_come 35 = .ok (.invokevirtual 463, 3) := by decide +kernel
theorem dX9_come_38 : decode cX9_come 38 = .ok (.iload_n 1, 1) := by decide +kernel
theorem dX9_come_39 : decode cX9_come 39 = .ok (.invokevirtual 469, 3) := by decide +kernel
theorem dX9_come_42 : decode cX9_come 42 = .ok (.istore_n 2, 1) := by decide +kernel
theorem dX9_come_43 : decode cX9_come 43 = .ok (.aload_n 0, 1) := by decide +kernel
theorem dX9_come_44 : decode cX9_come 44 = .ok (.iconst 0, 1) := by decide +kernel
theorem dX9_come_45 : decode cX9_come 45 = .ok (.putfield 119, 3) := by decide +kernel
theorem dX9_come_48 : decode cX9_come 48 = .ok (.aload_n 0, 1) := by decide +kernel
theorem dX9_come_49 : decode cX9_come 49 = .ok (.iload_n 2, 1) := by decide +kernel
theorem dX9_come_50 : decode cX9_come 50 = .ok (.invokevirtual 427, 3) := by decide +kernel
theorem dX9_come_53 : decode cX9_come 53 = .ok (.ifCond .le 7, 3) := by decide +kernel
theorem dX9_come_56 : decode cX9_come 56 = .ok (.iconst 1, 1) := by decide +kernel
theorem dX9_come_57 : decode cX9_come 57 = .ok (.goto 4, 3) := by decide +kernel
theorem dX9_come_60 : decode cX9_come 60 = .ok (.iconst 0, 1) := by decide +kernel
theorem dX9_come_61 : decode cX9_come 61 = .ok (.ireturn, 1) := by decide +kernel
theorem dX9_comes_0 : decode cX9_comes 0 = .ok (.aload_n 0, 1) := by decide +kernel
theorem dX9_comes_1 : decode cX9_comes 1 = .ok (.getfield 35, 3) := by decide +kernel
theorem dX9_comes_4 : decode cX9_comes 4 = .ok (.aload_n 0, 1) := by decide +kernel
theorem dX9_comes_5 : decode cX9_comes 5 = .ok (.getfield 20, 3) := by decide +kernel
theorem dX9_comes_8 : decode cX9_comes 8 = .ok (.iconst 0, 1) := by decide +kernel
theorem dX9_comes_9 : decode cX9_comes 9 = .ok (.iaload, 1) := by decide +kernel
theorem dX9_comes_10 : decode cX9_comes 10 = .ok (.lload_n 1, 1) := by decide +kernel
theorem dX9_comes_11 : decode cX9_comes 11 = .ok (.lastore, 1) := by decide +kernel
theorem dX9_comes_12 : decode cX9_comes 12 = .ok (.aload_n 0, 1) := by decide +kernel
theorem dX9_comes_13 : decode cX9_comes 13 = .ok (.getfield 20, 3) := by decide +kernel
theorem dX9_comes_16 : decode cX9_comes 16 = .ok (.iconst 2, 1) := by decide +kernel
theorem dX9_comes_17 : decode cX9_comes 17 = .ok (.aload_n 0, 1) := by decide +kernel
theorem dX9_comes_18 : decode cX9_comes 18 = .ok (.getfield 20, 3) := by decide +kernel
theorem dX9_comes_21 : decode cX9_comes 21 = .ok (.iconst 0, 1) := by decide +kernel
theorem dX9_comes_22 : decode cX9_comes 22 = .ok (.iaload, 1) := by decide +kernel
theorem dX9_comes_23 : decode cX9_comes 23 = .ok (.iadd, 1) := by decide +kernel
theorem dX9_comes_24 : decode cX9_comes 24 = .ok (.iload_n 3, 1) := by decide +kernel
theorem dX9_comes_25 : decode cX9_comes 25 = .ok (.iastore, 1) := by decide +kernel
theorem dX9_comes_26 : decode cX9_comes 26 = .ok (.aload_n 0, 1) := by decide +kernel
theorem dX9_comes_27 : decode cX9_comes 27 = .ok (.getfield 20, 3) := by decide +kernel
theorem dX9_comes_30 : decode cX9_comes 30 = .ok (.iconst 0, 1) := by decide +kernel
theorem dX9_comes_31 : decode cX9_comes 31 = .ok (.dup2, 1) := by decide +kernel
theorem dX9_comes_32 : decode cX9_comes 32 = .ok (.iaload, 1) := by decide +kernel
theorem dX9_comes_33 : decode cX9_comes 33 = .ok (.iconst 1, 1) := by decide +kernel
theorem dX9_comes_34 : decode cX9_comes 34 = .ok (.iadd, 1) := by decide +kernel
theorem dX9_comes_35 : decode cX9_comes 35 = .ok (.iastore, 1) := by decide +kernel
theorem dX9_comes_36 : decode cX9_comes 36 = .ok (.aload_n 0, 1) := by decide +kernel
theorem dX9_comes_37 : decode cX9_comes 37 = .ok (.getfield 51, 3) := by decide +kernel
theorem dX9_comes_40 : decode cX9_comes 40 = .ok (.iconst 2, 1) := by decide +kernel
theorem dX9_comes_41 : decode cX9_comes 41 = .ok (.dup2, 1) := by decide +kernel
theorem dX9_comes_42 : decode cX9_comes 42 = .ok (.iaload, 1) := by decide +kernel
theorem dX9_comes_43 : decode cX9_comes 43 = .ok (.iconst 1, 1) := by decide +kernel
theorem dX9_comes_44 : decode cX9_comes 44 = .ok (.iadd, 1) := by decide +kernel
theorem dX9_comes_45 : decode cX9_comes 45 = .ok (.iastore, 1) := by decide +kernel
theorem dX9_comes_46 : decode cX9_comes 46 = .ok (.aload_n 0, 1) := by decide +kernel
theorem dX9_comes_47 : decode cX9_comes 47 = .ok (.aload_n 0, 1) := by decide +kernel
theorem dX9_comes_48 : decode cX9_comes 48 = .ok (.getfield 20, 3) := by decide +kernel
theorem dX9_comes_51 : decode cX9_comes 51 = .ok (.iconst 0, 1) := by decide +kernel
theorem dX9_comes_52 : decode cX9_comes 52 = .ok (.iaload, 1) := by decide +kernel
theorem dX9_comes_53 : decode cX9_comes 53 = .ok (.invokevirtual 421, 3) := by decide +kernel
theorem dX9_comes_56 : decode cX9_comes 56 = .ok (.ireturn, 1) := by decide +kernel
theorem dX9_command_0 : decode cX9_command 0 = .ok (.aload_n 0, 1) := by decide +kernel
theorem dX9_command_1 : decode cX9_command 1 = .ok (.invokevirtual 502, 3) := by decide +kernel
theorem dX9_command_4 : decode cX9_command 4 = .ok (.istore_n 1, 1) := by decide +kernel
theorem dX9_command_5 : decode cX9_command 5 = .ok (.iload_n 1, 1) := by decide +kernel
theorem dX9_command_6 : decode cX9_command 6 = .ok (.iconst (-1), 1) := by decide +kernel
theorem dX9_command_7 : decode cX9_command 7 = .ok (.if_icmp .ne 8, 3) := by decide +kernel
theorem dX9_command_10 : decode cX9_command 10 = .ok (.aload_n 0, 1) := by decide +kernel
theorem dX9_command_11 : decode cX9_command 11 = .ok (.iconst 1, 1) := by decide +kernel
theorem dX9_command_12 : decode cX9_command 12 = .ok (.invokevirtual 174, 3) := by decide +kernel
theorem dX9_command_15 : decode cX9_command 15 = .ok (.iload_n 1, 1) := by decide +kernel
theorem dX9_command_16 : decode cX9_command 16 = .ok (.bipush 8, 2) := by decide +kernel
theorem dX9_command_18 : decode cX9_command 18 = .ok (.if_icmp .ne 16, 3) := by decide +kernel
theorem dX9_command_21 : decode cX9_command 21 = .ok (.aload_n 0, 1) := by decide +kernel
theorem dX9_command_22 : decode cX9_command 22 = .ok (.getfield 505, 3) := by decide +kernel
theorem dX9_command_25 : decode cX9_command 25 = .ok (.iconst 2, 1) := by decide +kernel
theorem dX9_command_26 : decode cX9_command 26 = .ok (.if_icmp .ne 8, 3) := by decide +kernel
theorem dX9_command_29 : decode cX9_command 29 = .ok (.aload_n 0, 1) := by decide +kernel
theorem dX9_command_30 : decode cX9_command 30 = .ok (.iconst 3, 1) := by decide +kernel
theorem dX9_command_31 : decode cX9_command 31 = .ok (.invokevirtual 174, 3) := by decide +kernel
theorem dX9_command_34 : decode cX9_command 34 = .ok (.aload_n 0, 1) := by decide +kernel
theorem dX9_command_35 : decode cX9_command 35 = .ok (.getfield 508, 3) := by decide +kernel
theorem dX9_command_38 : decode cX9_command 38 = .ok (.bipush 30, 2) := by decide +kernel
theorem dX9_command_40 : decode cX9_command 40 = .ok (.if_icmp .ne 8, 3) := by decide +kernel
theorem dX9_command_43 : decode cX9_command 43 = .ok (.aload_n 0, 1) := by decide +kernel
theorem dX9_command_44 : decode cX9_command 44 = .ok (.iconst 5, 1) := by decide +kernel
theorem dX9_command_45 : decode cX9_command 45 = .ok (.invokevirtual 174, 3) := by decide +kernel
theorem dX9_command_48 : decode cX9_command 48 = .ok (.aload_n 0, 1) := by decide +kernel
theorem dX9_command_49 : decode cX9_command 49 = .ok (.invokevirtual 167, 3) := by decide +kernel
theorem dX9_command_52 : decode cX9_command 52 = .ok (.ifCond .ne 4, 3) := by decide +kernel
theorem dX9_command_55 : decode cX9_command 55 = .ok (.return_, 1) := by decide +kernel
theorem dX9_command_56 : decode cX9_command 56 = .ok (.aload_n 0, 1) := by decide +kernel
theorem dX9_command_57 : decode cX9_command 57 = .ok (.dup, 1) := by decide +kernel
theorem dX9_command_58 : decode cX9_command 58 = .ok (.getfield 508, 3) := by decide +kernel
theorem dX9_command_61 : decode cX9_command 61 = .ok (.iconst 1, 1) := by decide +kernel
theorem dX9_command_62 : decode cX9_command 62 = .ok (.iadd, 1) := by decide +kernel
theorem dX9_command_63 : decode cX9_command 63 = .ok (.putfield 508, 3) := by decide +kernel
theorem dX9_command_66 : decode cX9_command 66 = .ok (.aload_n 0, 1) := by decide +kernel
theorem dX9_command_67 : decode cX9_command 67 = .ok (.invokevirtual 177, 3) := by decide +kernel
theorem dX9_command_70 : decode cX9_command 70 = .ok (.aload_n 0, 1) := by decide +kernel
theorem dX9_command_71 : decode cX9_command 71 = .ok (.getfield 511, 3) := by decide +kernel
theorem dX9_command_74 : decode cX9_command 74 = .ok (.istore_n 2, 1) := by decide +kernel
theorem dX9_command_75 : decode cX9_command 75 = .ok (.aload_n 0, 1) := by decide +kernel
theorem dX9_command_76 : decode cX9_command 76 = .ok (.getfield 91, 3) := by decide +kernel
theorem dX9_command_79 : decode cX9_command 79 = .ok (.iload_n 2, 1) := by decide +kernel
theorem dX9_command_80 : decode cX9_command 80 = .ok (.iload_n 1, 1) := by decide +kernel
theorem dX9_command_81 : decode cX9_command 81 = .ok (.iastore, 1) := by decide +kernel
theorem dX9_command_82 : decode cX9_command 82 = .ok (.aload_n 0, 1) := by decide +kernel
theorem dX9_command_83 : decode cX9_command 83 = .ok (.iload_n 2, 1) := by decide +kernel
theorem dX9_command_84 : decode cX9_command 84 = .ok (.iload_n 1, 1) := by decide +kernel
theorem dX9_command_85 : decode cX9_command 85 = .ok (.invokevirtual 514, 3) := by decide +kernel
theorem dX9_command_88 : decode cX9_command 88 = .ok (.aload_n 0, 1) := by decide +kernel
theorem dX9_command_89 : decode cX9_command 89 = .ok (.invokevirtual 167, 3) := by decide +kernel
theorem dX9_command_92 : decode cX9_command 92 = .ok (.ifCond .ne 4, 3) := by decide +kernel
theorem dX9_command_95 : decode cX9_command 95 = .ok (.return_, 1) := by decide +kernel
theorem dX9_command_96 : decode cX9_command 96 = .ok (.aload_n 0, 1) := by decide +kernel
theorem dX9_command_97 : decode cX9_command 97 = .ok (.dup, 1) := by decide +kernel
theorem dX9_command_98 : decode cX9_command 98 = .ok (.getfield 511, 3) := by decide +kernel
theorem dX9_command_101 : decode cX9_command 101 = .ok (.iconst 1, 1) := by decide +kernel
theorem dX9_command_102 : decode cX9_command 102 = .ok (.iadd, 1) := by decide +kernel
theorem dX9_command_103 : decode cX9_command 103 = .ok (.putfield 511, 3) := by decide +kernel
theorem dX9_command_106 : decode cX9_command 106 = .ok (.aload_n 0, 1) := by decide +kernel
theorem dX9_command_107 : decode cX9_command 107 = .ok (.dup, 1) := by decide +kernel
theorem dX9_command_108 : decode cX9_command 108 = .ok (.getfield 505, 3) := by decide +kernel
theorem dX9_command_111 : decode cX9_command 111 = .ok (.iload_n 1, 1) := by decide +kernel
theorem dX9_command_112 : decode cX9_command 112 = .ok (.bipush 8, 2) := by decide +kernel
theorem dX9_command_114 : decode cX9_command 114 = .ok (.if_icmp .ne 7, 3) := by decide +kernel
theorem dX9_command_117 : decode cX9_command 117 = .ok (.iconst 1, 1) := by decide +kernel
theorem dX9_command_118 : decode cX9_command 118 = .ok (.goto 4, 3) := by decide +kernel
theorem dX9_command_121 : decode cX9_command 121 = .ok (.iconst 0, 1) := by decide +kernel
theorem dX9_command_122 : decode cX9_command 122 = .ok (.invokestatic 115, 3) := by decide +kernel
theorem dX9_command_125 : decode cX9_command 125 = .ok (.iadd, 1) := by decide +kernel
theorem dX9_command_126 : decode cX9_command 126 = .ok (.putfield 505, 3) := by decide +kernel
theorem dX9_command_129 : decode cX9_command 129 = .ok (.return_, 1) := by decide +kernel
theorem dX9_commandHere_0 : decode cX9_commandHere 0 = .ok (.aload_n 0, 1) := by decide +kernel
theorem dX9_commandHere_1 : decode cX9_commandHere 1 = .ok (.ldc2_w 484, 3) := by decide +kernel
theorem dX9_commandHere_4 : decode cX9_commandHere 4 = .ok (.invokevirtual 180, 3) := by decide +kernel
theorem dX9_commandHere_7 : decode cX9_commandHere 7 = .ok (.ifCond .eq 5, 3) := by decide +kernel
theorem dX9_commandHere_10 : decode cX9_commandHere 10 = .ok (.iconst 0, 1) := by decide +kernel
theorem dX9_commandHere_11 : decode cX9_commandHere 11 = .ok (.ireturn, 1) := by decide +kernel
theorem dX9_commandHere_12 : decode cX9_commandHere 12 = .ok (.aload_n 0, 1) := by decide +kernel
theorem dX9_commandHere_13 : decode cX9_commandHere 13 = .ok (.ldc2_w 486, 3) := by decide +kernel
theorem dX9_commandHere_16 : decode cX9_commandHere 16 = .ok (.invokevirtual 180, 3) := by decide +kernel
theorem dX9_commandHere_19 : decode cX9_commandHere 19 = .ok (.ifCond .eq 5, 3) := by decide +kernel
theorem dX9_commandHere_22 : decode cX9_commandHere 22 = .ok (.iconst 1, 1) := by decide +kernel
theorem dX9_commandHere_23 : decode cX9_commandHere 23 = .ok (.ireturn, 1) := by decide +kernel
theorem dX9_commandHere_24 : decode cX9_commandHere 24 = .ok (.aload_n 0, 1) := by decide +kernel
theorem dX9_commandHere_25 : decode cX9_commandHere 25 = .ok (.ldc2_w 488, 3) := by decide +kernel
theorem dX9_commandHere_28 : decode cX9_commandHere 28 = .ok (.invokevirtual 180, 3) := by decide +kernel
theorem dX9_commandHere_31 : decode cX9_commandHere 31 = .ok (.ifCond .eq 5, 3) := by decide +kernel
theorem dX9_commandHere_34 : decode cX9_commandHere 34 = .ok (.iconst 2, 1) := by decide +kernel
theorem dX9_commandHere_35 : decode cX9_commandHere 35 = .ok (.ireturn, 1) := by decide +kernel
theorem dX9_commandHere_36 : decode cX9_commandHere 36 = .ok (.aload_n 0, 1) := by decide +kernel
theorem dX9_commandHere_37 : decode cX9_commandHere 37 = .ok (.ldc2_w 490, 3) := by decide +kernel
theorem dX9_commandHere_40 : decode cX9_commandHere 40 = .ok (.invokevirtual 180, 3) := by decide +kernel
theorem dX9_commandHere_43 : decode cX9_commandHere 43 = .ok (.ifCond .eq 5, 3) := by decide +kernel
theorem dX9_commandHere_46 : decode cX9_commandHere 46 = .ok (.iconst 3, 1) := by decide +kernel
theorem dX9_commandHere_47 : decode cX9_commandHere 47 = .ok (.ireturn, 1) := by decide +kernel
theorem dX9_commandHere_48 : decode cX9_commandHere 48 = .ok (.aload_n 0, 1) := by decide +kernel
theorem dX9_commandHere_49 : decode cX9_commandHere 49 = .ok (.ldc2_w 492, 3) := by decide +kernel
theorem dX9_commandHere_52 : decode cX9_commandHere 52 = .ok (.invokevirtual 180, 3) := by decide +kernel
theorem dX9_commandHere_55 : decode cX9_commandHere 55 = .ok (.ifCond .eq 5, 3) := by decide +kernel
theorem dX9_commandHere_58 : decode cX9_commandHere 58 = .ok (.iconst 4, 1) := by decide +kernel
theorem dX9_commandHere_59 : decode cX9_commandHere 59 = .ok (.ireturn, 1) := by decide +kernel
theorem dX9_commandHere_60 : decode cX9_commandHere 60 = .ok (.aload_n 0, 1) := by decide +kernel
theorem dX9_commandHere_61 : decode cX9_commandHere 61 = .ok (.ldc2_w 286, 3) := by decide +kernel
theorem dX9_commandHere_64 : decode cX9_commandHere 64 = .ok (.invokevirtual 180, 3) := by decide +kernel
theorem dX9_commandHere_67 : decode cX9_commandHere 67 = .ok (.ifCond .eq 5, 3) := by decide +kernel
theorem dX9_commandHere_70 : decode cX9_commandHere 70 = .ok (.iconst 5, 1) := by decide +kernel
theorem dX9_commandHere_71 : decode cX9_commandHere 71 = .ok (.ireturn, 1) := by decide +kernel
theorem dX9_commandHere_72 : decode cX9_commandHere 72 = .ok (.aload_n 0, 1) := by decide +kernel
theorem dX9_commandHere_73 : decode cX9_commandHere 73 = .ok (.ldc2_w 494, 3) := by decide +kernel
theorem dX9_commandHere_76 : decode cX9_commandHere 76 = .ok (.invokevirtual 180, 3) := by decide +kernel
theorem dX9_commandHere_79 : decode cX9_commandHere 79 = .ok (.ifCond .eq 6, 3) := by decide +kernel
theorem dX9_commandHere_82 : decode cX9_commandHere 82 = .ok (.bipush 6, 2) := by decide +kernel
theorem dX9_commandHere_84 : decode cX9_commandHere 84 = .ok (.ireturn, 1) := by decide +kernel
theorem dX9_commandHere_85 : decode cX9_commandHere 85 = .ok (.aload_n 0, 1) := by decide +kernel
theorem dX9_commandHere_86 : decode cX9_commandHere 86 = .ok (.ldc2_w 496, 3) := by decide +kernel
theorem dX9_commandHere_89 : decode cX9_commandHere 89 = .ok (.invokevirtual 180, 3) := by decide +kernel
theorem dX9_commandHere_92 : decode cX9_commandHere 92 = .ok (.ifCond .eq 6, 3) := by decide +kernel
theorem dX9_commandHere_95 : decode cX9_commandHere 95 = .ok (.bipush 7, 2) := by decide +kernel
theorem dX9_commandHere_97 : decode cX9_commandHere 97 = .ok (.ireturn, 1) := by decide +kernel
theorem dX9_commandHere_98 : decode cX9_commandHere 98 = .ok (.aload_n 0, 1) := by decide +kernel
theorem dX9_commandHere_99 : decode cX9_commandHere 99 = .ok (.ldc2_w 498, 3) := by decide +kernel
theorem dX9_commandHere_102 : decode cX9_commandHere 102 = .ok (.invokevirtual 180, 3) := by decide +kernel
theorem dX9_commandHere_105 : decode cX9_commandHere 105 = .ok (.ifCond .eq 8, 3) := by decide +kernel
theorem dX9_commandHere_108 : decode cX9_commandHere 108 = .ok (.bipush 8, 2) := by decide +kernel
theorem dX9_commandHere_110 : decode cX9_commandHere 110 = .ok (.goto 4, 3) := by decide +kernel
theorem dX9_commandHere_113 : decode cX9_commandHere 113 = .ok (.iconst (-1), 1) := by decide +kernel
theorem dX9_commandHere_114 : decode cX9_commandHere 114 = .ok (.ireturn, 1) := by decide +kernel
theorem dX9_copiesNames_0 : decode cX9_copiesNames 0 = .ok (.iconst 0, 1) := by decide +kernel
theorem dX9_copiesNames_1 : decode cX9_copiesNames 1 = .ok (.istore 4, 2) := by decide +kernel
theorem dX9_copiesNames_3 : decode cX9_copiesNames 3 = .ok (.iload 4, 2) := by decide +kernel
theorem dX9_copiesNames_5 : decode cX9_copiesNames 5 = .ok (.bipush 11, 2) := by decide +kernel
theorem dX9_copiesNames_7 : decode cX9_copiesNames 7 = .ok (.if_icmp .ge 21, 3) := by decide +kernel
theorem dX9_copiesNames_10 : decode cX9_copiesNames 10 = .ok (.aload_n 2, 1) := by decide +kernel
theorem dX9_copiesNames_11 : decode cX9_copiesNames 11 = .ok (.iload_n 3, 1) := by decide +kernel
theorem dX9_copiesNames_12 : decode cX9_copiesNames 12 = .ok (.iload 4, 2) := by decide +kernel
theorem dX9_copiesNames_14 : decode cX9_copiesNames 14 = .ok (.iadd, 1) := by decide +kernel
theorem dX9_copiesNames_15 : decode cX9_copiesNames 15 = .ok (.aload_n 0, 1) := by decide +kernel
theorem dX9_copiesNames_16 : decode cX9_copiesNames 16 = .ok (.iload_n 1, 1) := by decide +kernel
theorem dX9_copiesNames_17 : decode cX9_copiesNames 17 = .ok (.iload 4, 2) := by decide +kernel
theorem dX9_copiesNames_19 : decode cX9_copiesNames 19 = .ok (.iadd, 1) := by decide +kernel
theorem dX9_copiesNames_20 : decode cX9_copiesNames 20 = .ok (.laload, 1) := by decide +kernel
theorem dX9_copiesNames_21 : decode cX9_copiesNames 21 = .ok (.lastore, 1) := by decide +kernel
theorem dX9_copiesNames_22 : decode cX9_copiesNames 22 = .ok (.iinc 4 1, 3) := by decide +kernel
theorem dX9_copiesNames_25 : decode cX9_copiesNames 25 = .ok (.goto (-22), 3) := by decide +kernel
theorem dX9_copiesNames_28 : decode cX9_copiesNames 28 = .ok (.return_, 1) := by decide +kernel
theorem dX9_copiesRow_0 : decode cX9_copiesRow 0 = .ok (.iconst 0, 1) := by decide +kernel
theorem dX9_copiesRow_1 : decode cX9_copiesRow 1 = .ok (.istore 4, 2) := by decide +kernel
theorem dX9_copiesRow_3 : decode cX9_copiesRow 3 = .ok (.iload 4, 2) := by decide +kernel
theorem dX9_copiesRow_5 : decode cX9_copiesRow 5 = .ok (.bipush 13, 2) := by decide +kernel
theorem dX9_copiesRow_7 : decode cX9_copiesRow 7 = .ok (.if_icmp .ge 21, 3) := by decide +kernel
theorem dX9_copiesRow_10 : decode cX9_copiesRow 10 = .ok (.aload_n 2, 1) := by decide +kernel
theorem dX9_copiesRow_11 : decode cX9_copiesRow 11 = .ok (.iload_n 3, 1) := by decide +kernel
theorem dX9_copiesRow_12 : decode cX9_copiesRow 12 = .ok (.iload 4, 2) := by decide +kernel
theorem dX9_copiesRow_14 : decode cX9_copiesRow 14 = .ok (.iadd, 1) := by decide +kernel
theorem dX9_copiesRow_15 : decode cX9_copiesRow 15 = .ok (.aload_n 0, 1) := by decide +kernel
theorem dX9_copiesRow_16 : decode cX9_copiesRow 16 = .ok (.iload_n 1, 1) := by decide +kernel
theorem dX9_copiesRow_17 : decode cX9_copiesRow 17 = .ok (.iload 4, 2) := by decide +kernel
theorem dX9_copiesRow_19 : decode cX9_copiesRow 19 = .ok (.iadd, 1) := by decide +kernel
theorem dX9_copiesRow_20 : decode cX9_copiesRow 20 = .ok (.iaload, 1) := by decide +kernel
theorem dX9_copiesRow_21 : decode cX9_copiesRow 21 = .ok (.iastore, 1) := by decide +kernel
theorem dX9_copiesRow_22 : decode cX9_copiesRow 22 = .ok (.iinc 4 1, 3) := by decide +kernel
theorem dX9_copiesRow_25 : decode cX9_copiesRow 25 = .ok (.goto (-22), 3) := by decide +kernel
theorem dX9_copiesRow_28 : decode cX9_copiesRow 28 = .ok (.return_, 1) := by decide +kernel
theorem dX9_degree_0 : decode cX9_degree 0 = .ok (.aload_n 0, 1) := by decide +kernel
theorem dX9_degree_1 : decode cX9_degree 1 = .ok (.aload_n 0, 1) := by decide +kernel
theorem dX9_degree_2 : decode cX9_degree 2 = .ok (.iload_n 1, 1) := by decide +kernel
theorem dX9_degree_3 : decode cX9_degree 3 = .ok (.invokevirtual 341, 3) := by decide +kernel
theorem dX9_degree_6 : decode cX9_degree 6 = .ok (.invokevirtual 122, 3) := by decide +kernel
theorem dX9_degree_9 : decode cX9_degree 9 = .ok (.ifCond .ne 5, 3) := by decide +kernel
theorem dX9_degree_12 : decode cX9_degree 12 = .ok (.iconst 0, 1) := by decide +kernel
theorem dX9_degree_13 : decode cX9_degree 13 = .ok (.ireturn, 1) := by decide +kernel
theorem dX9_degree_14 : decode cX9_degree 14 = .ok (.aload_n 0, 1) := by decide +kernel
theorem dX9_degree_15 : decode cX9_degree 15 = .ok (.invokevirtual 382, 3) := by decide +kernel
theorem dX9_degree_18 : decode cX9_degree 18 = .ok (.aload_n 0, 1) := by decide +kernel
theorem dX9_degree_19 : decode cX9_degree 19 = .ok (.iload_n 1, 1) := by decide +kernel
theorem dX9_degree_20 : decode cX9_degree 20 = .ok (.invokevirtual 388, 3) := by decide +kernel
theorem dX9_degree_23 : decode cX9_degree 23 = .ok (.ireturn, 1) := by decide +kernel
theorem dX9_degreeOf_0 : decode cX9_degreeOf 0 = .ok (.iconst 0, 1) := by decide +kernel
theorem dX9_degreeOf_1 : decode cX9_degreeOf 1 = .ok (.istore_n 2, 1) := by decide +kernel
theorem dX9_degreeOf_2 : decode cX9_degreeOf 2 = .ok (.iconst 0, 1) := by decide +kernel
theorem dX9_degreeOf_3 : decode cX9_degreeOf 3 = .ok (.istore_n 3, 1) := by decide +kernel
theorem dX9_degreeOf_4 : decode cX9_degreeOf 4 = .ok (.iload_n 3, 1) := by decide +kernel
theorem dX9_degreeOf_5 : decode cX9_degreeOf 5 = .ok (.aload_n 0, 1) := by decide +kernel
theorem dX9_degreeOf_6 : decode cX9_degreeOf 6 = .ok (.getfield 363, 3) := by decide +kernel
theorem dX9_degreeOf_9 : decode cX9_degreeOf 9 = .ok (.if_icmp .ge 21, 3) := by decide +kernel
theorem dX9_degreeOf_12 : decode cX9_degreeOf 12 = .ok (.iload_n 2, 1) := by decide +kernel
theorem dX9_degreeOf_13 : decode cX9_degreeOf 13 = .ok (.aload_n 0, 1) := by decide +kernel
theorem dX9_degreeOf_14 : decode cX9_degreeOf 14 = .ok (.iload_n 3, 1) := by decide +kernel
theorem dX9_degreeOf_15 : decode cX9_degreeOf 15 = .ok (.iload_n 1, 1) := by decide +kernel
theorem dX9_degreeOf_16 : decode cX9_degreeOf 16 = .ok (.invokevirtual 385, 3) := by decide +kernel
theorem dX9_degreeOf_19 : decode cX9_degreeOf 19 = .ok (.invokestatic 115, 3) := by decide +kernel
theorem dX9_degreeOf_22 : decode cX9_degreeOf 22 = .ok (.iadd, 1) := by decide +kernel
theorem dX9_degreeOf_23 : decode cX9_degreeOf 23 = .ok (.istore_n 2, 1) := by decide +kernel
theorem dX9_degreeOf_24 : decode cX9_degreeOf 24 = .ok (.iinc 3 1, 3) := by decide +kernel
theorem dX9_degreeOf_27 : decode cX9_degreeOf 27 = .ok (.goto (-23), 3) := by decide +kernel
theorem dX9_degreeOf_30 : decode cX9_degreeOf 30 = .ok (.iload_n 2, 1) := by decide +kernel
theorem dX9_degreeOf_31 : decode cX9_degreeOf 31 = .ok (.ireturn, 1) := by decide +kernel
theorem dX9_descents_0 : decode cX9_descents 0 = .ok (.aload_n 0, 1) := by decide +kernel
theorem dX9_descents_1 : decode cX9_descents 1 = .ok (.iconst 0, 1) := by decide +kernel
theorem dX9_descents_2 : decode cX9_descents 2 = .ok (.putfield 112, 3) := by decide +kernel
theorem dX9_descents_5 : decode cX9_descents 5 = .ok (.iconst 0, 1) := by decide +kernel
theorem dX9_descents_6 : decode cX9_descents 6 = .ok (.istore_n 1, 1) := by decide +kernel
theorem dX9_descents_7 : decode cX9_descents 7 = .ok (.iconst 1, 1) := by decide +kernel
theorem dX9_descents_8 : decode cX9_descents 8 = .ok (.istore_n 2, 1) := by decide +kernel
theorem dX9_descents_9 : decode cX9_descents 9 = .ok (.iload_n 2, 1) := by decide +kernel
theorem dX9_descents_10 : decode cX9_descents 10 = .ok (.aload_n 0, 1) := by decide +kernel
theorem dX9_descents_11 : decode cX9_descents 11 = .ok (.getfield 20, 3) := by decide +kernel
theorem dX9_descents_14 : decode cX9_descents 14 = .ok (.iconst 0, 1) := by decide +kernel
theorem dX9_descents_15 : decode cX9_descents 15 = .ok (.iaload, 1) := by decide +kernel
theorem dX9_descents_16 : decode cX9_descents 16 = .ok (.if_icmp .ge 35, 3) := by decide +kernel
theorem dX9_descents_19 : decode cX9_descents 19 = .ok (.iload_n 1, 1) := by decide +kernel
theorem dX9_descents_20 : decode cX9_descents 20 = .ok (.aload_n 0, 1) := by decide +kernel
theorem dX9_descents_21 : decode cX9_descents 21 = .ok (.iload_n 2, 1) := by decide +kernel
theorem dX9_descents_22 : decode cX9_descents 22 = .ok (.invokevirtual 221, 3) := by decide +kernel
theorem dX9_descents_25 : decode cX9_descents 25 = .ok (.aload_n 0, 1) := by decide +kernel
theorem dX9_descents_26 : decode cX9_descents 26 = .ok (.iload_n 2, 1) := by decide +kernel
theorem dX9_descents_27 : decode cX9_descents 27 = .ok (.iconst 1, 1) := by decide +kernel
theorem dX9_descents_28 : decode cX9_descents 28 = .ok (.isub, 1) := by decide +kernel
theorem dX9_descents_29 : decode cX9_descents 29 = .ok (.invokevirtual 221, 3) := by decide +kernel
theorem dX9_descents_32 : decode cX9_descents 32 = .ok (.if_icmp .ge 7, 3) := by decide +kernel
theorem dX9_descents_35 : decode cX9_descents 35 = .ok (.iconst 1, 1) := by decide +kernel
theorem dX9_descents_36 : decode cX9_descents 36 = .ok (.goto 4, 3) := by decide +kernel
theorem dX9_descents_39 : decode cX9_descents 39 = .ok (.iconst 0, 1) := by decide +kernel
theorem dX9_descents_40 : decode cX9_descents 40 = .ok (.invokestatic 115, 3) := by decide +kernel
theorem dX9_descents_43 : decode cX9_descents 43 = .ok (.iadd, 1) := by decide +kernel
theorem dX9_descents_44 : decode cX9_descents 44 = .ok (.istore_n 1, 1) := by decide +kernel
theorem dX9_descents_45 : decode cX9_descents 45 = .ok (.iinc 2 1, 3) := by decide +kernel
theorem dX9_descents_48 : decode cX9_descents 48 = .ok (.goto (-39), 3) := by decide +kernel
theorem dX9_descents_51 : decode cX9_descents 51 = .ok (.iload_n 1, 1) := by decide +kernel
theorem dX9_descents_52 : decode cX9_descents 52 = .ok (.ireturn, 1) := by decide +kernel
theorem dX9_does_0 : decode cX9_does 0 = .ok (.aload_n 0, 1) := by decide +kernel
theorem dX9_does_1 : decode cX9_does 1 = .ok (.aload_n 0, 1) := by decide +kernel
theorem dX9_does_2 : decode cX9_does 2 = .ok (.getfield 103, 3) := by decide +kernel
theorem dX9_does_5 : decode cX9_does 5 = .ok (.iload_n 1, 1) := by decide +kernel
theorem dX9_does_6 : decode cX9_does 6 = .ok (.laload, 1) := by decide +kernel
theorem dX9_does_7 : decode cX9_does 7 = .ok (.invokevirtual 260, 3) := by decide +kernel
theorem dX9_does_10 : decode cX9_does 10 = .ok (.istore_n 2, 1) := by decide +kernel
theorem dX9_does_11 : decode cX9_does 11 = .ok (.aload_n 0, 1) := by decide +kernel
theorem dX9_does_12 : decode cX9_does 12 = .ok (.getfield 94, 3) := by decide +kernel
theorem dX9_does_15 : decode cX9_does 15 = .ok (.iload_n 1, 1) := by decide +kernel
theorem dX9_does_16 : decode cX9_does 16 = .ok (.iaload, 1) := by decide +kernel
theorem dX9_does_17 : decode cX9_does 17 = .ok (.istore_n 3, 1) := by decide +kernel
theorem dX9_does_18 : decode cX9_does 18 = .ok (.aload_n 0, 1) := by decide +kernel
theorem dX9_does_19 : decode cX9_does 19 = .ok (.getfield 91, 3) := by decide +kernel
theorem dX9_does_22 : decode cX9_does 22 = .ok (.iload_n 1, 1) := by decide +kernel
theorem dX9_does_23 : decode cX9_does 23 = .ok (.iaload, 1) := by decide +kernel
theorem dX9_does_24 : decode cX9_does 24 = .ok (.tableswitch 92 0 6 #[44, 51, 63, 69, 75, 81, 87], 44) := by decide +kernel
theorem dX9_does_68 : decode cX9_does 68 = .ok (.aload_n 0, 1) := by decide +kernel
theorem dX9_does_69 : decode cX9_does 69 = .ok (.iload_n 2, 1) := by decide +kernel
theorem dX9_does_70 : decode cX9_does 70 = .ok (.iload_n 3, 1) := by decide +kernel
theorem dX9_does_71 : decode cX9_does 71 = .ok (.invokevirtual 424, 3) := by decide +kernel
theorem dX9_does_74 : decode cX9_does 74 = .ok (.ireturn, 1) := by decide +kernel
theorem dX9_does_75 : decode cX9_does 75 = .ok (.aload_n 0, 1) := by decide +kernel
theorem dX9_does_76 : decode cX9_does 76 = .ok (.aload_n 0, 1) := by decide +kernel
theorem dX9_does_77 : decode cX9_does 77 = .ok (.getfield 103, 3) := by decide +kernel
theorem dX9_does_80 : decode cX9_does 80 = .ok (.iload_n 1, 1) := by decide +kernel
theorem dX9_does_81 : decode cX9_does 81 = .ok (.laload, 1) := by decide +kernel
theorem dX9_does_82 : decode cX9_does 82 = .ok (.iload_n 3, 1) := by decide +kernel
theorem dX9_does_83 : decode cX9_does 83 = .ok (.invokevirtual 469, 3) := by decide +kernel
theorem dX9_does_86 : decode cX9_does 86 = .ok (.ireturn, 1) := by decide +kernel
theorem dX9_does_87 : decode cX9_does 87 = .ok (.aload_n 0, 1) := by decide +kernel
theorem dX9_does_88 : decode cX9_does 88 = .ok (.iload_n 2, 1) := by decide +kernel
theorem dX9_does_89 : decode cX9_does 89 = .ok (.invokevirtual 436, 3) := by decide +kernel
theorem dX9_does_92 : decode cX9_does 92 = .ok (.ireturn, 1) := by decide +kernel
theorem dX9_does_93 : decode cX9_does 93 = .ok (.aload_n 0, 1) := by decide +kernel
theorem dX9_does_94 : decode cX9_does 94 = .ok (.iload_n 2, 1) := by decide +kernel
theorem dX9_does_95 : decode cX9_does 95 = .ok (.invokevirtual 475, 3) := by decide +kernel
theorem dX9_does_98 : decode cX9_does 98 = .ok (.ireturn, 1) := by decide +kernel
theorem dX9_does_99 : decode cX9_does 99 = .ok (.aload_n 0, 1) := by decide +kernel
theorem dX9_does_100 : decode cX9_does 100 = .ok (.iload_n 3, 1) := by decide +kernel
theorem dX9_does_101 : decode cX9_does 101 = .ok (.invokevirtual 444, 3) := by decide +kernel
theorem dX9_does_104 : decode cX9_does 104 = .ok (.ireturn, 1) := by decide +kernel
theorem dX9_does_105 : decode cX9_does 105 = .ok (.aload_n 0, 1) := by decide +kernel
theorem dX9_does_106 : decode cX9_does 106 = .ok (.iload_n 3, 1) := by decide +kernel
theorem dX9_does_107 : decode cX9_does 107 = .ok (.invokevirtual 447, 3) := by decide +kernel
theorem dX9_does_110 : decode cX9_does 110 = .ok (.ireturn, 1) := by decide +kernel
theorem dX9_does_111 : decode cX9_does 111 = .ok (.aload_n 0, 1) := by decide +kernel
theorem dX9_does_112 : decode cX9_does 112 = .ok (.invokevirtual 478, 3) := by decide +kernel
theorem dX9_does_115 : decode cX9_does 115 = .ok (.ireturn, 1) := by decide +kernel
theorem dX9_does_116 : decode cX9_does 116 = .ok (.aload_n 0, 1) := by decide +kernel
theorem dX9_does_117 : decode cX9_does 117 = .ok (.invokevirtual 481, 3) := by decide +kernel
theorem dX9_does_120 : decode cX9_does 120 = .ok (.ireturn, 1) := by decide +kernel
theorem dX9_doesAll_0 : decode cX9_doesAll 0 = .ok (.iconst 0, 1) := by decide +kernel
theorem dX9_doesAll_1 : decode cX9_doesAll 1 = .ok (.istore_n 1, 1) := by decide +kernel
theorem dX9_doesAll_2 : decode cX9_doesAll 2 = .ok (.iconst 0, 1) := by decide +kernel
theorem dX9_doesAll_3 : decode cX9_doesAll 3 = .ok (.istore_n 2, 1) := by decide +kernel
theorem dX9_doesAll_4 : decode cX9_doesAll 4 = .ok (.iconst 0, 1) := by decide +kernel
theorem dX9_doesAll_5 : decode cX9_doesAll 5 = .ok (.istore_n 3, 1) := by decide +kernel
theorem dX9_doesAll_6 : decode cX9_doesAll 6 = .ok (.iconst 1, 1) := by decide +kernel
theorem dX9_doesAll_7 : decode cX9_doesAll 7 = .ok (.istore 4, 2) := by decide +kernel
theorem dX9_doesAll_9 : decode cX9_doesAll 9 = .ok (.iconst 0, 1) := by decide +kernel
theorem dX9_doesAll_10 : decode cX9_doesAll 10 = .ok (.istore 5, 2) := by decide +kernel
theorem dX9_doesAll_12 : decode cX9_doesAll 12 = .ok (.iload 4, 2) := by decide +kernel
theorem dX9_doesAll_14 : decode cX9_doesAll 14 = .ok (.ifCond .eq 174, 3) := by decide +kernel
theorem dX9_doesAll_17 : decode cX9_doesAll 17 = .ok (.iload_n 3, 1) := by decide +kernel
theorem dX9_doesAll_18 : decode cX9_doesAll 18 = .ok (.aload_n 0, 1) := by decide +kernel
theorem dX9_doesAll_19 : decode cX9_doesAll 19 = .ok (.getfield 511, 3) := by decide +kernel
theorem dX9_doesAll_22 : decode cX9_doesAll 22 = .ok (.if_icmp .ge 166, 3) := by decide +kernel
theorem dX9_doesAll_25 : decode cX9_doesAll 25 = .ok (.iload_n 1, 1) := by decide +kernel
theorem dX9_doesAll_26 : decode cX9_doesAll 26 = .ok (.bipush 40, 2) := by decide +kernel
theorem dX9_doesAll_28 : decode cX9_doesAll 28 = .ok (.if_icmp .ge 160, 3) := by decide +kernel
theorem dX9_doesAll_31 : decode cX9_doesAll 31 = .ok (.aload_n 0, 1) := by decide +kernel
theorem dX9_doesAll_32 : decode cX9_doesAll 32 = .ok (.getfield 91, 3) := by decide +kernel
theorem dX9_doesAll_35 : decode cX9_doesAll 35 = .ok (.iload_n 3, 1) := by decide +kernel
theorem dX9_doesAll_36 : decode cX9_doesAll 36 = .ok (.iaload, 1) := by decide +kernel
theorem dX9_doesAll_37 : decode cX9_doesAll 37 = .ok (.bipush 8, 2) := by decide +kernel
theorem dX9_doesAll_39 : decode cX9_doesAll 39 = .ok (.if_icmp .ne 31, 3) := by decide +kernel
theorem dX9_doesAll_42 : decode cX9_doesAll 42 = .ok (.aload_n 0, 1) := by decide +kernel
theorem dX9_doesAll_43 : decode cX9_doesAll 43 = .ok (.getfield 97, 3) := by decide +kernel
theorem dX9_doesAll_46 : decode cX9_doesAll 46 = .ok (.iload_n 2, 1) := by decide +kernel
theorem dX9_doesAll_47 : decode cX9_doesAll 47 = .ok (.iload_n 3, 1) := by decide +kernel
theorem dX9_doesAll_48 : decode cX9_doesAll 48 = .ok (.iastore, 1) := by decide +kernel
theorem dX9_doesAll_49 : decode cX9_doesAll 49 = .ok (.aload_n 0, 1) := by decide +kernel
theorem dX9_doesAll_50 : decode cX9_doesAll 50 = .ok (.getfield 100, 3) := by decide +kernel
theorem dX9_doesAll_53 : decode cX9_doesAll 53 = .ok (.iload_n 2, 1) := by decide +kernel
theorem dX9_doesAll_54 : decode cX9_doesAll 54 = .ok (.aload_n 0, 1) := by decide +kernel
theorem dX9_doesAll_55 : decode cX9_doesAll 55 = .ok (.getfield 94, 3) := by decide +kernel
theorem dX9_doesAll_58 : decode cX9_doesAll 58 = .ok (.iload_n 3, 1) := by decide +kernel
theorem dX9_doesAll_59 : decode cX9_doesAll 59 = .ok (.iaload, 1) := by decide +kernel
theorem dX9_doesAll_60 : decode cX9_doesAll 60 = .ok (.iastore, 1) := by decide +kernel
theorem dX9_doesAll_61 : decode cX9_doesAll 61 = .ok (.iinc 2 1, 3) := by decide +kernel
theorem dX9_doesAll_64 : decode cX9_doesAll 64 = .ok (.iinc 3 1, 3) := by decide +kernel
theorem dX9_doesAll_67 : decode cX9_doesAll 67 = .ok (.goto (-55), 3) := by decide +kernel
theorem dX9_doesAll_70 : decode cX9_doesAll 70 = .ok (.aload_n 0, 1) := by decide +kernel
theorem dX9_doesAll_71 : decode cX9_doesAll 71 = .ok (.getfield 91, 3) := by decide +kernel
theorem dX9_doesAll_74 : decode cX9_doesAll 74 = .ok (.iload_n 3, 1) := by decide +kernel
theorem dX9_doesAll_75 : decode cX9_doesAll 75 = .ok (.iaload, 1) := by decide +kernel
theorem dX9_doesAll_76 : decode cX9_doesAll 76 = .ok (.bipush 9, 2) := by decide +kernel
theorem dX9_doesAll_78 : decode cX9_doesAll 78 = .ok (.if_icmp .ne 74, 3) := by decide +kernel
theorem dX9_doesAll_81 : decode cX9_doesAll 81 = .ok (.aload_n 0, 1) := by decide +kernel
theorem dX9_doesAll_82 : decode cX9_doesAll 82 = .ok (.getfield 100, 3) := by decide +kernel
theorem dX9_doesAll_85 : decode cX9_doesAll 85 = .ok (.iload_n 2, 1) := by decide +kernel
theorem dX9_doesAll_86 : decode cX9_doesAll 86 = .ok (.iconst 1, 1) := by decide +kernel
theorem dX9_doesAll_87 : decode cX9_doesAll 87 = .ok (.isub, 1) := by decide +kernel
theorem dX9_doesAll_88 : decode cX9_doesAll 88 = .ok (.dup2, 1) := by decide +kernel
theorem dX9_doesAll_89 : decode cX9_doesAll 89 = .ok (.iaload, 1) := by decide +kernel
theorem dX9_doesAll_90 : decode cX9_doesAll 90 = .ok (.iconst 1, 1) := by decide +kernel
theorem dX9_doesAll_91 : decode cX9_doesAll 91 = .ok (.isub, 1) := by decide +kernel
theorem dX9_doesAll_92 : decode cX9_doesAll 92 = .ok (.iastore, 1) := by decide +kernel
theorem dX9_doesAll_93 : decode cX9_doesAll 93 = .ok (.aload_n 0, 1) := by decide +kernel
theorem dX9_doesAll_94 : decode cX9_doesAll 94 = .ok (.getfield 100, 3) := by decide +kernel
theorem dX9_doesAll_97 : decode cX9_doesAll 97 = .ok (.iload_n 2, 1) := by decide +kernel
theorem dX9_doesAll_98 : decode cX9_doesAll 98 = .ok (.iconst 1, 1) := by decide +kernel
theorem dX9_doesAll_99 : decode cX9_doesAll 99 = .ok (.isub, 1) := by decide +kernel
theorem dX9_doesAll_100 : decode cX9_doesAll 100 = .ok (.iaload, 1) := by decide +kernel
theorem dX9_doesAll_101 : decode cX9_doesAll 101 = .ok (.ifCond .le 7, 3) := by decide +kernel
theorem dX9_doesAll_104 : decode cX9_doesAll 104 = .ok (.iconst 1, 1) := by decide +kernel
theorem dX9_doesAll_105 : decode cX9_doesAll 105 = .ok (.goto 4, 3) := by decide +kernel
theorem dX9_doesAll_108 : decode cX9_doesAll 108 = .ok (.iconst 0, 1) := by decide +kernel
theorem dX9_doesAll_109 : decode cX9_doesAll 109 = .ok (.istore 6, 2) := by decide +kernel
theorem dX9_doesAll_111 : decode cX9_doesAll 111 = .ok (.iload 6, 2) := by decide +kernel
theorem dX9_doesAll_113 : decode cX9_doesAll 113 = .ok (.ifCond .eq 16, 3) := by decide +kernel
theorem dX9_doesAll_116 : decode cX9_doesAll 116 = .ok (.aload_n 0, 1) := by decide +kernel
theorem dX9_doesAll_117 : decode cX9_doesAll 117 = .ok (.getfield 97, 3) := by decide +kernel
theorem dX9_doesAll_120 : decode cX9_doesAll 120 = .ok (.iload_n 2, 1) := by decide +kernel
theorem dX9_doesAll_121 : decode cX9_doesAll 121 = .ok (.iconst 1, 1) := by decide +kernel
theorem dX9_doesAll_122 : decode cX9_doesAll 122 = .ok (.isub, 1) := by decide +kernel
theorem dX9_doesAll_123 : decode cX9_doesAll 123 = .ok (.iaload, 1) := by decide +kernel
theorem dX9_doesAll_124 : decode cX9_doesAll 124 = .ok (.iconst 1, 1) := by decide +kernel
theorem dX9_doesAll_125 : decode cX9_doesAll 125 = .ok (.iadd, 1) := by decide +kernel
theorem dX9_doesAll_126 : decode cX9_doesAll 126 = .ok (.goto 6, 3) := by decide +kernel
theorem dX9_doesAll_129 : decode cX9_doesAll 129 = .ok (.iload_n 3, 1) := by decide +kernel
theorem dX9_doesAll_130 : decode cX9_doesAll 130 = .ok (.iconst 1, 1) := by decide +kernel
theorem dX9_doesAll_131 : decode cX9_doesAll 131 = .ok (.iadd, 1) := by decide +kernel
theorem dX9_doesAll_132 : decode cX9_doesAll 132 = .ok (.istore_n 3, 1) := by decide +kernel
theorem dX9_doesAll_133 : decode cX9_doesAll 133 = .ok (.iload_n 2, 1) := by decide +kernel
theorem dX9_doesAll_134 : decode cX9_doesAll 134 = .ok (.iload 6, 2) := by decide +kernel
theorem dX9_doesAll_136 : decode cX9_doesAll 136 = .ok (.ifCond .ne 7, 3) := by decide +kernel
theorem dX9_doesAll_139 : decode cX9_doesAll 139 = .ok (.iconst 1, 1) := by decide +kernel
theorem dX9_doesAll_140 : decode cX9_doesAll 140 = .ok (.goto 4, 3) := by decide +kernel
theorem dX9_doesAll_143 : decode cX9_doesAll 143 = .ok (.iconst 0, 1) := by decide +kernel
theorem dX9_doesAll_144 : decode cX9_doesAll 144 = .ok (.invokestatic 115, 3) := by decide +kernel
theorem dX9_doesAll_147 : decode cX9_doesAll 147 = .ok (.isub, 1) := by decide +kernel
theorem dX9_doesAll_148 : decode cX9_doesAll 148 = .ok (.istore_n 2, 1) := by decide +kernel
theorem dX9_doesAll_149 : decode cX9_doesAll 149 = .ok (.goto (-137), 3) := by decide +kernel
theorem dX9_doesAll_152 : decode cX9_doesAll 152 = .ok (.aload_n 0, 1) := by decide +kernel
theorem dX9_doesAll_153 : decode cX9_doesAll 153 = .ok (.iload_n 3, 1) := by decide +kernel
theorem dX9_doesAll_154 : decode cX9_doesAll 154 = .ok (.invokevirtual 526, 3) := by decide +kernel
theorem dX9_doesAll_157 : decode cX9_doesAll 157 = .ok (.istore 4, 2) := by decide +kernel
theorem dX9_doesAll_159 : decode cX9_doesAll 159 = .ok (.iload 4, 2) := by decide +kernel
theorem dX9_doesAll_161 : decode cX9_doesAll 161 = .ok (.ifCond .eq 13, 3) := by decide +kernel
theorem dX9_doesAll_164 : decode cX9_doesAll 164 = .ok (.iload 5, 2) := by decide +kernel
theorem dX9_doesAll_166 : decode cX9_doesAll 166 = .ok (.aload_n 0, 1) := by decide +kernel
theorem dX9_doesAll_167 : decode cX9_doesAll 167 = .ok (.iload_n 3, 1) := by decide +kernel
theorem dX9_doesAll_168 : decode cX9_doesAll 168 = .ok (.invokevirtual 529, 3) := by decide +kernel
theorem dX9_doesAll_171 : decode cX9_doesAll 171 = .ok (.iadd, 1) := by decide +kernel
theorem dX9_doesAll_172 : decode cX9_doesAll 172 = .ok (.istore 5, 2) := by decide +kernel
theorem dX9_doesAll_174 : decode cX9_doesAll 174 = .ok (.iload_n 1, 1) := by decide +kernel
theorem dX9_doesAll_175 : decode cX9_doesAll 175 = .ok (.iload 4, 2) := by decide +kernel
theorem dX9_doesAll_177 : decode cX9_doesAll 177 = .ok (.invokestatic 115, 3) := by decide +kernel
theorem dX9_doesAll_180 : decode cX9_doesAll 180 = .ok (.iadd, 1) := by decide +kernel
theorem dX9_doesAll_181 : decode cX9_doesAll 181 = .ok (.istore_n 1, 1) := by decide +kernel
theorem dX9_doesAll_182 : decode cX9_doesAll 182 = .ok (.iinc 3 1, 3) := by decide +kernel
theorem dX9_doesAll_185 : decode cX9_doesAll 185 = .ok (.goto (-173), 3) := by decide +kernel
theorem dX9_doesAll_188 : decode cX9_doesAll 188 = .ok (.iload_n 1, 1) := by decide +kernel
theorem dX9_doesAll_189 : decode cX9_doesAll 189 = .ok (.ireturn, 1) := by decide +kernel
theorem dX9_edge_0 : decode cX9_edge 0 = .ok (.aload_n 0, 1) := by decide +kernel
theorem dX9_edge_1 : decode cX9_edge 1 = .ok (.iconst 0, 1) := by decide +kernel
theorem dX9_edge_2 : decode cX9_edge 2 = .ok (.putfield 112, 3) := by decide +kernel
theorem dX9_edge_5 : decode cX9_edge 5 = .ok (.aload_n 0, 1) := by decide +kernel
theorem dX9_edge_6 : decode cX9_edge 6 = .ok (.invokevirtual 382, 3) := by decide +kernel
theorem dX9_edge_9 : decode cX9_edge 9 = .ok (.iload_n 1, 1) := by decide +kernel
theorem dX9_edge_10 : decode cX9_edge 10 = .ok (.i2l, 1) := by decide +kernel
theorem dX9_edge_11 : decode cX9_edge 11 = .ok (.lconst 0, 1) := by decide +kernel
theorem dX9_edge_12 : decode cX9_edge 12 = .ok (.aload_n 0, 1) := by decide +kernel
theorem dX9_edge_13 : decode cX9_edge 13 = .ok (.getfield 363, 3) := by decide +kernel
theorem dX9_edge_16 : decode cX9_edge 16 = .ok (.iconst 1, 1) := by decide +kernel
theorem dX9_edge_17 : decode cX9_edge 17 = .ok (.isub, 1) := by decide +kernel
theorem dX9_edge_18 : decode cX9_edge 18 = .ok (.i2l, 1) := by decide +kernel
theorem dX9_edge_19 : decode cX9_edge 19 = .ok (.invokestatic 130, 3) := by decide +kernel
theorem dX9_edge_22 : decode cX9_edge 22 = .ok (.ifCond .eq 22, 3) := by decide +kernel
theorem dX9_edge_25 : decode cX9_edge 25 = .ok (.bipush 100, 2) := by decide +kernel
theorem dX9_edge_27 : decode cX9_edge 27 = .ok (.aload_n 0, 1) := by decide +kernel
theorem dX9_edge_28 : decode cX9_edge 28 = .ok (.getfield 72, 3) := by decide +kernel
theorem dX9_edge_31 : decode cX9_edge 31 = .ok (.iload_n 1, 1) := by decide +kernel
theorem dX9_edge_32 : decode cX9_edge 32 = .ok (.iaload, 1) := by decide +kernel
theorem dX9_edge_33 : decode cX9_edge 33 = .ok (.imul, 1) := by decide +kernel
theorem dX9_edge_34 : decode cX9_edge 34 = .ok (.aload_n 0, 1) := by decide +kernel
theorem dX9_edge_35 : decode cX9_edge 35 = .ok (.getfield 75, 3) := by decide +kernel
theorem dX9_edge_38 : decode cX9_edge 38 = .ok (.iload_n 1, 1) := by decide +kernel
theorem dX9_edge_39 : decode cX9_edge 39 = .ok (.iaload, 1) := by decide +kernel
theorem dX9_edge_40 : decode cX9_edge 40 = .ok (.iadd, 1) := by decide +kernel
theorem dX9_edge_41 : decode cX9_edge 41 = .ok (.goto 4, 3) := by decide +kernel
theorem dX9_edge_44 : decode cX9_edge 44 = .ok (.iconst (-1), 1) := by decide +kernel
theorem dX9_edge_45 : decode cX9_edge 45 = .ok (.ireturn, 1) := by decide +kernel
theorem dX9_endsText_0 : decode cX9_endsText 0 = .ok (.aload_n 0, 1) := by decide +kernel
theorem dX9_endsText_1 : decode cX9_endsText 1 = .ok (.aload_n 0, 1) := by decide +kernel
theorem dX9_endsText_2 : decode cX9_endsText 2 = .ok (.getfield 164, 3) := by decide +kernel
theorem dX9_endsText_5 : decode cX9_endsText 5 = .ok (.putfield 188, 3) := by decide +kernel
theorem dX9_endsText_8 : decode cX9_endsText 8 = .ok (.aload_n 0, 1) := by decide +kernel
theorem dX9_endsText_9 : decode cX9_endsText 9 = .ok (.aload_n 0, 1) := by decide +kernel
theorem dX9_endsText_10 : decode cX9_endsText 10 = .ok (.getfield 13, 3) := by decide +kernel
theorem dX9_endsText_13 : decode cX9_endsText 13 = .ok (.putfield 17, 3) := by decide +kernel
theorem dX9_endsText_16 : decode cX9_endsText 16 = .ok (.aload_n 0, 1) := by decide +kernel
theorem dX9_endsText_17 : decode cX9_endsText 17 = .ok (.aload_n 0, 1) := by decide +kernel
theorem dX9_endsText_18 : decode cX9_endsText 18 = .ok (.getfield 164, 3) := by decide +kernel
theorem dX9_endsText_21 : decode cX9_endsText 21 = .ok (.ifCond .ne 7, 3) := by decide +kernel
theorem dX9_endsText_24 : decode cX9_endsText 24 = .ok (.iconst 1, 1) := by decide +kernel
theorem dX9_endsText_25 : decode cX9_endsText 25 = .ok (.goto 4, 3) := by decide +kernel
theorem dX9_endsText_28 : decode cX9_endsText 28 = .ok (.iconst 0, 1) := by decide +kernel
theorem dX9_endsText_29 : decode cX9_endsText 29 = .ok (.invokevirtual 122, 3) := by decide +kernel
theorem dX9_endsText_32 : decode cX9_endsText 32 = .ok (.ireturn, 1) := by decide +kernel
theorem dX9_errorCode_0 : decode cX9_errorCode 0 = .ok (.aload_n 0, 1) := by decide +kernel
theorem dX9_errorCode_1 : decode cX9_errorCode 1 = .ok (.iconst 0, 1) := by decide +kernel
theorem dX9_errorCode_2 : decode cX9_errorCode 2 = .ok (.putfield 112, 3) := by decide +kernel
theorem dX9_errorCode_5 : decode cX9_errorCode 5 = .ok (.aload_n 0, 1) := by decide +kernel
theorem dX9_errorCode_6 : decode cX9_errorCode 6 = .ok (.getfield 188, 3) := by decide +kernel
theorem dX9_errorCode_9 : decode cX9_errorCode 9 = .ok (.ireturn, 1) := by decide +kernel
theorem dX9_errorPosition_0 : decode cX9_errorPosition 0 = .ok (.aload_n 0, 1) := by decide +kernel
theorem dX9_errorPosition_1 : decode cX9_errorPosition 1 = .ok (.iconst 0, 1) := by decide +kernel
theorem dX9_errorPosition_2 : decode cX9_errorPosition 2 = .ok (.putfield 112, 3) := by decide +kernel
theorem dX9_errorPosition_5 : decode cX9_errorPosition 5 = .ok (.aload_n 0, 1) := by decide +kernel
theorem dX9_errorPosition_6 : decode cX9_errorPosition 6 = .ok (.getfield 17, 3) := by decide +kernel
theorem dX9_errorPosition_9 : decode cX9_errorPosition 9 = .ok (.ireturn, 1) := by decide +kernel
theorem dX9_factorial_0 : decode cX9_factorial 0 = .ok (.lconst 1, 1) := by decide +kernel
theorem dX9_factorial_1 : decode cX9_factorial 1 = .ok (.lstore_n 1, 1) := by decide +kernel
theorem dX9_factorial_2 : decode cX9_factorial 2 = .ok (.iconst 2, 1) := by decide +kernel
theorem dX9_factorial_3 : decode cX9_factorial 3 = .ok (.istore_n 3, 1) := by decide +kernel
theorem dX9_factorial_4 : decode cX9_factorial 4 = .ok (.iload_n 3, 1) := by decide +kernel
theorem dX9_factorial_5 : decode cX9_factorial 5 = .ok (.iload_n 0, 1) := by decide +kernel
theorem dX9_factorial_6 : decode cX9_factorial 6 = .ok (.if_icmp .gt 14, 3) := by decide +kernel
theorem dX9_factorial_9 : decode cX9_factorial 9 = .ok (.lload_n 1, 1) := by decide +kernel
theorem dX9_factorial_10 : decode cX9_factorial 10 = .ok (.iload_n 3, 1) := by decide +kernel
theorem dX9_factorial_11 : decode cX9_factorial 11 = .ok (.i2l, 1) := by decide +kernel
theorem dX9_factorial_12 : decode cX9_factorial 12 = .ok (.lmul, 1) := by decide +kernel
theorem dX9_factorial_13 : decode cX9_factorial 13 = .ok (.lstore_n 1, 1) := by decide +kernel
theorem dX9_factorial_14 : decode cX9_factorial 14 = .ok (.iinc 3 1, 3) := by decide +kernel
theorem dX9_factorial_17 : decode cX9_factorial 17 = .ok (.goto (-13), 3) := by decide +kernel
theorem dX9_factorial_20 : decode cX9_factorial 20 = .ok (.lload_n 1, 1) := by decide +kernel
theorem dX9_factorial_21 : decode cX9_factorial 21 = .ok (.lreturn, 1) := by decide +kernel
theorem dX9_far_0 : decode cX9_far 0 = .ok (.aload_n 0, 1) := by decide +kernel
theorem dX9_far_1 : decode cX9_far 1 = .ok (.aload_n 0, 1) := by decide +kernel
theorem dX9_far_2 : decode cX9_far 2 = .ok (.iload_n 1, 1) := by decide +kernel
theorem dX9_far_3 : decode cX9_far 3 = .ok (.invokevirtual 341, 3) := by decide +kernel
theorem dX9_far_6 : decode cX9_far 6 = .ok (.ifCond .eq 15, 3) := by decide +kernel
theorem dX9_far_9 : decode cX9_far 9 = .ok (.aload_n 0, 1) := by decide +kernel
theorem dX9_far_10 : decode cX9_far 10 = .ok (.iload_n 2, 1) := by decide +kernel
theorem dX9_far_11 : decode cX9_far 11 = .ok (.invokevirtual 341, 3) := by decide +kernel
theorem dX9_far_14 : decode cX9_far 14 = .ok (.ifCond .eq 7, 3) := by decide +kernel
theorem dX9_far_17 : decode cX9_far 17 = .ok (.iconst 1, 1) := by decide +kernel
theorem dX9_far_18 : decode cX9_far 18 = .ok (.goto 4, 3) := by decide +kernel
theorem dX9_far_21 : decode cX9_far 21 = .ok (.iconst 0, 1) := by decide +kernel
theorem dX9_far_22 : decode cX9_far 22 = .ok (.invokevirtual 122, 3) := by decide +kernel
theorem dX9_far_25 : decode cX9_far 25 = .ok (.ifCond .ne 5, 3) := by decide +kernel
theorem dX9_far_28 : decode cX9_far 28 = .ok (.iconst 0, 1) := by decide +kernel
theorem dX9_far_29 : decode cX9_far 29 = .ok (.ireturn, 1) := by decide +kernel
theorem dX9_far_30 : decode cX9_far 30 = .ok (.aload_n 0, 1) := by decide +kernel
theorem dX9_far_31 : decode cX9_far 31 = .ok (.invokevirtual 382, 3) := by decide +kernel
theorem dX9_far_34 : decode cX9_far 34 = .ok (.aload_n 0, 1) := by decide +kernel
theorem dX9_far_35 : decode cX9_far 35 = .ok (.iload_n 1, 1) := by decide +kernel
theorem dX9_far_36 : decode cX9_far 36 = .ok (.invokevirtual 391, 3) := by decide +kernel
theorem dX9_far_39 : decode cX9_far 39 = .ok (.aload_n 0, 1) := by decide +kernel
theorem dX9_far_40 : decode cX9_far 40 = .ok (.getfield 78, 3) := by decide +kernel
theorem dX9_far_43 : decode cX9_far 43 = .ok (.iload_n 2, 1) := by decide +kernel
theorem dX9_far_44 : decode cX9_far 44 = .ok (.iaload, 1) := by decide +kernel
theorem dX9_far_45 : decode cX9_far 45 = .ok (.ireturn, 1) := by decide +kernel
theorem dX9_feed_0 : decode cX9_feed 0 = .ok (.aload_n 0, 1) := by decide +kernel
theorem dX9_feed_1 : decode cX9_feed 1 = .ok (.aload_n 0, 1) := by decide +kernel
theorem dX9_feed_2 : decode cX9_feed 2 = .ok (.getfield 119, 3) := by decide +kernel
theorem dX9_feed_5 : decode cX9_feed 5 = .ok (.bipush 20, 2) := by decide +kernel
theorem dX9_feed_7 : decode cX9_feed 7 = .ok (.iadd, 1) := by decide +kernel
theorem dX9_feed_8 : decode cX9_feed 8 = .ok (.sipush 400, 3) := by decide +kernel
theorem dX9_feed_11 : decode cX9_feed 11 = .ok (.if_icmp .gt 7, 3) := by decide +kernel
theorem dX9_feed_14 : decode cX9_feed 14 = .ok (.iconst 1, 1) := by decide +kernel
theorem dX9_feed_15 : decode cX9_feed 15 = .ok (.goto 4, 3) := by decide +kernel
theorem dX9_feed_18 : decode cX9_feed 18 = .ok (.iconst 0, 1) := by decide +kernel
theorem dX9_feed_19 : decode cX9_feed 19 = .ok (.invokevirtual 122, 3) := by decide +kernel
theorem dX9_feed_22 : decode cX9_feed 22 = .ok (.ifCond .ne 5, 3) := by decide +kernel
theorem dX9_feed_25 : decode cX9_feed 25 = .ok (.iconst 0, 1) := by decide +kernel
theorem dX9_feed_26 : decode cX9_feed 26 = .ok (.ireturn, 1) := by decide +kernel
theorem dX9_feed_27 : decode cX9_feed 27 = .ok (.aload_n 0, 1) := by decide +kernel
theorem dX9_feed_28 : decode cX9_feed 28 = .ok (.iload_n 1, 1) := by decide +kernel
theorem dX9_feed_29 : decode cX9_feed 29 = .ok (.invokevirtual 126, 3) := by decide +kernel
theorem dX9_feed_32 : decode cX9_feed 32 = .ok (.aload_n 0, 1) := by decide +kernel
theorem dX9_feed_33 : decode cX9_feed 33 = .ok (.iload_n 2, 1) := by decide +kernel
theorem dX9_feed_34 : decode cX9_feed 34 = .ok (.invokevirtual 126, 3) := by decide +kernel
theorem dX9_feed_37 : decode cX9_feed 37 = .ok (.aload_n 0, 1) := by decide +kernel
theorem dX9_feed_38 : decode cX9_feed 38 = .ok (.iload_n 3, 1) := by decide +kernel
theorem dX9_feed_39 : decode cX9_feed 39 = .ok (.invokevirtual 126, 3) := by decide +kernel
theorem dX9_feed_42 : decode cX9_feed 42 = .ok (.aload_n 0, 1) := by decide +kernel
theorem dX9_feed_43 : decode cX9_feed 43 = .ok (.iload 4, 2) := by decide +kernel
theorem dX9_feed_45 : decode cX9_feed 45 = .ok (.invokevirtual 126, 3) := by decide +kernel
theorem dX9_feed_48 : decode cX9_feed 48 = .ok (.aload_n 0, 1) := by decide +kernel
theorem dX9_feed_49 : decode cX9_feed 49 = .ok (.iload 5, 2) := by decide +kernel
theorem dX9_feed_51 : decode cX9_feed 51 = .ok (.invokevirtual 126, 3) := by decide +kernel
theorem dX9_feed_54 : decode cX9_feed 54 = .ok (.aload_n 0, 1) := by decide +kernel
theorem dX9_feed_55 : decode cX9_feed 55 = .ok (.getfield 119, 3) := by decide +kernel
theorem dX9_feed_58 : decode cX9_feed 58 = .ok (.ireturn, 1) := by decide +kernel
theorem dX9_fibre_0 : decode cX9_fibre 0 = .ok (.aload_n 0, 1) := by decide +kernel
theorem dX9_fibre_1 : decode cX9_fibre 1 = .ok (.iconst 0, 1) := by decide +kernel
theorem dX9_fibre_2 : decode cX9_fibre 2 = .ok (.putfield 112, 3) := by decide +kernel
theorem dX9_fibre_5 : decode cX9_fibre 5 = .ok (.aload_n 0, 1) := by decide +kernel
theorem dX9_fibre_6 : decode cX9_fibre 6 = .ok (.aload_n 0, 1) := by decide +kernel
theorem dX9_fibre_7 : decode cX9_fibre 7 = .ok (.getfield 20, 3) := by decide +kernel
theorem dX9_fibre_10 : decode cX9_fibre 10 = .ok (.iconst 0, 1) := by decide +kernel
theorem dX9_fibre_11 : decode cX9_fibre 11 = .ok (.iaload, 1) := by decide +kernel
theorem dX9_fibre_12 : decode cX9_fibre 12 = .ok (.invokevirtual 230, 3) := by decide +kernel
theorem dX9_fibre_15 : decode cX9_fibre 15 = .ok (.lconst 1, 1) := by decide +kernel
theorem dX9_fibre_16 : decode cX9_fibre 16 = .ok (.lstore_n 1, 1) := by decide +kernel
theorem dX9_fibre_17 : decode cX9_fibre 17 = .ok (.iconst 0, 1) := by decide +kernel
theorem dX9_fibre_18 : decode cX9_fibre 18 = .ok (.istore_n 3, 1) := by decide +kernel
theorem dX9_fibre_19 : decode cX9_fibre 19 = .ok (.iload_n 3, 1) := by decide +kernel
theorem dX9_fibre_20 : decode cX9_fibre 20 = .ok (.aload_n 0, 1) := by decide +kernel
theorem dX9_fibre_21 : decode cX9_fibre 21 = .ok (.getfield 20, 3) := by decide +kernel
theorem dX9_fibre_24 : decode cX9_fibre 24 = .ok (.iconst 0, 1) := by decide +kernel
theorem dX9_fibre_25 : decode cX9_fibre 25 = .ok (.iaload, 1) := by decide +kernel
theorem dX9_fibre_26 : decode cX9_fibre 26 = .ok (.if_icmp .ge 18, 3) := by decide +kernel
theorem dX9_fibre_29 : decode cX9_fibre 29 = .ok (.lload_n 1, 1) := by decide +kernel
theorem dX9_fibre_30 : decode cX9_fibre 30 = .ok (.aload_n 0, 1) := by decide +kernel
theorem dX9_fibre_31 : decode cX9_fibre 31 = .ok (.iload_n 3, 1) := by decide +kernel
theorem dX9_fibre_32 : decode cX9_fibre 32 = .ok (.invokevirtual 338, 3) := by decide +kernel
theorem dX9_fibre_35 : decode cX9_fibre 35 = .ok (.i2l, 1) := by decide +kernel
theorem dX9_fibre_36 : decode cX9_fibre 36 = .ok (.lmul, 1) := by decide +kernel
theorem dX9_fibre_37 : decode cX9_fibre 37 = .ok (.lstore_n 1, 1) := by decide +kernel
theorem dX9_fibre_38 : decode cX9_fibre 38 = .ok (.iinc 3 1, 3) := by decide +kernel
theorem dX9_fibre_41 : decode cX9_fibre 41 = .ok (.goto (-22), 3) := by decide +kernel
theorem dX9_fibre_44 : decode cX9_fibre 44 = .ok (.lload_n 1, 1) := by decide +kernel
theorem dX9_fibre_45 : decode cX9_fibre 45 = .ok (.lreturn, 1) := by decide +kernel
theorem dX9_four_0 : decode cX9_four 0 = .ok (.bipush 24, 2) := by decide +kernel
theorem dX9_four_2 : decode cX9_four 2 = .ok (.istore_n 2, 1) := by decide +kernel
theorem dX9_four_3 : decode cX9_four 3 = .ok (.iload_n 2, 1) := by decide +kernel
theorem dX9_four_4 : decode cX9_four 4 = .ok (.ifCond .lt 35, 3) := by decide +kernel
theorem dX9_four_7 : decode cX9_four 7 = .ok (.aload_n 0, 1) := by decide +kernel
theorem dX9_four_8 : decode cX9_four 8 = .ok (.getfield 7, 3) := by decide +kernel
theorem dX9_four_11 : decode cX9_four 11 = .ok (.aload_n 0, 1) := by decide +kernel
theorem dX9_four_12 : decode cX9_four 12 = .ok (.getfield 119, 3) := by decide +kernel
theorem dX9_four_15 : decode cX9_four 15 = .ok (.iload_n 1, 1) := by decide +kernel
theorem dX9_four_16 : decode cX9_four 16 = .ok (.iload_n 2, 1) := by decide +kernel
theorem dX9_four_17 : decode cX9_four 17 = .ok (.ishr, 1) := by decide +kernel
theorem dX9_four_18 : decode cX9_four 18 = .ok (.sipush 255, 3) := by decide +kernel
theorem dX9_four_21 : decode cX9_four 21 = .ok (.iand, 1) := by decide +kernel
theorem dX9_four_22 : decode cX9_four 22 = .ok (.iastore, 1) := by decide +kernel
theorem dX9_four_23 : decode cX9_four 23 = .ok (.aload_n 0, 1) := by decide +kernel
theorem dX9_four_24 : decode cX9_four 24 = .ok (.dup, 1) := by decide +kernel
theorem dX9_four_25 : decode cX9_four 25 = .ok (.getfield 119, 3) := by decide +kernel
theorem dX9_four_28 : decode cX9_four 28 = .ok (.iconst 1, 1) := by decide +kernel
theorem dX9_four_29 : decode cX9_four 29 = .ok (.iadd, 1) := by decide +kernel
theorem dX9_four_30 : decode cX9_four 30 = .ok (.putfield 119, 3) := by decide +kernel
theorem dX9_four_33 : decode cX9_four 33 = .ok (.iinc 2 (-8), 3) := by decide +kernel
theorem dX9_four_36 : decode cX9_four 36 = .ok (.goto (-33), 3) := by decide +kernel
theorem dX9_four_39 : decode cX9_four 39 = .ok (.return_, 1) := by decide +kernel
theorem dX9_fromAway_0 : decode cX9_fromAway 0 = .ok (.aload_n 0, 1) := by decide +kernel
theorem dX9_fromAway_1 : decode cX9_fromAway 1 = .ok (.getfield 29, 3) := by decide +kernel
theorem dX9_fromAway_4 : decode cX9_fromAway 4 = .ok (.iconst 0, 1) := by decide +kernel
theorem dX9_fromAway_5 : decode cX9_fromAway 5 = .ok (.aload_n 0, 1) := by decide +kernel
theorem dX9_fromAway_6 : decode cX9_fromAway 6 = .ok (.getfield 20, 3) := by decide +kernel
theorem dX9_fromAway_9 : decode cX9_fromAway 9 = .ok (.iconst 0, 1) := by decide +kernel
theorem dX9_fromAway_10 : decode cX9_fromAway 10 = .ok (.invokestatic 191, 3) := by decide +kernel
theorem dX9_fromAway_13 : decode cX9_fromAway 13 = .ok (.aload_n 0, 1) := by decide +kernel
theorem dX9_fromAway_14 : decode cX9_fromAway 14 = .ok (.getfield 45, 3) := by decide +kernel
theorem dX9_fromAway_17 : decode cX9_fromAway 17 = .ok (.iconst 0, 1) := by decide +kernel
theorem dX9_fromAway_18 : decode cX9_fromAway 18 = .ok (.aload_n 0, 1) := by decide +kernel
theorem dX9_fromAway_19 : decode cX9_fromAway 19 = .ok (.getfield 35, 3) := by decide +kernel
theorem dX9_fromAway_22 : decode cX9_fromAway 22 = .ok (.iconst 0, 1) := by decide +kernel
theorem dX9_fromAway_23 : decode cX9_fromAway 23 = .ok (.invokestatic 195, 3) := by decide +kernel
theorem dX9_fromAway_26 : decode cX9_fromAway 26 = .ok (.iload_n 1, 1) := by decide +kernel
theorem dX9_fromAway_27 : decode cX9_fromAway 27 = .ok (.ireturn, 1) := by decide +kernel
theorem dX9_gap_0 : decode cX9_gap 0 = .ok (.aload_n 0, 1) := by decide +kernel
theorem dX9_gap_1 : decode cX9_gap 1 = .ok (.iconst 0, 1) := by decide +kernel
theorem dX9_gap_2 : decode cX9_gap 2 = .ok (.putfield 112, 3) := by decide +kernel
theorem dX9_gap_5 : decode cX9_gap 5 = .ok (.aload_n 0, 1) := by decide +kernel
theorem dX9_gap_6 : decode cX9_gap 6 = .ok (.invokevirtual 347, 3) := by decide +kernel
theorem dX9_gap_9 : decode cX9_gap 9 = .ok (.aload_n 0, 1) := by decide +kernel
theorem dX9_gap_10 : decode cX9_gap 10 = .ok (.invokevirtual 300, 3) := by decide +kernel
theorem dX9_gap_13 : decode cX9_gap 13 = .ok (.aload_n 0, 1) := by decide +kernel
theorem dX9_gap_14 : decode cX9_gap 14 = .ok (.invokevirtual 350, 3) := by decide +kernel
theorem dX9_gap_17 : decode cX9_gap 17 = .ok (.if_icmp .eq 7, 3) := by decide +kernel
theorem dX9_gap_20 : decode cX9_gap 20 = .ok (.iconst 1, 1) := by decide +kernel
theorem dX9_gap_21 : decode cX9_gap 21 = .ok (.goto 4, 3) := by decide +kernel
theorem dX9_gap_24 : decode cX9_gap 24 = .ok (.iconst 0, 1) := by decide +kernel
theorem dX9_gap_25 : decode cX9_gap 25 = .ok (.invokestatic 115, 3) := by decide +kernel
theorem dX9_gap_28 : decode cX9_gap 28 = .ok (.istore_n 1, 1) := by decide +kernel
theorem dX9_gap_29 : decode cX9_gap 29 = .ok (.iconst 0, 1) := by decide +kernel
theorem dX9_gap_30 : decode cX9_gap 30 = .ok (.istore_n 2, 1) := by decide +kernel
theorem dX9_gap_31 : decode cX9_gap 31 = .ok (.iload_n 2, 1) := by decide +kernel
theorem dX9_gap_32 : decode cX9_gap 32 = .ok (.aload_n 0, 1) := by decide +kernel
theorem dX9_gap_33 : decode cX9_gap 33 = .ok (.getfield 20, 3) := by decide +kernel
theorem dX9_gap_36 : decode cX9_gap 36 = .ok (.iconst 0, 1) := by decide +kernel
theorem dX9_gap_37 : decode cX9_gap 37 = .ok (.iaload, 1) := by decide +kernel
theorem dX9_gap_38 : decode cX9_gap 38 = .ok (.if_icmp .ge 35, 3) := by decide +kernel
theorem dX9_gap_41 : decode cX9_gap 41 = .ok (.iload_n 1, 1) := by decide +kernel
theorem dX9_gap_42 : decode cX9_gap 42 = .ok (.aload_n 0, 1) := by decide +kernel
theorem dX9_gap_43 : decode cX9_gap 43 = .ok (.getfield 57, 3) := by decide +kernel
theorem dX9_gap_46 : decode cX9_gap 46 = .ok (.iload_n 2, 1) := by decide +kernel
theorem dX9_gap_47 : decode cX9_gap 47 = .ok (.iaload, 1) := by decide +kernel
theorem dX9_gap_48 : decode cX9_gap 48 = .ok (.aload_n 0, 1) := by decide +kernel
theorem dX9_gap_49 : decode cX9_gap 49 = .ok (.getfield 66, 3) := by decide +kernel
theorem dX9_gap_52 : decode cX9_gap 52 = .ok (.iload_n 2, 1) := by decide +kernel
theorem dX9_gap_53 : decode cX9_gap 53 = .ok (.iaload, 1) := by decide +kernel
theorem dX9_gap_54 : decode cX9_gap 54 = .ok (.if_icmp .eq 7, 3) := by decide +kernel
theorem dX9_gap_57 : decode cX9_gap 57 = .ok (.iconst 1, 1) := by decide +kernel
theorem dX9_gap_58 : decode cX9_gap 58 = .ok (.goto 4, 3) := by decide +kernel
theorem dX9_gap_61 : decode cX9_gap 61 = .ok (.iconst 0, 1) := by decide +kernel
theorem dX9_gap_62 : decode cX9_gap 62 = .ok (.invokestatic 115, 3) := by decide +kernel
theorem dX9_gap_65 : decode cX9_gap 65 = .ok (.iadd, 1) := by decide +kernel
theorem dX9_gap_66 : decode cX9_gap 66 = .ok (.istore_n 1, 1) := by decide +kernel
theorem dX9_gap_67 : decode cX9_gap 67 = .ok (.iinc 2 1, 3) := by decide +kernel
theorem dX9_gap_70 : decode cX9_gap 70 = .ok (.goto (-39), 3) := by decide +kernel
theorem dX9_gap_73 : decode cX9_gap 73 = .ok (.iload_n 1, 1) := by decide +kernel
theorem dX9_gap_74 : decode cX9_gap 74 = .ok (.ireturn, 1) := by decide +kernel
theorem dX9_gapSpot_0 : decode cX9_gapSpot 0 = .ok (.iconst 0, 1) := by decide +kernel
theorem dX9_gapSpot_1 : decode cX9_gapSpot 1 = .ok (.istore_n 1, 1) := by decide +kernel
theorem dX9_gapSpot_2 : decode cX9_gapSpot 2 = .ok (.aload_n 0, 1) := by decide +kernel
theorem dX9_gapSpot_3 : decode cX9_gapSpot 3 = .ok (.getfield 54, 3) := by decide +kernel
theorem dX9_gapSpot_6 : decode cX9_gapSpot 6 = .ok (.iload_n 1, 1) := by decide +kernel
theorem dX9_gapSpot_7 : decode cX9_gapSpot 7 = .ok (.iaload, 1) := by decide +kernel
theorem dX9_gapSpot_8 : decode cX9_gapSpot 8 = .ok (.iconst (-1), 1) := by decide +kernel
theorem dX9_gapSpot_9 : decode cX9_gapSpot 9 = .ok (.if_icmp .eq 9, 3) := by decide +kernel
theorem dX9_gapSpot_12 : decode cX9_gapSpot 12 = .ok (.iinc 1 1, 3) := by decide +kernel
theorem dX9_gapSpot_15 : decode cX9_gapSpot 15 = .ok (.goto (-13), 3) := by decide +kernel
theorem dX9_gapSpot_18 : decode cX9_gapSpot 18 = .ok (.iload_n 1, 1) := by decide +kernel
theorem dX9_gapSpot_19 : decode cX9_gapSpot 19 = .ok (.ireturn, 1) := by decide +kernel
theorem dX9_go_0 : decode cX9_go 0 = .ok (.aload_n 0, 1) := by decide +kernel
theorem dX9_go_1 : decode cX9_go 1 = .ok (.aload_n 0, 1) := by decide +kernel
theorem dX9_go_2 : decode cX9_go 2 = .ok (.iload_n 1, 1) := by decide +kernel
theorem dX9_go_3 : decode cX9_go 3 = .ok (.invokevirtual 325, 3) := by decide +kernel
theorem dX9_go_6 : decode cX9_go 6 = .ok (.invokevirtual 122, 3) := by decide +kernel
theorem dX9_go_9 : decode cX9_go 9 = .ok (.ifCond .eq 15, 3) := by decide +kernel
theorem dX9_go_12 : decode cX9_go 12 = .ok (.aload_n 0, 1) := by decide +kernel
theorem dX9_go_13 : decode cX9_go 13 = .ok (.aload_n 0, 1) := by decide +kernel
theorem dX9_go_14 : decode cX9_go 14 = .ok (.iload_n 1, 1) := by decide +kernel
theorem dX9_go_15 : decode cX9_go 15 = .ok (.invokevirtual 472, 3) := by decide +kernel
theorem dX9_go_18 : decode cX9_go 18 = .ok (.invokevirtual 433, 3) := by decide +kernel
theorem dX9_go_21 : decode cX9_go 21 = .ok (.ifCond .eq 5, 3) := by decide +kernel
