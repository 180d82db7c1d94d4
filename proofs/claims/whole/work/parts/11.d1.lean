theorem dJ7_fill_53178_0 : decode cJ7_fill_53178 0 = .ok (.iconst 0, 1) := by decide +kernel
theorem dJ7_fill_53178_1 : decode cJ7_fill_53178 1 = .ok (.istore_n 2, 1) := by decide +kernel
theorem dJ7_fill_53178_2 : decode cJ7_fill_53178 2 = .ok (.aload_n 0, 1) := by decide +kernel
theorem dJ7_fill_53178_3 : decode cJ7_fill_53178 3 = .ok (.arraylength, 1) := by decide +kernel
theorem dJ7_fill_53178_4 : decode cJ7_fill_53178 4 = .ok (.istore_n 3, 1) := by decide +kernel
theorem dJ7_fill_53178_5 : decode cJ7_fill_53178 5 = .ok (.iload_n 2, 1) := by decide +kernel
theorem dJ7_fill_53178_6 : decode cJ7_fill_53178 6 = .ok (.iload_n 3, 1) := by decide +kernel
theorem dJ7_fill_53178_7 : decode cJ7_fill_53178 7 = .ok (.if_icmp .ge 13, 3) := by decide +kernel
theorem dJ7_fill_53178_10 : decode cJ7_fill_53178 10 = .ok (.aload_n 0, 1) := by decide +kernel
theorem dJ7_fill_53178_11 : decode cJ7_fill_53178 11 = .ok (.iload_n 2, 1) := by decide +kernel
theorem dJ7_fill_53178_12 : decode cJ7_fill_53178 12 = .ok (.iload_n 1, 1) := by decide +kernel
theorem dJ7_fill_53178_13 : decode cJ7_fill_53178 13 = .ok (.iastore, 1) := by decide +kernel
theorem dJ7_fill_53178_14 : decode cJ7_fill_53178 14 = .ok (.iinc 2 1, 3) := by decide +kernel
theorem dJ7_fill_53178_17 : decode cJ7_fill_53178 17 = .ok (.goto (-12), 3) := by decide +kernel
theorem dJ7_fill_53178_20 : decode cJ7_fill_53178 20 = .ok (.return_, 1) := by decide +kernel
theorem dJ9_floorMod_7cf53_0 : decode cJ9_floorMod_7cf53 0 = .ok (.iload_n 0, 1) := by decide +kernel
theorem dJ9_floorMod_7cf53_1 : decode cJ9_floorMod_7cf53 1 = .ok (.iload_n 1, 1) := by decide +kernel
theorem dJ9_floorMod_7cf53_2 : decode cJ9_floorMod_7cf53 2 = .ok (.irem, 1) := by decide +kernel
theorem dJ9_floorMod_7cf53_3 : decode cJ9_floorMod_7cf53 3 = .ok (.istore_n 2, 1) := by decide +kernel
theorem dJ9_floorMod_7cf53_4 : decode cJ9_floorMod_7cf53 4 = .ok (.iload_n 0, 1) := by decide +kernel
theorem dJ9_floorMod_7cf53_5 : decode cJ9_floorMod_7cf53 5 = .ok (.iload_n 1, 1) := by decide +kernel
theorem dJ9_floorMod_7cf53_6 : decode cJ9_floorMod_7cf53 6 = .ok (.ixor, 1) := by decide +kernel
theorem dJ9_floorMod_7cf53_7 : decode cJ9_floorMod_7cf53 7 = .ok (.ifCond .ge 11, 3) := by decide +kernel
theorem dJ9_floorMod_7cf53_10 : decode cJ9_floorMod_7cf53 10 = .ok (.iload_n 2, 1) := by decide +kernel
theorem dJ9_floorMod_7cf53_11 : decode cJ9_floorMod_7cf53 11 = .ok (.ifCond .eq 7, 3) := by decide +kernel
theorem dJ9_floorMod_7cf53_14 : decode cJ9_floorMod_7cf53 14 = .ok (.iload_n 2, 1) := by decide +kernel
theorem dJ9_floorMod_7cf53_15 : decode cJ9_floorMod_7cf53 15 = .ok (.iload_n 1, 1) := by decide +kernel
theorem dJ9_floorMod_7cf53_16 : decode cJ9_floorMod_7cf53 16 = .ok (.iadd, 1) := by decide +kernel
theorem dJ9_floorMod_7cf53_17 : decode cJ9_floorMod_7cf53 17 = .ok (.ireturn, 1) := by decide +kernel
theorem dJ9_floorMod_7cf53_18 : decode cJ9_floorMod_7cf53 18 = .ok (.iload_n 2, 1) := by decide +kernel
theorem dJ9_floorMod_7cf53_19 : decode cJ9_floorMod_7cf53 19 = .ok (.ireturn, 1) := by decide +kernel
theorem dX1_add_0 : decode cX1_add 0 = .ok (.aload_n 0, 1) := by decide +kernel
theorem dX1_add_1 : decode cX1_add 1 = .ok (.getfield 9, 3) := by decide +kernel
theorem dX1_add_4 : decode cX1_add 4 = .ok (.aload_n 0, 1) := by decide +kernel
theorem dX1_add_5 : decode cX1_add 5 = .ok (.getfield 15, 3) := by decide +kernel
theorem dX1_add_8 : decode cX1_add 8 = .ok (.arraylength, 1) := by decide +kernel
theorem dX1_add_9 : decode cX1_add 9 = .ok (.if_icmp .ge 24, 3) := by decide +kernel
theorem dX1_add_12 : decode cX1_add 12 = .ok (.aload_n 0, 1) := by decide +kernel
theorem dX1_add_13 : decode cX1_add 13 = .ok (.getfield 15, 3) := by decide +kernel
theorem dX1_add_16 : decode cX1_add 16 = .ok (.aload_n 0, 1) := by decide +kernel
theorem dX1_add_17 : decode cX1_add 17 = .ok (.getfield 9, 3) := by decide +kernel
theorem dX1_add_20 : decode cX1_add 20 = .ok (.iload_n 1, 1) := by decide +kernel
theorem dX1_add_21 : decode cX1_add 21 = .ok (.i2b, 1) := by decide +kernel
theorem dX1_add_22 : decode cX1_add 22 = .ok (.bastore, 1) := by decide +kernel
theorem dX1_add_23 : decode cX1_add 23 = .ok (.aload_n 0, 1) := by decide +kernel
theorem dX1_add_24 : decode cX1_add 24 = .ok (.dup, 1) := by decide +kernel
theorem dX1_add_25 : decode cX1_add 25 = .ok (.getfield 9, 3) := by decide +kernel
theorem dX1_add_28 : decode cX1_add 28 = .ok (.iconst 1, 1) := by decide +kernel
theorem dX1_add_29 : decode cX1_add 29 = .ok (.iadd, 1) := by decide +kernel
theorem dX1_add_30 : decode cX1_add 30 = .ok (.putfield 9, 3) := by decide +kernel
theorem dX1_add_33 : decode cX1_add 33 = .ok (.return_, 1) := by decide +kernel
theorem dX1_addFour_0 : decode cX1_addFour 0 = .ok (.bipush 24, 2) := by decide +kernel
theorem dX1_addFour_2 : decode cX1_addFour 2 = .ok (.istore_n 2, 1) := by decide +kernel
theorem dX1_addFour_3 : decode cX1_addFour 3 = .ok (.iload_n 2, 1) := by decide +kernel
theorem dX1_addFour_4 : decode cX1_addFour 4 = .ok (.ifCond .lt 16, 3) := by decide +kernel
theorem dX1_addFour_7 : decode cX1_addFour 7 = .ok (.aload_n 0, 1) := by decide +kernel
theorem dX1_addFour_8 : decode cX1_addFour 8 = .ok (.iload_n 1, 1) := by decide +kernel
theorem dX1_addFour_9 : decode cX1_addFour 9 = .ok (.iload_n 2, 1) := by decide +kernel
theorem dX1_addFour_10 : decode cX1_addFour 10 = .ok (.ishr, 1) := by decide +kernel
theorem dX1_addFour_11 : decode cX1_addFour 11 = .ok (.invokevirtual 19, 3) := by decide +kernel
theorem dX1_addFour_14 : decode cX1_addFour 14 = .ok (.iinc 2 (-8), 3) := by decide +kernel
theorem dX1_addFour_17 : decode cX1_addFour 17 = .ok (.goto (-14), 3) := by decide +kernel
theorem dX1_addFour_20 : decode cX1_addFour 20 = .ok (.return_, 1) := by decide +kernel
theorem dX1_addName_0 : decode cX1_addName 0 = .ok (.iconst 0, 1) := by decide +kernel
theorem dX1_addName_1 : decode cX1_addName 1 = .ok (.istore_n 3, 1) := by decide +kernel
theorem dX1_addName_2 : decode cX1_addName 2 = .ok (.iload_n 3, 1) := by decide +kernel
theorem dX1_addName_3 : decode cX1_addName 3 = .ok (.bipush 8, 2) := by decide +kernel
theorem dX1_addName_5 : decode cX1_addName 5 = .ok (.if_icmp .ge 29, 3) := by decide +kernel
theorem dX1_addName_8 : decode cX1_addName 8 = .ok (.lload_n 1, 1) := by decide +kernel
theorem dX1_addName_9 : decode cX1_addName 9 = .ok (.iload_n 3, 1) := by decide +kernel
theorem dX1_addName_10 : decode cX1_addName 10 = .ok (.invokestatic 23, 3) := by decide +kernel
theorem dX1_addName_13 : decode cX1_addName 13 = .ok (.ifCond .le 21, 3) := by decide +kernel
theorem dX1_addName_16 : decode cX1_addName 16 = .ok (.aload_n 0, 1) := by decide +kernel
theorem dX1_addName_17 : decode cX1_addName 17 = .ok (.bipush 96, 2) := by decide +kernel
theorem dX1_addName_19 : decode cX1_addName 19 = .ok (.lload_n 1, 1) := by decide +kernel
theorem dX1_addName_20 : decode cX1_addName 20 = .ok (.iload_n 3, 1) := by decide +kernel
theorem dX1_addName_21 : decode cX1_addName 21 = .ok (.invokestatic 23, 3) := by decide +kernel
theorem dX1_addName_24 : decode cX1_addName 24 = .ok (.iadd, 1) := by decide +kernel
theorem dX1_addName_25 : decode cX1_addName 25 = .ok (.invokevirtual 19, 3) := by decide +kernel
theorem dX1_addName_28 : decode cX1_addName 28 = .ok (.iinc 3 1, 3) := by decide +kernel
theorem dX1_addName_31 : decode cX1_addName 31 = .ok (.goto (-29), 3) := by decide +kernel
theorem dX1_addName_34 : decode cX1_addName 34 = .ok (.return_, 1) := by decide +kernel
theorem dX1_at_0 : decode cX1_at 0 = .ok (.iload_n 1, 1) := by decide +kernel
theorem dX1_at_1 : decode cX1_at 1 = .ok (.ifCond .lt 29, 3) := by decide +kernel
theorem dX1_at_4 : decode cX1_at 4 = .ok (.iload_n 1, 1) := by decide +kernel
theorem dX1_at_5 : decode cX1_at 5 = .ok (.aload_n 0, 1) := by decide +kernel
theorem dX1_at_6 : decode cX1_at 6 = .ok (.getfield 9, 3) := by decide +kernel
theorem dX1_at_9 : decode cX1_at 9 = .ok (.if_icmp .ge 21, 3) := by decide +kernel
theorem dX1_at_12 : decode cX1_at 12 = .ok (.iload_n 1, 1) := by decide +kernel
theorem dX1_at_13 : decode cX1_at 13 = .ok (.aload_n 0, 1) := by decide +kernel
theorem dX1_at_14 : decode cX1_at 14 = .ok (.getfield 15, 3) := by decide +kernel
theorem dX1_at_17 : decode cX1_at 17 = .ok (.arraylength, 1) := by decide +kernel
theorem dX1_at_18 : decode cX1_at 18 = .ok (.if_icmp .ge 12, 3) := by decide +kernel
theorem dX1_at_21 : decode cX1_at 21 = .ok (.aload_n 0, 1) := by decide +kernel
theorem dX1_at_22 : decode cX1_at 22 = .ok (.getfield 15, 3) := by decide +kernel
theorem dX1_at_25 : decode cX1_at 25 = .ok (.iload_n 1, 1) := by decide +kernel
theorem dX1_at_26 : decode cX1_at 26 = .ok (.baload, 1) := by decide +kernel
theorem dX1_at_27 : decode cX1_at 27 = .ok (.goto 4, 3) := by decide +kernel
theorem dX1_at_30 : decode cX1_at 30 = .ok (.iconst (-1), 1) := by decide +kernel
theorem dX1_at_31 : decode cX1_at 31 = .ok (.ireturn, 1) := by decide +kernel
theorem dX1_length_0 : decode cX1_length 0 = .ok (.aload_n 0, 1) := by decide +kernel
theorem dX1_length_1 : decode cX1_length 1 = .ok (.getfield 9, 3) := by decide +kernel
theorem dX1_length_4 : decode cX1_length 4 = .ok (.ireturn, 1) := by decide +kernel
theorem dX1_shorten_0 : decode cX1_shorten 0 = .ok (.iload_n 1, 1) := by decide +kernel
theorem dX1_shorten_1 : decode cX1_shorten 1 = .ok (.ifCond .lt 16, 3) := by decide +kernel
theorem dX1_shorten_4 : decode cX1_shorten 4 = .ok (.iload_n 1, 1) := by decide +kernel
theorem dX1_shorten_5 : decode cX1_shorten 5 = .ok (.aload_n 0, 1) := by decide +kernel
theorem dX1_shorten_6 : decode cX1_shorten 6 = .ok (.getfield 9, 3) := by decide +kernel
theorem dX1_shorten_9 : decode cX1_shorten 9 = .ok (.if_icmp .ge 8, 3) := by decide +kernel
theorem dX1_shorten_12 : decode cX1_shorten 12 = .ok (.aload_n 0, 1) := by decide +kernel
theorem dX1_shorten_13 : decode cX1_shorten 13 = .ok (.iload_n 1, 1) := by decide +kernel
theorem dX1_shorten_14 : decode cX1_shorten 14 = .ok (.putfield 9, 3) := by decide +kernel
theorem dX1_shorten_17 : decode cX1_shorten 17 = .ok (.return_, 1) := by decide +kernel
theorem dX1_wholeName_0 : decode cX1_wholeName 0 = .ok (.aload_n 0, 1) := by decide +kernel
theorem dX1_wholeName_1 : decode cX1_wholeName 1 = .ok (.getfield 9, 3) := by decide +kernel
theorem dX1_wholeName_4 : decode cX1_wholeName 4 = .ok (.bipush 8, 2) := by decide +kernel
theorem dX1_wholeName_6 : decode cX1_wholeName 6 = .ok (.if_icmp .le 5, 3) := by decide +kernel
theorem dX1_wholeName_9 : decode cX1_wholeName 9 = .ok (.lconst 0, 1) := by decide +kernel
theorem dX1_wholeName_10 : decode cX1_wholeName 10 = .ok (.lreturn, 1) := by decide +kernel
theorem dX1_wholeName_11 : decode cX1_wholeName 11 = .ok (.lconst 0, 1) := by decide +kernel
theorem dX1_wholeName_12 : decode cX1_wholeName 12 = .ok (.lstore_n 1, 1) := by decide +kernel
theorem dX1_wholeName_13 : decode cX1_wholeName 13 = .ok (.iconst 0, 1) := by decide +kernel
theorem dX1_wholeName_14 : decode cX1_wholeName 14 = .ok (.istore_n 3, 1) := by decide +kernel
theorem dX1_wholeName_15 : decode cX1_wholeName 15 = .ok (.iload_n 3, 1) := by decide +kernel
theorem dX1_wholeName_16 : decode cX1_wholeName 16 = .ok (.aload_n 0, 1) := by decide +kernel
theorem dX1_wholeName_17 : decode cX1_wholeName 17 = .ok (.getfield 9, 3) := by decide +kernel
theorem dX1_wholeName_20 : decode cX1_wholeName 20 = .ok (.if_icmp .ge 38, 3) := by decide +kernel
theorem dX1_wholeName_23 : decode cX1_wholeName 23 = .ok (.aload_n 0, 1) := by decide +kernel
theorem dX1_wholeName_24 : decode cX1_wholeName 24 = .ok (.iload_n 3, 1) := by decide +kernel
theorem dX1_wholeName_25 : decode cX1_wholeName 25 = .ok (.invokevirtual 27, 3) := by decide +kernel
theorem dX1_wholeName_28 : decode cX1_wholeName 28 = .ok (.invokestatic 31, 3) := by decide +kernel
theorem dX1_wholeName_31 : decode cX1_wholeName 31 = .ok (.ifCond .ne 5, 3) := by decide +kernel
theorem dX1_wholeName_34 : decode cX1_wholeName 34 = .ok (.lconst 0, 1) := by decide +kernel
theorem dX1_wholeName_35 : decode cX1_wholeName 35 = .ok (.lreturn, 1) := by decide +kernel
theorem dX1_wholeName_36 : decode cX1_wholeName 36 = .ok (.lload_n 1, 1) := by decide +kernel
theorem dX1_wholeName_37 : decode cX1_wholeName 37 = .ok (.iload_n 3, 1) := by decide +kernel
theorem dX1_wholeName_38 : decode cX1_wholeName 38 = .ok (.aload_n 0, 1) := by decide +kernel
theorem dX1_wholeName_39 : decode cX1_wholeName 39 = .ok (.iload_n 3, 1) := by decide +kernel
theorem dX1_wholeName_40 : decode cX1_wholeName 40 = .ok (.invokevirtual 27, 3) := by decide +kernel
theorem dX1_wholeName_43 : decode cX1_wholeName 43 = .ok (.bipush 97, 2) := by decide +kernel
theorem dX1_wholeName_45 : decode cX1_wholeName 45 = .ok (.isub, 1) := by decide +kernel
theorem dX1_wholeName_46 : decode cX1_wholeName 46 = .ok (.iconst 1, 1) := by decide +kernel
theorem dX1_wholeName_47 : decode cX1_wholeName 47 = .ok (.iadd, 1) := by decide +kernel
theorem dX1_wholeName_48 : decode cX1_wholeName 48 = .ok (.invokestatic 35, 3) := by decide +kernel
theorem dX1_wholeName_51 : decode cX1_wholeName 51 = .ok (.lstore_n 1, 1) := by decide +kernel
theorem dX1_wholeName_52 : decode cX1_wholeName 52 = .ok (.iinc 3 1, 3) := by decide +kernel
theorem dX1_wholeName_55 : decode cX1_wholeName 55 = .ok (.goto (-40), 3) := by decide +kernel
theorem dX1_wholeName_58 : decode cX1_wholeName 58 = .ok (.lload_n 1, 1) := by decide +kernel
theorem dX1_wholeName_59 : decode cX1_wholeName 59 = .ok (.lreturn, 1) := by decide +kernel
theorem dX2_add_0 : decode cX2_add 0 = .ok (.aload_n 0, 1) := by decide +kernel
theorem dX2_add_1 : decode cX2_add 1 = .ok (.getfield 19, 3) := by decide +kernel
theorem dX2_add_4 : decode cX2_add 4 = .ok (.bipush 11, 2) := by decide +kernel
theorem dX2_add_6 : decode cX2_add 6 = .ok (.if_icmp .ge 25, 3) := by decide +kernel
theorem dX2_add_9 : decode cX2_add 9 = .ok (.aload_n 0, 1) := by decide +kernel
theorem dX2_add_10 : decode cX2_add 10 = .ok (.dup, 1) := by decide +kernel
theorem dX2_add_11 : decode cX2_add 11 = .ok (.getfield 19, 3) := by decide +kernel
theorem dX2_add_14 : decode cX2_add 14 = .ok (.iconst 1, 1) := by decide +kernel
theorem dX2_add_15 : decode cX2_add 15 = .ok (.iadd, 1) := by decide +kernel
theorem dX2_add_16 : decode cX2_add 16 = .ok (.putfield 19, 3) := by decide +kernel
theorem dX2_add_19 : decode cX2_add 19 = .ok (.aload_n 0, 1) := by decide +kernel
theorem dX2_add_20 : decode cX2_add 20 = .ok (.aload_n 0, 1) := by decide +kernel
theorem dX2_add_21 : decode cX2_add 21 = .ok (.getfield 19, 3) := by decide +kernel
theorem dX2_add_24 : decode cX2_add 24 = .ok (.iconst 1, 1) := by decide +kernel
theorem dX2_add_25 : decode cX2_add 25 = .ok (.isub, 1) := by decide +kernel
theorem dX2_add_26 : decode cX2_add 26 = .ok (.lload_n 1, 1) := by decide +kernel
theorem dX2_add_27 : decode cX2_add 27 = .ok (.iload_n 3, 1) := by decide +kernel
theorem dX2_add_28 : decode cX2_add 28 = .ok (.invokevirtual 47, 3) := by decide +kernel
theorem dX2_add_31 : decode cX2_add 31 = .ok (.return_, 1) := by decide +kernel
theorem dX2_back_0 : decode cX2_back 0 = .ok (.aload_n 0, 1) := by decide +kernel
theorem dX2_back_1 : decode cX2_back 1 = .ok (.getfield 23, 3) := by decide +kernel
theorem dX2_back_4 : decode cX2_back 4 = .ok (.ireturn, 1) := by decide +kernel
theorem dX2_carNamed_0 : decode cX2_carNamed 0 = .ok (.iconst 0, 1) := by decide +kernel
theorem dX2_carNamed_1 : decode cX2_carNamed 1 = .ok (.istore_n 3, 1) := by decide +kernel
theorem dX2_carNamed_2 : decode cX2_carNamed 2 = .ok (.iload_n 3, 1) := by decide +kernel
theorem dX2_carNamed_3 : decode cX2_carNamed 3 = .ok (.aload_n 0, 1) := by decide +kernel
theorem dX2_carNamed_4 : decode cX2_carNamed 4 = .ok (.getfield 19, 3) := by decide +kernel
theorem dX2_carNamed_7 : decode cX2_carNamed 7 = .ok (.if_icmp .ge 21, 3) := by decide +kernel
theorem dX2_carNamed_10 : decode cX2_carNamed 10 = .ok (.aload_n 0, 1) := by decide +kernel
theorem dX2_carNamed_11 : decode cX2_carNamed 11 = .ok (.iload_n 3, 1) := by decide +kernel
theorem dX2_carNamed_12 : decode cX2_carNamed 12 = .ok (.invokevirtual 30, 3) := by decide +kernel
theorem dX2_carNamed_15 : decode cX2_carNamed 15 = .ok (.lload_n 1, 1) := by decide +kernel
theorem dX2_carNamed_16 : decode cX2_carNamed 16 = .ok (.lcmp, 1) := by decide +kernel
theorem dX2_carNamed_17 : decode cX2_carNamed 17 = .ok (.ifCond .ne 5, 3) := by decide +kernel
theorem dX2_carNamed_20 : decode cX2_carNamed 20 = .ok (.iload_n 3, 1) := by decide +kernel
theorem dX2_carNamed_21 : decode cX2_carNamed 21 = .ok (.ireturn, 1) := by decide +kernel
theorem dX2_carNamed_22 : decode cX2_carNamed 22 = .ok (.iinc 3 1, 3) := by decide +kernel
theorem dX2_carNamed_25 : decode cX2_carNamed 25 = .ok (.goto (-23), 3) := by decide +kernel
theorem dX2_carNamed_28 : decode cX2_carNamed 28 = .ok (.iconst (-1), 1) := by decide +kernel
theorem dX2_carNamed_29 : decode cX2_carNamed 29 = .ok (.ireturn, 1) := by decide +kernel
theorem dX2_changeBack_0 : decode cX2_changeBack 0 = .ok (.aload_n 0, 1) := by decide +kernel
theorem dX2_changeBack_1 : decode cX2_changeBack 1 = .ok (.iload_n 1, 1) := by decide +kernel
theorem dX2_changeBack_2 : decode cX2_changeBack 2 = .ok (.putfield 23, 3) := by decide +kernel
theorem dX2_changeBack_5 : decode cX2_changeBack 5 = .ok (.return_, 1) := by decide +kernel
theorem dX2_changePreference_0 : decode cX2_changePreference 0 = .ok (.aload_n 0, 1) := by decide +kernel
theorem dX2_changePreference_1 : decode cX2_changePreference 1 = .ok (.iload_n 1, 1) := by decide +kernel
theorem dX2_changePreference_2 : decode cX2_changePreference 2 = .ok (.invokevirtual 26, 3) := by decide +kernel
theorem dX2_changePreference_5 : decode cX2_changePreference 5 = .ok (.ifCond .eq 10, 3) := by decide +kernel
theorem dX2_changePreference_8 : decode cX2_changePreference 8 = .ok (.aload_n 0, 1) := by decide +kernel
theorem dX2_changePreference_9 : decode cX2_changePreference 9 = .ok (.getfield 15, 3) := by decide +kernel
theorem dX2_changePreference_12 : decode cX2_changePreference 12 = .ok (.iload_n 1, 1) := by decide +kernel
theorem dX2_changePreference_13 : decode cX2_changePreference 13 = .ok (.iload_n 2, 1) := by decide +kernel
theorem dX2_changePreference_14 : decode cX2_changePreference 14 = .ok (.iastore, 1) := by decide +kernel
theorem dX2_changePreference_15 : decode cX2_changePreference 15 = .ok (.return_, 1) := by decide +kernel
theorem dX2_copyFrom_0 : decode cX2_copyFrom 0 = .ok (.aload_n 1, 1) := by decide +kernel
theorem dX2_copyFrom_1 : decode cX2_copyFrom 1 = .ok (.getfield 9, 3) := by decide +kernel
theorem dX2_copyFrom_4 : decode cX2_copyFrom 4 = .ok (.iconst 0, 1) := by decide +kernel
theorem dX2_copyFrom_5 : decode cX2_copyFrom 5 = .ok (.aload_n 0, 1) := by decide +kernel
theorem dX2_copyFrom_6 : decode cX2_copyFrom 6 = .ok (.getfield 9, 3) := by decide +kernel
theorem dX2_copyFrom_9 : decode cX2_copyFrom 9 = .ok (.iconst 0, 1) := by decide +kernel
theorem dX2_copyFrom_10 : decode cX2_copyFrom 10 = .ok (.bipush 11, 2) := by decide +kernel
theorem dX2_copyFrom_12 : decode cX2_copyFrom 12 = .ok (.invokestatic 41, 3) := by decide +kernel
theorem dX2_copyFrom_15 : decode cX2_copyFrom 15 = .ok (.aload_n 1, 1) := by decide +kernel
theorem dX2_copyFrom_16 : decode cX2_copyFrom 16 = .ok (.getfield 15, 3) := by decide +kernel
theorem dX2_copyFrom_19 : decode cX2_copyFrom 19 = .ok (.iconst 0, 1) := by decide +kernel
theorem dX2_copyFrom_20 : decode cX2_copyFrom 20 = .ok (.aload_n 0, 1) := by decide +kernel
theorem dX2_copyFrom_21 : decode cX2_copyFrom 21 = .ok (.getfield 15, 3) := by decide +kernel
theorem dX2_copyFrom_24 : decode cX2_copyFrom 24 = .ok (.iconst 0, 1) := by decide +kernel
theorem dX2_copyFrom_25 : decode cX2_copyFrom 25 = .ok (.bipush 11, 2) := by decide +kernel
theorem dX2_copyFrom_27 : decode cX2_copyFrom 27 = .ok (.invokestatic 41, 3) := by decide +kernel
theorem dX2_copyFrom_30 : decode cX2_copyFrom 30 = .ok (.aload_n 0, 1) := by decide +kernel
theorem dX2_copyFrom_31 : decode cX2_copyFrom 31 = .ok (.aload_n 1, 1) := by decide +kernel
theorem dX2_copyFrom_32 : decode cX2_copyFrom 32 = .ok (.getfield 19, 3) := by decide +kernel
theorem dX2_copyFrom_35 : decode cX2_copyFrom 35 = .ok (.putfield 19, 3) := by decide +kernel
theorem dX2_copyFrom_38 : decode cX2_copyFrom 38 = .ok (.aload_n 0, 1) := by decide +kernel
theorem dX2_copyFrom_39 : decode cX2_copyFrom 39 = .ok (.aload_n 1, 1) := by decide +kernel
theorem dX2_copyFrom_40 : decode cX2_copyFrom 40 = .ok (.getfield 23, 3) := by decide +kernel
theorem dX2_copyFrom_43 : decode cX2_copyFrom 43 = .ok (.putfield 23, 3) := by decide +kernel
theorem dX2_copyFrom_46 : decode cX2_copyFrom 46 = .ok (.return_, 1) := by decide +kernel
theorem dX2_count_0 : decode cX2_count 0 = .ok (.aload_n 0, 1) := by decide +kernel
theorem dX2_count_1 : decode cX2_count 1 = .ok (.getfield 19, 3) := by decide +kernel
theorem dX2_count_4 : decode cX2_count 4 = .ok (.ireturn, 1) := by decide +kernel
theorem dX2_empty_0 : decode cX2_empty 0 = .ok (.aload_n 0, 1) := by decide +kernel
theorem dX2_empty_1 : decode cX2_empty 1 = .ok (.iconst 0, 1) := by decide +kernel
theorem dX2_empty_2 : decode cX2_empty 2 = .ok (.putfield 19, 3) := by decide +kernel
theorem dX2_empty_5 : decode cX2_empty 5 = .ok (.aload_n 0, 1) := by decide +kernel
theorem dX2_empty_6 : decode cX2_empty 6 = .ok (.iconst 0, 1) := by decide +kernel
theorem dX2_empty_7 : decode cX2_empty 7 = .ok (.putfield 23, 3) := by decide +kernel
theorem dX2_empty_10 : decode cX2_empty 10 = .ok (.return_, 1) := by decide +kernel
theorem dX2_exchange_0 : decode cX2_exchange 0 = .ok (.aload_n 0, 1) := by decide +kernel
theorem dX2_exchange_1 : decode cX2_exchange 1 = .ok (.iload_n 1, 1) := by decide +kernel
theorem dX2_exchange_2 : decode cX2_exchange 2 = .ok (.invokevirtual 26, 3) := by decide +kernel
theorem dX2_exchange_5 : decode cX2_exchange 5 = .ok (.ifCond .eq 65, 3) := by decide +kernel
theorem dX2_exchange_8 : decode cX2_exchange 8 = .ok (.aload_n 0, 1) := by decide +kernel
theorem dX2_exchange_9 : decode cX2_exchange 9 = .ok (.iload_n 2, 1) := by decide +kernel
theorem dX2_exchange_10 : decode cX2_exchange 10 = .ok (.invokevirtual 26, 3) := by decide +kernel
theorem dX2_exchange_13 : decode cX2_exchange 13 = .ok (.ifCond .eq 57, 3) := by decide +kernel
theorem dX2_exchange_16 : decode cX2_exchange 16 = .ok (.aload_n 0, 1) := by decide +kernel
theorem dX2_exchange_17 : decode cX2_exchange 17 = .ok (.getfield 9, 3) := by decide +kernel
theorem dX2_exchange_20 : decode cX2_exchange 20 = .ok (.iload_n 1, 1) := by decide +kernel
theorem dX2_exchange_21 : decode cX2_exchange 21 = .ok (.laload, 1) := by decide +kernel
theorem dX2_exchange_22 : decode cX2_exchange 22 = .ok (.lstore_n 3, 1) := by decide +kernel
theorem dX2_exchange_23 : decode cX2_exchange 23 = .ok (.aload_n 0, 1) := by decide +kernel
theorem dX2_exchange_24 : decode cX2_exchange 24 = .ok (.getfield 15, 3) := by decide +kernel
theorem dX2_exchange_27 : decode cX2_exchange 27 = .ok (.iload_n 1, 1) := by decide +kernel
theorem dX2_exchange_28 : decode cX2_exchange 28 = .ok (.iaload, 1) := by decide +kernel
theorem dX2_exchange_29 : decode cX2_exchange 29 = .ok (.istore 5, 2) := by decide +kernel
theorem dX2_exchange_31 : decode cX2_exchange 31 = .ok (.aload_n 0, 1) := by decide +kernel
theorem dX2_exchange_32 : decode cX2_exchange 32 = .ok (.getfield 9, 3) := by decide +kernel
theorem dX2_exchange_35 : decode cX2_exchange 35 = .ok (.iload_n 1, 1) := by decide +kernel
theorem dX2_exchange_36 : decode cX2_exchange 36 = .ok (.aload_n 0, 1) := by decide +kernel
theorem dX2_exchange_37 : decode cX2_exchange 37 = .ok (.getfield 9, 3) := by decide +kernel
theorem dX2_exchange_40 : decode cX2_exchange 40 = .ok (.iload_n 2, 1) := by decide +kernel
theorem dX2_exchange_41 : decode cX2_exchange 41 = .ok (.laload, 1) := by decide +kernel
theorem dX2_exchange_42 : decode cX2_exchange 42 = .ok (.lastore, 1) := by decide +kernel
theorem dX2_exchange_43 : decode cX2_exchange 43 = .ok (.aload_n 0, 1) := by decide +kernel
theorem dX2_exchange_44 : decode cX2_exchange 44 = .ok (.getfield 15, 3) := by decide +kernel
theorem dX2_exchange_47 : decode cX2_exchange 47 = .ok (.iload_n 1, 1) := by decide +kernel
theorem dX2_exchange_48 : decode cX2_exchange 48 = .ok (.aload_n 0, 1) := by decide +kernel
theorem dX2_exchange_49 : decode cX2_exchange 49 = .ok (.getfield 15, 3) := by decide +kernel
theorem dX2_exchange_52 : decode cX2_exchange 52 = .ok (.iload_n 2, 1) := by decide +kernel
theorem dX2_exchange_53 : decode cX2_exchange 53 = .ok (.iaload, 1) := by decide +kernel
theorem dX2_exchange_54 : decode cX2_exchange 54 = .ok (.iastore, 1) := by decide +kernel
theorem dX2_exchange_55 : decode cX2_exchange 55 = .ok (.aload_n 0, 1) := by decide +kernel
theorem dX2_exchange_56 : decode cX2_exchange 56 = .ok (.getfield 9, 3) := by decide +kernel
theorem dX2_exchange_59 : decode cX2_exchange 59 = .ok (.iload_n 2, 1) := by decide +kernel
theorem dX2_exchange_60 : decode cX2_exchange 60 = .ok (.lload_n 3, 1) := by decide +kernel
theorem dX2_exchange_61 : decode cX2_exchange 61 = .ok (.lastore, 1) := by decide +kernel
theorem dX2_exchange_62 : decode cX2_exchange 62 = .ok (.aload_n 0, 1) := by decide +kernel
theorem dX2_exchange_63 : decode cX2_exchange 63 = .ok (.getfield 15, 3) := by decide +kernel
theorem dX2_exchange_66 : decode cX2_exchange 66 = .ok (.iload_n 2, 1) := by decide +kernel
theorem dX2_exchange_67 : decode cX2_exchange 67 = .ok (.iload 5, 2) := by decide +kernel
theorem dX2_exchange_69 : decode cX2_exchange 69 = .ok (.iastore, 1) := by decide +kernel
theorem dX2_exchange_70 : decode cX2_exchange 70 = .ok (.return_, 1) := by decide +kernel
theorem dX2_hasCar_0 : decode cX2_hasCar 0 = .ok (.iload_n 1, 1) := by decide +kernel
theorem dX2_hasCar_1 : decode cX2_hasCar 1 = .ok (.ifCond .lt 21, 3) := by decide +kernel
theorem dX2_hasCar_4 : decode cX2_hasCar 4 = .ok (.iload_n 1, 1) := by decide +kernel
theorem dX2_hasCar_5 : decode cX2_hasCar 5 = .ok (.aload_n 0, 1) := by decide +kernel
theorem dX2_hasCar_6 : decode cX2_hasCar 6 = .ok (.getfield 19, 3) := by decide +kernel
theorem dX2_hasCar_9 : decode cX2_hasCar 9 = .ok (.if_icmp .ge 13, 3) := by decide +kernel
theorem dX2_hasCar_12 : decode cX2_hasCar 12 = .ok (.iload_n 1, 1) := by decide +kernel
theorem dX2_hasCar_13 : decode cX2_hasCar 13 = .ok (.bipush 11, 2) := by decide +kernel
theorem dX2_hasCar_15 : decode cX2_hasCar 15 = .ok (.if_icmp .ge 7, 3) := by decide +kernel
theorem dX2_hasCar_18 : decode cX2_hasCar 18 = .ok (.iconst 1, 1) := by decide +kernel
theorem dX2_hasCar_19 : decode cX2_hasCar 19 = .ok (.goto 4, 3) := by decide +kernel
theorem dX2_hasCar_22 : decode cX2_hasCar 22 = .ok (.iconst 0, 1) := by decide +kernel
theorem dX2_hasCar_23 : decode cX2_hasCar 23 = .ok (.ireturn, 1) := by decide +kernel
theorem dX2_hasSpot_0 : decode cX2_hasSpot 0 = .ok (.iload_n 1, 1) := by decide +kernel
theorem dX2_hasSpot_1 : decode cX2_hasSpot 1 = .ok (.ifCond .lt 15, 3) := by decide +kernel
theorem dX2_hasSpot_4 : decode cX2_hasSpot 4 = .ok (.iload_n 1, 1) := by decide +kernel
theorem dX2_hasSpot_5 : decode cX2_hasSpot 5 = .ok (.aload_n 0, 1) := by decide +kernel
theorem dX2_hasSpot_6 : decode cX2_hasSpot 6 = .ok (.getfield 19, 3) := by decide +kernel
theorem dX2_hasSpot_9 : decode cX2_hasSpot 9 = .ok (.if_icmp .gt 7, 3) := by decide +kernel
theorem dX2_hasSpot_12 : decode cX2_hasSpot 12 = .ok (.iconst 1, 1) := by decide +kernel
theorem dX2_hasSpot_13 : decode cX2_hasSpot 13 = .ok (.goto 4, 3) := by decide +kernel
theorem dX2_hasSpot_16 : decode cX2_hasSpot 16 = .ok (.iconst 0, 1) := by decide +kernel
theorem dX2_hasSpot_17 : decode cX2_hasSpot 17 = .ok (.ireturn, 1) := by decide +kernel
theorem dX2_nameOf_0 : decode cX2_nameOf 0 = .ok (.aload_n 0, 1) := by decide +kernel
theorem dX2_nameOf_1 : decode cX2_nameOf 1 = .ok (.iload_n 1, 1) := by decide +kernel
theorem dX2_nameOf_2 : decode cX2_nameOf 2 = .ok (.invokevirtual 26, 3) := by decide +kernel
theorem dX2_nameOf_5 : decode cX2_nameOf 5 = .ok (.ifCond .eq 12, 3) := by decide +kernel
theorem dX2_nameOf_8 : decode cX2_nameOf 8 = .ok (.aload_n 0, 1) := by decide +kernel
theorem dX2_nameOf_9 : decode cX2_nameOf 9 = .ok (.getfield 9, 3) := by decide +kernel
theorem dX2_nameOf_12 : decode cX2_nameOf 12 = .ok (.iload_n 1, 1) := by decide +kernel
theorem dX2_nameOf_13 : decode cX2_nameOf 13 = .ok (.laload, 1) := by decide +kernel
theorem dX2_nameOf_14 : decode cX2_nameOf 14 = .ok (.goto 4, 3) := by decide +kernel
theorem dX2_nameOf_17 : decode cX2_nameOf 17 = .ok (.lconst 0, 1) := by decide +kernel
theorem dX2_nameOf_18 : decode cX2_nameOf 18 = .ok (.lreturn, 1) := by decide +kernel
theorem dX2_preferenceOf_0 : decode cX2_preferenceOf 0 = .ok (.aload_n 0, 1) := by decide +kernel
theorem dX2_preferenceOf_1 : decode cX2_preferenceOf 1 = .ok (.iload_n 1, 1) := by decide +kernel
theorem dX2_preferenceOf_2 : decode cX2_preferenceOf 2 = .ok (.invokevirtual 26, 3) := by decide +kernel
theorem dX2_preferenceOf_5 : decode cX2_preferenceOf 5 = .ok (.ifCond .eq 12, 3) := by decide +kernel
theorem dX2_preferenceOf_8 : decode cX2_preferenceOf 8 = .ok (.aload_n 0, 1) := by decide +kernel
theorem dX2_preferenceOf_9 : decode cX2_preferenceOf 9 = .ok (.getfield 15, 3) := by decide +kernel
theorem dX2_preferenceOf_12 : decode cX2_preferenceOf 12 = .ok (.iload_n 1, 1) := by decide +kernel
theorem dX2_preferenceOf_13 : decode cX2_preferenceOf 13 = .ok (.iaload, 1) := by decide +kernel
theorem dX2_preferenceOf_14 : decode cX2_preferenceOf 14 = .ok (.goto 4, 3) := by decide +kernel
theorem dX2_preferenceOf_17 : decode cX2_preferenceOf 17 = .ok (.iconst (-1), 1) := by decide +kernel
theorem dX2_preferenceOf_18 : decode cX2_preferenceOf 18 = .ok (.ireturn, 1) := by decide +kernel
theorem dX2_preferredSpots_0 : decode cX2_preferredSpots 0 = .ok (.iconst 0, 1) := by decide +kernel
theorem dX2_preferredSpots_1 : decode cX2_preferredSpots 1 = .ok (.istore_n 1, 1) := by decide +kernel
theorem dX2_preferredSpots_2 : decode cX2_preferredSpots 2 = .ok (.iconst 0, 1) := by decide +kernel
theorem dX2_preferredSpots_3 : decode cX2_preferredSpots 3 = .ok (.istore_n 2, 1) := by decide +kernel
theorem dX2_preferredSpots_4 : decode cX2_preferredSpots 4 = .ok (.iload_n 2, 1) := by decide +kernel
theorem dX2_preferredSpots_5 : decode cX2_preferredSpots 5 = .ok (.aload_n 0, 1) := by decide +kernel
theorem dX2_preferredSpots_6 : decode cX2_preferredSpots 6 = .ok (.getfield 19, 3) := by decide +kernel
theorem dX2_preferredSpots_9 : decode cX2_preferredSpots 9 = .ok (.if_icmp .gt 20, 3) := by decide +kernel
theorem dX2_preferredSpots_12 : decode cX2_preferredSpots 12 = .ok (.aload_n 0, 1) := by decide +kernel
theorem dX2_preferredSpots_13 : decode cX2_preferredSpots 13 = .ok (.iload_n 2, 1) := by decide +kernel
theorem dX2_preferredSpots_14 : decode cX2_preferredSpots 14 = .ok (.invokevirtual 38, 3) := by decide +kernel
theorem dX2_preferredSpots_17 : decode cX2_preferredSpots 17 = .ok (.ifCond .le 6, 3) := by decide +kernel
theorem dX2_preferredSpots_20 : decode cX2_preferredSpots 20 = .ok (.iinc 1 1, 3) := by decide +kernel
theorem dX2_preferredSpots_23 : decode cX2_preferredSpots 23 = .ok (.iinc 2 1, 3) := by decide +kernel
theorem dX2_preferredSpots_26 : decode cX2_preferredSpots 26 = .ok (.goto (-22), 3) := by decide +kernel
theorem dX2_preferredSpots_29 : decode cX2_preferredSpots 29 = .ok (.iload_n 1, 1) := by decide +kernel
theorem dX2_preferredSpots_30 : decode cX2_preferredSpots 30 = .ok (.ireturn, 1) := by decide +kernel
theorem dX2_put_0 : decode cX2_put 0 = .ok (.aload_n 0, 1) := by decide +kernel
theorem dX2_put_1 : decode cX2_put 1 = .ok (.iload_n 1, 1) := by decide +kernel
theorem dX2_put_2 : decode cX2_put 2 = .ok (.invokevirtual 26, 3) := by decide +kernel
theorem dX2_put_5 : decode cX2_put 5 = .ok (.ifCond .eq 18, 3) := by decide +kernel
theorem dX2_put_8 : decode cX2_put 8 = .ok (.aload_n 0, 1) := by decide +kernel
theorem dX2_put_9 : decode cX2_put 9 = .ok (.getfield 9, 3) := by decide +kernel
theorem dX2_put_12 : decode cX2_put 12 = .ok (.iload_n 1, 1) := by decide +kernel
theorem dX2_put_13 : decode cX2_put 13 = .ok (.lload_n 2, 1) := by decide +kernel
theorem dX2_put_14 : decode cX2_put 14 = .ok (.lastore, 1) := by decide +kernel
theorem dX2_put_15 : decode cX2_put 15 = .ok (.aload_n 0, 1) := by decide +kernel
theorem dX2_put_16 : decode cX2_put 16 = .ok (.getfield 15, 3) := by decide +kernel
theorem dX2_put_19 : decode cX2_put 19 = .ok (.iload_n 1, 1) := by decide +kernel
theorem dX2_put_20 : decode cX2_put 20 = .ok (.iload 4, 2) := by decide +kernel
theorem dX2_put_22 : decode cX2_put 22 = .ok (.iastore, 1) := by decide +kernel
theorem dX2_put_23 : decode cX2_put 23 = .ok (.return_, 1) := by decide +kernel
theorem dX2_rankOf_0 : decode cX2_rankOf 0 = .ok (.aload_n 0, 1) := by decide +kernel
theorem dX2_rankOf_1 : decode cX2_rankOf 1 = .ok (.iload_n 1, 1) := by decide +kernel
theorem dX2_rankOf_2 : decode cX2_rankOf 2 = .ok (.invokevirtual 26, 3) := by decide +kernel
theorem dX2_rankOf_5 : decode cX2_rankOf 5 = .ok (.ifCond .ne 5, 3) := by decide +kernel
theorem dX2_rankOf_8 : decode cX2_rankOf 8 = .ok (.iconst (-1), 1) := by decide +kernel
theorem dX2_rankOf_9 : decode cX2_rankOf 9 = .ok (.ireturn, 1) := by decide +kernel
theorem dX2_rankOf_10 : decode cX2_rankOf 10 = .ok (.aload_n 0, 1) := by decide +kernel
theorem dX2_rankOf_11 : decode cX2_rankOf 11 = .ok (.getfield 15, 3) := by decide +kernel
theorem dX2_rankOf_14 : decode cX2_rankOf 14 = .ok (.iload_n 1, 1) := by decide +kernel
theorem dX2_rankOf_15 : decode cX2_rankOf 15 = .ok (.iaload, 1) := by decide +kernel
theorem dX2_rankOf_16 : decode cX2_rankOf 16 = .ok (.istore_n 2, 1) := by decide +kernel
theorem dX2_rankOf_17 : decode cX2_rankOf 17 = .ok (.iconst 0, 1) := by decide +kernel
theorem dX2_rankOf_18 : decode cX2_rankOf 18 = .ok (.istore_n 3, 1) := by decide +kernel
theorem dX2_rankOf_19 : decode cX2_rankOf 19 = .ok (.iconst 0, 1) := by decide +kernel
theorem dX2_rankOf_20 : decode cX2_rankOf 20 = .ok (.istore 4, 2) := by decide +kernel
theorem dX2_rankOf_22 : decode cX2_rankOf 22 = .ok (.iload 4, 2) := by decide +kernel
theorem dX2_rankOf_24 : decode cX2_rankOf 24 = .ok (.aload_n 0, 1) := by decide +kernel
theorem dX2_rankOf_25 : decode cX2_rankOf 25 = .ok (.getfield 19, 3) := by decide +kernel
theorem dX2_rankOf_28 : decode cX2_rankOf 28 = .ok (.if_icmp .ge 47, 3) := by decide +kernel
theorem dX2_rankOf_31 : decode cX2_rankOf 31 = .ok (.iload 4, 2) := by decide +kernel
theorem dX2_rankOf_33 : decode cX2_rankOf 33 = .ok (.bipush 11, 2) := by decide +kernel
theorem dX2_rankOf_35 : decode cX2_rankOf 35 = .ok (.if_icmp .ge 40, 3) := by decide +kernel
theorem dX2_rankOf_38 : decode cX2_rankOf 38 = .ok (.aload_n 0, 1) := by decide +kernel
theorem dX2_rankOf_39 : decode cX2_rankOf 39 = .ok (.getfield 15, 3) := by decide +kernel
theorem dX2_rankOf_42 : decode cX2_rankOf 42 = .ok (.iload 4, 2) := by decide +kernel
theorem dX2_rankOf_44 : decode cX2_rankOf 44 = .ok (.iaload, 1) := by decide +kernel
theorem dX2_rankOf_45 : decode cX2_rankOf 45 = .ok (.iload_n 2, 1) := by decide +kernel
theorem dX2_rankOf_46 : decode cX2_rankOf 46 = .ok (.if_icmp .lt 20, 3) := by decide +kernel
theorem dX2_rankOf_49 : decode cX2_rankOf 49 = .ok (.aload_n 0, 1) := by decide +kernel
theorem dX2_rankOf_50 : decode cX2_rankOf 50 = .ok (.getfield 15, 3) := by decide +kernel
theorem dX2_rankOf_53 : decode cX2_rankOf 53 = .ok (.iload 4, 2) := by decide +kernel
theorem dX2_rankOf_55 : decode cX2_rankOf 55 = .ok (.iaload, 1) := by decide +kernel
theorem dX2_rankOf_56 : decode cX2_rankOf 56 = .ok (.iload_n 2, 1) := by decide +kernel
theorem dX2_rankOf_57 : decode cX2_rankOf 57 = .ok (.if_icmp .ne 12, 3) := by decide +kernel
theorem dX2_rankOf_60 : decode cX2_rankOf 60 = .ok (.iload 4, 2) := by decide +kernel
theorem dX2_rankOf_62 : decode cX2_rankOf 62 = .ok (.iload_n 1, 1) := by decide +kernel
theorem dX2_rankOf_63 : decode cX2_rankOf 63 = .ok (.if_icmp .ge 6, 3) := by decide +kernel
theorem dX2_rankOf_66 : decode cX2_rankOf 66 = .ok (.iinc 3 1, 3) := by decide +kernel
theorem dX2_rankOf_69 : decode cX2_rankOf 69 = .ok (.iinc 4 1, 3) := by decide +kernel
theorem dX2_rankOf_72 : decode cX2_rankOf 72 = .ok (.goto (-50), 3) := by decide +kernel
theorem dX2_rankOf_75 : decode cX2_rankOf 75 = .ok (.iload_n 3, 1) := by decide +kernel
theorem dX2_rankOf_76 : decode cX2_rankOf 76 = .ok (.ireturn, 1) := by decide +kernel
theorem dX2_remove_0 : decode cX2_remove 0 = .ok (.iload_n 1, 1) := by decide +kernel
theorem dX2_remove_1 : decode cX2_remove 1 = .ok (.iconst 1, 1) := by decide +kernel
theorem dX2_remove_2 : decode cX2_remove 2 = .ok (.iadd, 1) := by decide +kernel
theorem dX2_remove_3 : decode cX2_remove 3 = .ok (.istore_n 2, 1) := by decide +kernel
theorem dX2_remove_4 : decode cX2_remove 4 = .ok (.iload_n 2, 1) := by decide +kernel
theorem dX2_remove_5 : decode cX2_remove 5 = .ok (.aload_n 0, 1) := by decide +kernel
theorem dX2_remove_6 : decode cX2_remove 6 = .ok (.getfield 19, 3) := by decide +kernel
theorem dX2_remove_9 : decode cX2_remove 9 = .ok (.if_icmp .ge 17, 3) := by decide +kernel
theorem dX2_remove_12 : decode cX2_remove 12 = .ok (.aload_n 0, 1) := by decide +kernel
theorem dX2_remove_13 : decode cX2_remove 13 = .ok (.iload_n 2, 1) := by decide +kernel
theorem dX2_remove_14 : decode cX2_remove 14 = .ok (.iconst 1, 1) := by decide +kernel
theorem dX2_remove_15 : decode cX2_remove 15 = .ok (.isub, 1) := by decide +kernel
theorem dX2_remove_16 : decode cX2_remove 16 = .ok (.iload_n 2, 1) := by decide +kernel
theorem dX2_remove_17 : decode cX2_remove 17 = .ok (.invokevirtual 51, 3) := by decide +kernel
theorem dX2_remove_20 : decode cX2_remove 20 = .ok (.iinc 2 1, 3) := by decide +kernel
theorem dX2_remove_23 : decode cX2_remove 23 = .ok (.goto (-19), 3) := by decide +kernel
theorem dX2_remove_26 : decode cX2_remove 26 = .ok (.aload_n 0, 1) := by decide +kernel
theorem dX2_remove_27 : decode cX2_remove 27 = .ok (.iload_n 1, 1) := by decide +kernel
theorem dX2_remove_28 : decode cX2_remove 28 = .ok (.invokevirtual 26, 3) := by decide +kernel
theorem dX2_remove_31 : decode cX2_remove 31 = .ok (.ifCond .eq 13, 3) := by decide +kernel
theorem dX2_remove_34 : decode cX2_remove 34 = .ok (.aload_n 0, 1) := by decide +kernel
theorem dX2_remove_35 : decode cX2_remove 35 = .ok (.dup, 1) := by decide +kernel
theorem dX2_remove_36 : decode cX2_remove 36 = .ok (.getfield 19, 3) := by decide +kernel
theorem dX2_remove_39 : decode cX2_remove 39 = .ok (.iconst 1, 1) := by decide +kernel
theorem dX2_remove_40 : decode cX2_remove 40 = .ok (.isub, 1) := by decide +kernel
theorem dX2_remove_41 : decode cX2_remove 41 = .ok (.putfield 19, 3) := by decide +kernel
theorem dX2_remove_44 : decode cX2_remove 44 = .ok (.return_, 1) := by decide +kernel
theorem dX2_spots_0 : decode cX2_spots 0 = .ok (.aload_n 0, 1) := by decide +kernel
theorem dX2_spots_1 : decode cX2_spots 1 = .ok (.getfield 19, 3) := by decide +kernel
theorem dX2_spots_4 : decode cX2_spots 4 = .ok (.iconst 1, 1) := by decide +kernel
theorem dX2_spots_5 : decode cX2_spots 5 = .ok (.iadd, 1) := by decide +kernel
theorem dX2_spots_6 : decode cX2_spots 6 = .ok (.ireturn, 1) := by decide +kernel
theorem dX2_takeSorted_0 : decode cX2_takeSorted 0 = .ok (.aload_n 0, 1) := by decide +kernel
theorem dX2_takeSorted_1 : decode cX2_takeSorted 1 = .ok (.aload_n 1, 1) := by decide +kernel
theorem dX2_takeSorted_2 : decode cX2_takeSorted 2 = .ok (.invokevirtual 62, 3) := by decide +kernel
theorem dX2_takeSorted_5 : decode cX2_takeSorted 5 = .ok (.iconst 0, 1) := by decide +kernel
theorem dX2_takeSorted_6 : decode cX2_takeSorted 6 = .ok (.istore_n 2, 1) := by decide +kernel
theorem dX2_takeSorted_7 : decode cX2_takeSorted 7 = .ok (.iconst 0, 1) := by decide +kernel
theorem dX2_takeSorted_8 : decode cX2_takeSorted 8 = .ok (.istore_n 3, 1) := by decide +kernel
theorem dX2_takeSorted_9 : decode cX2_takeSorted 9 = .ok (.iload_n 3, 1) := by decide +kernel
theorem dX2_takeSorted_10 : decode cX2_takeSorted 10 = .ok (.aload_n 0, 1) := by decide +kernel
theorem dX2_takeSorted_11 : decode cX2_takeSorted 11 = .ok (.getfield 19, 3) := by decide +kernel
theorem dX2_takeSorted_14 : decode cX2_takeSorted 14 = .ok (.if_icmp .ge 41, 3) := by decide +kernel
theorem dX2_takeSorted_17 : decode cX2_takeSorted 17 = .ok (.aload_n 1, 1) := by decide +kernel
theorem dX2_takeSorted_18 : decode cX2_takeSorted 18 = .ok (.iload_n 3, 1) := by decide +kernel
theorem dX2_takeSorted_19 : decode cX2_takeSorted 19 = .ok (.invokevirtual 66, 3) := by decide +kernel
theorem dX2_takeSorted_22 : decode cX2_takeSorted 22 = .ok (.istore 4, 2) := by decide +kernel
theorem dX2_takeSorted_24 : decode cX2_takeSorted 24 = .ok (.aload_n 0, 1) := by decide +kernel
theorem dX2_takeSorted_25 : decode cX2_takeSorted 25 = .ok (.iload 4, 2) := by decide +kernel
theorem dX2_takeSorted_27 : decode cX2_takeSorted 27 = .ok (.aload_n 1, 1) := by decide +kernel
theorem dX2_takeSorted_28 : decode cX2_takeSorted 28 = .ok (.iload_n 3, 1) := by decide +kernel
theorem dX2_takeSorted_29 : decode cX2_takeSorted 29 = .ok (.invokevirtual 30, 3) := by decide +kernel
theorem dX2_takeSorted_32 : decode cX2_takeSorted 32 = .ok (.aload_n 1, 1) := by decide +kernel
theorem dX2_takeSorted_33 : decode cX2_takeSorted 33 = .ok (.iload_n 3, 1) := by decide +kernel
theorem dX2_takeSorted_34 : decode cX2_takeSorted 34 = .ok (.invokevirtual 34, 3) := by decide +kernel
theorem dX2_takeSorted_37 : decode cX2_takeSorted 37 = .ok (.invokevirtual 47, 3) := by decide +kernel
theorem dX2_takeSorted_40 : decode cX2_takeSorted 40 = .ok (.iload 4, 2) := by decide +kernel
theorem dX2_takeSorted_42 : decode cX2_takeSorted 42 = .ok (.iload_n 3, 1) := by decide +kernel
theorem dX2_takeSorted_43 : decode cX2_takeSorted 43 = .ok (.if_icmp .eq 6, 3) := by decide +kernel
theorem dX2_takeSorted_46 : decode cX2_takeSorted 46 = .ok (.iinc 2 1, 3) := by decide +kernel
theorem dX2_takeSorted_49 : decode cX2_takeSorted 49 = .ok (.iinc 3 1, 3) := by decide +kernel
theorem dX2_takeSorted_52 : decode cX2_takeSorted 52 = .ok (.goto (-43), 3) := by decide +kernel
theorem dX2_takeSorted_55 : decode cX2_takeSorted 55 = .ok (.iload_n 2, 1) := by decide +kernel
theorem dX2_takeSorted_56 : decode cX2_takeSorted 56 = .ok (.ireturn, 1) := by decide +kernel
theorem dX2_turnBy_0 : decode cX2_turnBy 0 = .ok (.iconst 0, 1) := by decide +kernel
theorem dX2_turnBy_1 : decode cX2_turnBy 1 = .ok (.istore_n 2, 1) := by decide +kernel
theorem dX2_turnBy_2 : decode cX2_turnBy 2 = .ok (.iload_n 2, 1) := by decide +kernel
theorem dX2_turnBy_3 : decode cX2_turnBy 3 = .ok (.aload_n 0, 1) := by decide +kernel
theorem dX2_turnBy_4 : decode cX2_turnBy 4 = .ok (.getfield 19, 3) := by decide +kernel
theorem dX2_turnBy_7 : decode cX2_turnBy 7 = .ok (.if_icmp .ge 30, 3) := by decide +kernel
theorem dX2_turnBy_10 : decode cX2_turnBy 10 = .ok (.aload_n 0, 1) := by decide +kernel
theorem dX2_turnBy_11 : decode cX2_turnBy 11 = .ok (.iload_n 2, 1) := by decide +kernel
theorem dX2_turnBy_12 : decode cX2_turnBy 12 = .ok (.aload_n 0, 1) := by decide +kernel
theorem dX2_turnBy_13 : decode cX2_turnBy 13 = .ok (.iload_n 2, 1) := by decide +kernel
theorem dX2_turnBy_14 : decode cX2_turnBy 14 = .ok (.invokevirtual 34, 3) := by decide +kernel
theorem dX2_turnBy_17 : decode cX2_turnBy 17 = .ok (.iload_n 1, 1) := by decide +kernel
theorem dX2_turnBy_18 : decode cX2_turnBy 18 = .ok (.iadd, 1) := by decide +kernel
theorem dX2_turnBy_19 : decode cX2_turnBy 19 = .ok (.aload_n 0, 1) := by decide +kernel
theorem dX2_turnBy_20 : decode cX2_turnBy 20 = .ok (.getfield 19, 3) := by decide +kernel
theorem dX2_turnBy_23 : decode cX2_turnBy 23 = .ok (.iconst 1, 1) := by decide +kernel
theorem dX2_turnBy_24 : decode cX2_turnBy 24 = .ok (.iadd, 1) := by decide +kernel
theorem dX2_turnBy_25 : decode cX2_turnBy 25 = .ok (.invokestatic 55, 3) := by decide +kernel
theorem dX2_turnBy_28 : decode cX2_turnBy 28 = .ok (.invokevirtual 59, 3) := by decide +kernel
theorem dX2_turnBy_31 : decode cX2_turnBy 31 = .ok (.iinc 2 1, 3) := by decide +kernel
theorem dX2_turnBy_34 : decode cX2_turnBy 34 = .ok (.goto (-32), 3) := by decide +kernel
theorem dX2_turnBy_37 : decode cX2_turnBy 37 = .ok (.return_, 1) := by decide +kernel
theorem dX2_wishesFor_0 : decode cX2_wishesFor 0 = .ok (.iconst 0, 1) := by decide +kernel
theorem dX2_wishesFor_1 : decode cX2_wishesFor 1 = .ok (.istore_n 2, 1) := by decide +kernel
theorem dX2_wishesFor_2 : decode cX2_wishesFor 2 = .ok (.iconst 0, 1) := by decide +kernel
theorem dX2_wishesFor_3 : decode cX2_wishesFor 3 = .ok (.istore_n 3, 1) := by decide +kernel
theorem dX2_wishesFor_4 : decode cX2_wishesFor 4 = .ok (.iload_n 3, 1) := by decide +kernel
theorem dX2_wishesFor_5 : decode cX2_wishesFor 5 = .ok (.aload_n 0, 1) := by decide +kernel
theorem dX2_wishesFor_6 : decode cX2_wishesFor 6 = .ok (.getfield 19, 3) := by decide +kernel
theorem dX2_wishesFor_9 : decode cX2_wishesFor 9 = .ok (.if_icmp .ge 21, 3) := by decide +kernel
theorem dX2_wishesFor_12 : decode cX2_wishesFor 12 = .ok (.aload_n 0, 1) := by decide +kernel
theorem dX2_wishesFor_13 : decode cX2_wishesFor 13 = .ok (.iload_n 3, 1) := by decide +kernel
theorem dX2_wishesFor_14 : decode cX2_wishesFor 14 = .ok (.invokevirtual 34, 3) := by decide +kernel
theorem dX2_wishesFor_17 : decode cX2_wishesFor 17 = .ok (.iload_n 1, 1) := by decide +kernel
theorem dX2_wishesFor_18 : decode cX2_wishesFor 18 = .ok (.if_icmp .ne 6, 3) := by decide +kernel
theorem dX2_wishesFor_21 : decode cX2_wishesFor 21 = .ok (.iinc 2 1, 3) := by decide +kernel
theorem dX2_wishesFor_24 : decode cX2_wishesFor 24 = .ok (.iinc 3 1, 3) := by decide +kernel
theorem dX2_wishesFor_27 : decode cX2_wishesFor 27 = .ok (.goto (-23), 3) := by decide +kernel
theorem dX2_wishesFor_30 : decode cX2_wishesFor 30 = .ok (.iload_n 2, 1) := by decide +kernel
theorem dX2_wishesFor_31 : decode cX2_wishesFor 31 = .ok (.ireturn, 1) := by decide +kernel
theorem dX4_area_0 : decode cX4_area 0 = .ok (.iconst 0, 1) := by decide +kernel
theorem dX4_area_1 : decode cX4_area 1 = .ok (.istore_n 1, 1) := by decide +kernel
theorem dX4_area_2 : decode cX4_area 2 = .ok (.iconst 0, 1) := by decide +kernel
theorem dX4_area_3 : decode cX4_area 3 = .ok (.istore_n 2, 1) := by decide +kernel
theorem dX4_area_4 : decode cX4_area 4 = .ok (.iload_n 2, 1) := by decide +kernel
theorem dX4_area_5 : decode cX4_area 5 = .ok (.aload_n 0, 1) := by decide +kernel
theorem dX4_area_6 : decode cX4_area 6 = .ok (.getfield 35, 3) := by decide +kernel
theorem dX4_area_9 : decode cX4_area 9 = .ok (.if_icmp .ge 17, 3) := by decide +kernel
theorem dX4_area_12 : decode cX4_area 12 = .ok (.iload_n 1, 1) := by decide +kernel
theorem dX4_area_13 : decode cX4_area 13 = .ok (.aload_n 0, 1) := by decide +kernel
theorem dX4_area_14 : decode cX4_area 14 = .ok (.iload_n 2, 1) := by decide +kernel
theorem dX4_area_15 : decode cX4_area 15 = .ok (.invokevirtual 114, 3) := by decide +kernel
theorem dX4_area_18 : decode cX4_area 18 = .ok (.iadd, 1) := by decide +kernel
theorem dX4_area_19 : decode cX4_area 19 = .ok (.istore_n 1, 1) := by decide +kernel
theorem dX4_area_20 : decode cX4_area 20 = .ok (.iinc 2 1, 3) := by decide +kernel
theorem dX4_area_23 : decode cX4_area 23 = .ok (.goto (-19), 3) := by decide +kernel
theorem dX4_area_26 : decode cX4_area 26 = .ok (.iload_n 1, 1) := by decide +kernel
theorem dX4_area_27 : decode cX4_area 27 = .ok (.ireturn, 1) := by decide +kernel
theorem dX4_areaByPreferences_0 : decode cX4_areaByPreferences 0 = .ok (.aload_n 0, 1) := by decide +kernel
theorem dX4_areaByPreferences_1 : decode cX4_areaByPreferences 1 = .ok (.getfield 35, 3) := by decide +kernel
theorem dX4_areaByPreferences_4 : decode cX4_areaByPreferences 4 = .ok (.aload_n 0, 1) := by decide +kernel
theorem dX4_areaByPreferences_5 : decode cX4_areaByPreferences 5 = .ok (.getfield 35, 3) := by decide +kernel
theorem dX4_areaByPreferences_8 : decode cX4_areaByPreferences 8 = .ok (.iconst 1, 1) := by decide +kernel
theorem dX4_areaByPreferences_9 : decode cX4_areaByPreferences 9 = .ok (.isub, 1) := by decide +kernel
theorem dX4_areaByPreferences_10 : decode cX4_areaByPreferences 10 = .ok (.imul, 1) := by decide +kernel
theorem dX4_areaByPreferences_11 : decode cX4_areaByPreferences 11 = .ok (.iconst 2, 1) := by decide +kernel
theorem dX4_areaByPreferences_12 : decode cX4_areaByPreferences 12 = .ok (.idiv, 1) := by decide +kernel
theorem dX4_areaByPreferences_13 : decode cX4_areaByPreferences 13 = .ok (.istore_n 1, 1) := by decide +kernel
theorem dX4_areaByPreferences_14 : decode cX4_areaByPreferences 14 = .ok (.iconst 0, 1) := by decide +kernel
theorem dX4_areaByPreferences_15 : decode cX4_areaByPreferences 15 = .ok (.istore_n 2, 1) := by decide +kernel
theorem dX4_areaByPreferences_16 : decode cX4_areaByPreferences 16 = .ok (.iload_n 2, 1) := by decide +kernel
theorem dX4_areaByPreferences_17 : decode cX4_areaByPreferences 17 = .ok (.aload_n 0, 1) := by decide +kernel
theorem dX4_areaByPreferences_18 : decode cX4_areaByPreferences 18 = .ok (.getfield 35, 3) := by decide +kernel
theorem dX4_areaByPreferences_21 : decode cX4_areaByPreferences 21 = .ok (.if_icmp .ge 17, 3) := by decide +kernel
theorem dX4_areaByPreferences_24 : decode cX4_areaByPreferences 24 = .ok (.iload_n 1, 1) := by decide +kernel
theorem dX4_areaByPreferences_25 : decode cX4_areaByPreferences 25 = .ok (.aload_n 0, 1) := by decide +kernel
theorem dX4_areaByPreferences_26 : decode cX4_areaByPreferences 26 = .ok (.iload_n 2, 1) := by decide +kernel
theorem dX4_areaByPreferences_27 : decode cX4_areaByPreferences 27 = .ok (.invokevirtual 64, 3) := by decide +kernel
theorem dX4_areaByPreferences_30 : decode cX4_areaByPreferences 30 = .ok (.isub, 1) := by decide +kernel
theorem dX4_areaByPreferences_31 : decode cX4_areaByPreferences 31 = .ok (.istore_n 1, 1) := by decide +kernel
theorem dX4_areaByPreferences_32 : decode cX4_areaByPreferences 32 = .ok (.iinc 2 1, 3) := by decide +kernel
theorem dX4_areaByPreferences_35 : decode cX4_areaByPreferences 35 = .ok (.goto (-19), 3) := by decide +kernel
theorem dX4_areaByPreferences_38 : decode cX4_areaByPreferences 38 = .ok (.iload_n 1, 1) := by decide +kernel
theorem dX4_areaByPreferences_39 : decode cX4_areaByPreferences 39 = .ok (.ireturn, 1) := by decide +kernel
theorem dX4_breaks_0 : decode cX4_breaks 0 = .ok (.iconst 0, 1) := by decide +kernel
theorem dX4_breaks_1 : decode cX4_breaks 1 = .ok (.istore_n 1, 1) := by decide +kernel
theorem dX4_breaks_2 : decode cX4_breaks 2 = .ok (.iconst 1, 1) := by decide +kernel
theorem dX4_breaks_3 : decode cX4_breaks 3 = .ok (.istore_n 2, 1) := by decide +kernel
theorem dX4_breaks_4 : decode cX4_breaks 4 = .ok (.iload_n 2, 1) := by decide +kernel
theorem dX4_breaks_5 : decode cX4_breaks 5 = .ok (.aload_n 0, 1) := by decide +kernel
theorem dX4_breaks_6 : decode cX4_breaks 6 = .ok (.getfield 35, 3) := by decide +kernel
theorem dX4_breaks_9 : decode cX4_breaks 9 = .ok (.if_icmp .gt 20, 3) := by decide +kernel
theorem dX4_breaks_12 : decode cX4_breaks 12 = .ok (.aload_n 0, 1) := by decide +kernel
theorem dX4_breaks_13 : decode cX4_breaks 13 = .ok (.iload_n 2, 1) := by decide +kernel
theorem dX4_breaks_14 : decode cX4_breaks 14 = .ok (.invokevirtual 120, 3) := by decide +kernel
theorem dX4_breaks_17 : decode cX4_breaks 17 = .ok (.ifCond .eq 6, 3) := by decide +kernel
theorem dX4_breaks_20 : decode cX4_breaks 20 = .ok (.iinc 1 1, 3) := by decide +kernel
theorem dX4_breaks_23 : decode cX4_breaks 23 = .ok (.iinc 2 1, 3) := by decide +kernel
theorem dX4_breaks_26 : decode cX4_breaks 26 = .ok (.goto (-22), 3) := by decide +kernel
theorem dX4_breaks_29 : decode cX4_breaks 29 = .ok (.iload_n 1, 1) := by decide +kernel
theorem dX4_breaks_30 : decode cX4_breaks 30 = .ok (.ireturn, 1) := by decide +kernel
theorem dX4_bring_0 : decode cX4_bring 0 = .ok (.aload_n 0, 1) := by decide +kernel
theorem dX4_bring_1 : decode cX4_bring 1 = .ok (.getfield 35, 3) := by decide +kernel
theorem dX4_bring_4 : decode cX4_bring 4 = .ok (.bipush 11, 2) := by decide +kernel
theorem dX4_bring_6 : decode cX4_bring 6 = .ok (.if_icmp .lt 4, 3) := by decide +kernel
theorem dX4_bring_9 : decode cX4_bring 9 = .ok (.return_, 1) := by decide +kernel
theorem dX4_bring_10 : decode cX4_bring 10 = .ok (.aload_n 0, 1) := by decide +kernel
theorem dX4_bring_11 : decode cX4_bring 11 = .ok (.iload_n 1, 1) := by decide +kernel
theorem dX4_bring_12 : decode cX4_bring 12 = .ok (.invokevirtual 73, 3) := by decide +kernel
theorem dX4_bring_15 : decode cX4_bring 15 = .ok (.istore_n 2, 1) := by decide +kernel
theorem dX4_bring_16 : decode cX4_bring 16 = .ok (.aload_n 0, 1) := by decide +kernel
theorem dX4_bring_17 : decode cX4_bring 17 = .ok (.iload_n 1, 1) := by decide +kernel
theorem dX4_bring_18 : decode cX4_bring 18 = .ok (.iload_n 2, 1) := by decide +kernel
theorem dX4_bring_19 : decode cX4_bring 19 = .ok (.iadd, 1) := by decide +kernel
theorem dX4_bring_20 : decode cX4_bring 20 = .ok (.invokevirtual 76, 3) := by decide +kernel
theorem dX4_bring_23 : decode cX4_bring 23 = .ok (.istore_n 3, 1) := by decide +kernel
theorem dX4_bring_24 : decode cX4_bring 24 = .ok (.aload_n 0, 1) := by decide +kernel
theorem dX4_bring_25 : decode cX4_bring 25 = .ok (.getfield 9, 3) := by decide +kernel
theorem dX4_bring_28 : decode cX4_bring 28 = .ok (.aload_n 0, 1) := by decide +kernel
theorem dX4_bring_29 : decode cX4_bring 29 = .ok (.getfield 35, 3) := by decide +kernel
theorem dX4_bring_32 : decode cX4_bring 32 = .ok (.iload_n 1, 1) := by decide +kernel
theorem dX4_bring_33 : decode cX4_bring 33 = .ok (.iastore, 1) := by decide +kernel
theorem dX4_bring_34 : decode cX4_bring 34 = .ok (.aload_n 0, 1) := by decide +kernel
theorem dX4_bring_35 : decode cX4_bring 35 = .ok (.getfield 18, 3) := by decide +kernel
theorem dX4_bring_38 : decode cX4_bring 38 = .ok (.aload_n 0, 1) := by decide +kernel
theorem dX4_bring_39 : decode cX4_bring 39 = .ok (.getfield 35, 3) := by decide +kernel
theorem dX4_bring_42 : decode cX4_bring 42 = .ok (.iload_n 2, 1) := by decide +kernel
theorem dX4_bring_43 : decode cX4_bring 43 = .ok (.iastore, 1) := by decide +kernel
theorem dX4_bring_44 : decode cX4_bring 44 = .ok (.aload_n 0, 1) := by decide +kernel
theorem dX4_bring_45 : decode cX4_bring 45 = .ok (.getfield 15, 3) := by decide +kernel
theorem dX4_bring_48 : decode cX4_bring 48 = .ok (.aload_n 0, 1) := by decide +kernel
theorem dX4_bring_49 : decode cX4_bring 49 = .ok (.getfield 35, 3) := by decide +kernel
theorem dX4_bring_52 : decode cX4_bring 52 = .ok (.iconst (-1), 1) := by decide +kernel
theorem dX4_bring_53 : decode cX4_bring 53 = .ok (.iastore, 1) := by decide +kernel
theorem dX4_bring_54 : decode cX4_bring 54 = .ok (.aload_n 0, 1) := by decide +kernel
theorem dX4_bring_55 : decode cX4_bring 55 = .ok (.iload_n 3, 1) := by decide +kernel
theorem dX4_bring_56 : decode cX4_bring 56 = .ok (.invokevirtual 79, 3) := by decide +kernel
theorem dX4_bring_59 : decode cX4_bring 59 = .ok (.ifCond .eq 23, 3) := by decide +kernel
theorem dX4_bring_62 : decode cX4_bring 62 = .ok (.aload_n 0, 1) := by decide +kernel
theorem dX4_bring_63 : decode cX4_bring 63 = .ok (.getfield 15, 3) := by decide +kernel
theorem dX4_bring_66 : decode cX4_bring 66 = .ok (.aload_n 0, 1) := by decide +kernel
theorem dX4_bring_67 : decode cX4_bring 67 = .ok (.getfield 35, 3) := by decide +kernel
theorem dX4_bring_70 : decode cX4_bring 70 = .ok (.iload_n 3, 1) := by decide +kernel
theorem dX4_bring_71 : decode cX4_bring 71 = .ok (.iastore, 1) := by decide +kernel
theorem dX4_bring_72 : decode cX4_bring 72 = .ok (.aload_n 0, 1) := by decide +kernel
theorem dX4_bring_73 : decode cX4_bring 73 = .ok (.getfield 21, 3) := by decide +kernel
theorem dX4_bring_76 : decode cX4_bring 76 = .ok (.iload_n 3, 1) := by decide +kernel
theorem dX4_bring_77 : decode cX4_bring 77 = .ok (.aload_n 0, 1) := by decide +kernel
theorem dX4_bring_78 : decode cX4_bring 78 = .ok (.getfield 35, 3) := by decide +kernel
theorem dX4_bring_81 : decode cX4_bring 81 = .ok (.iastore, 1) := by decide +kernel
theorem dX4_bring_82 : decode cX4_bring 82 = .ok (.aload_n 0, 1) := by decide +kernel
theorem dX4_bring_83 : decode cX4_bring 83 = .ok (.dup, 1) := by decide +kernel
theorem dX4_bring_84 : decode cX4_bring 84 = .ok (.getfield 35, 3) := by decide +kernel
theorem dX4_bring_87 : decode cX4_bring 87 = .ok (.iconst 1, 1) := by decide +kernel
theorem dX4_bring_88 : decode cX4_bring 88 = .ok (.iadd, 1) := by decide +kernel
theorem dX4_bring_89 : decode cX4_bring 89 = .ok (.putfield 35, 3) := by decide +kernel
theorem dX4_bring_92 : decode cX4_bring 92 = .ok (.return_, 1) := by decide +kernel
theorem dX4_comeInLine_0 : decode cX4_comeInLine 0 = .ok (.aload_n 0, 1) := by decide +kernel
theorem dX4_comeInLine_1 : decode cX4_comeInLine 1 = .ok (.aload_n 1, 1) := by decide +kernel
theorem dX4_comeInLine_2 : decode cX4_comeInLine 2 = .ok (.getfield 35, 3) := by decide +kernel
theorem dX4_comeInLine_5 : decode cX4_comeInLine 5 = .ok (.aload_n 1, 1) := by decide +kernel
theorem dX4_comeInLine_6 : decode cX4_comeInLine 6 = .ok (.getfield 28, 3) := by decide +kernel
theorem dX4_comeInLine_9 : decode cX4_comeInLine 9 = .ok (.iconst 0, 1) := by decide +kernel
theorem dX4_comeInLine_10 : decode cX4_comeInLine 10 = .ok (.invokevirtual 49, 3) := by decide +kernel
theorem dX4_comeInLine_13 : decode cX4_comeInLine 13 = .ok (.iconst 0, 1) := by decide +kernel
theorem dX4_comeInLine_14 : decode cX4_comeInLine 14 = .ok (.istore_n 2, 1) := by decide +kernel
theorem dX4_comeInLine_15 : decode cX4_comeInLine 15 = .ok (.iload_n 2, 1) := by decide +kernel
theorem dX4_comeInLine_16 : decode cX4_comeInLine 16 = .ok (.aload_n 1, 1) := by decide +kernel
theorem dX4_comeInLine_17 : decode cX4_comeInLine 17 = .ok (.getfield 35, 3) := by decide +kernel
theorem dX4_comeInLine_20 : decode cX4_comeInLine 20 = .ok (.if_icmp .ge 18, 3) := by decide +kernel
theorem dX4_comeInLine_23 : decode cX4_comeInLine 23 = .ok (.aload_n 0, 1) := by decide +kernel
theorem dX4_comeInLine_24 : decode cX4_comeInLine 24 = .ok (.aload_n 1, 1) := by decide +kernel
theorem dX4_comeInLine_25 : decode cX4_comeInLine 25 = .ok (.iload_n 2, 1) := by decide +kernel
theorem dX4_comeInLine_26 : decode cX4_comeInLine 26 = .ok (.invokevirtual 64, 3) := by decide +kernel
theorem dX4_comeInLine_29 : decode cX4_comeInLine 29 = .ok (.invokevirtual 57, 3) := by decide +kernel
theorem dX4_comeInLine_32 : decode cX4_comeInLine 32 = .ok (.iinc 2 1, 3) := by decide +kernel
theorem dX4_comeInLine_35 : decode cX4_comeInLine 35 = .ok (.goto (-20), 3) := by decide +kernel
theorem dX4_comeInLine_38 : decode cX4_comeInLine 38 = .ok (.aload_n 0, 1) := by decide +kernel
theorem dX4_comeInLine_39 : decode cX4_comeInLine 39 = .ok (.invokevirtual 61, 3) := by decide +kernel
theorem dX4_comeInLine_42 : decode cX4_comeInLine 42 = .ok (.return_, 1) := by decide +kernel
theorem dX4_comeRound_0 : decode cX4_comeRound 0 = .ok (.aload_n 0, 1) := by decide +kernel
theorem dX4_comeRound_1 : decode cX4_comeRound 1 = .ok (.aload_n 1, 1) := by decide +kernel
theorem dX4_comeRound_2 : decode cX4_comeRound 2 = .ok (.invokevirtual 41, 3) := by decide +kernel
theorem dX4_comeRound_5 : decode cX4_comeRound 5 = .ok (.aload_n 1, 1) := by decide +kernel
theorem dX4_comeRound_6 : decode cX4_comeRound 6 = .ok (.invokevirtual 47, 3) := by decide +kernel
theorem dX4_comeRound_9 : decode cX4_comeRound 9 = .ok (.iconst 1, 1) := by decide +kernel
theorem dX4_comeRound_10 : decode cX4_comeRound 10 = .ok (.invokevirtual 49, 3) := by decide +kernel
theorem dX4_comeRound_13 : decode cX4_comeRound 13 = .ok (.iconst 0, 1) := by decide +kernel
theorem dX4_comeRound_14 : decode cX4_comeRound 14 = .ok (.istore_n 3, 1) := by decide +kernel
theorem dX4_comeRound_15 : decode cX4_comeRound 15 = .ok (.iload_n 3, 1) := by decide +kernel
theorem dX4_comeRound_16 : decode cX4_comeRound 16 = .ok (.iload_n 2, 1) := by decide +kernel
theorem dX4_comeRound_17 : decode cX4_comeRound 17 = .ok (.if_icmp .ge 18, 3) := by decide +kernel
theorem dX4_comeRound_20 : decode cX4_comeRound 20 = .ok (.aload_n 0, 1) := by decide +kernel
theorem dX4_comeRound_21 : decode cX4_comeRound 21 = .ok (.aload_n 1, 1) := by decide +kernel
theorem dX4_comeRound_22 : decode cX4_comeRound 22 = .ok (.iload_n 3, 1) := by decide +kernel
theorem dX4_comeRound_23 : decode cX4_comeRound 23 = .ok (.invokevirtual 53, 3) := by decide +kernel
theorem dX4_comeRound_26 : decode cX4_comeRound 26 = .ok (.invokevirtual 57, 3) := by decide +kernel
theorem dX4_comeRound_29 : decode cX4_comeRound 29 = .ok (.iinc 3 1, 3) := by decide +kernel
theorem dX4_comeRound_32 : decode cX4_comeRound 32 = .ok (.goto (-17), 3) := by decide +kernel
theorem dX4_comeRound_35 : decode cX4_comeRound 35 = .ok (.aload_n 0, 1) := by decide +kernel
theorem dX4_comeRound_36 : decode cX4_comeRound 36 = .ok (.invokevirtual 61, 3) := by decide +kernel
theorem dX4_comeRound_39 : decode cX4_comeRound 39 = .ok (.return_, 1) := by decide +kernel
theorem dX4_findFree_0 : decode cX4_findFree 0 = .ok (.aload_n 0, 1) := by decide +kernel
theorem dX4_findFree_1 : decode cX4_findFree 1 = .ok (.iconst (-1), 1) := by decide +kernel
theorem dX4_findFree_2 : decode cX4_findFree 2 = .ok (.putfield 38, 3) := by decide +kernel
theorem dX4_findFree_5 : decode cX4_findFree 5 = .ok (.iconst 0, 1) := by decide +kernel
theorem dX4_findFree_6 : decode cX4_findFree 6 = .ok (.istore_n 1, 1) := by decide +kernel
theorem dX4_findFree_7 : decode cX4_findFree 7 = .ok (.iload_n 1, 1) := by decide +kernel
theorem dX4_findFree_8 : decode cX4_findFree 8 = .ok (.aload_n 0, 1) := by decide +kernel
theorem dX4_findFree_9 : decode cX4_findFree 9 = .ok (.getfield 24, 3) := by decide +kernel
theorem dX4_findFree_12 : decode cX4_findFree 12 = .ok (.if_icmp .ge 30, 3) := by decide +kernel
theorem dX4_findFree_15 : decode cX4_findFree 15 = .ok (.aload_n 0, 1) := by decide +kernel
theorem dX4_findFree_16 : decode cX4_findFree 16 = .ok (.getfield 38, 3) := by decide +kernel
theorem dX4_findFree_19 : decode cX4_findFree 19 = .ok (.iconst (-1), 1) := by decide +kernel
theorem dX4_findFree_20 : decode cX4_findFree 20 = .ok (.if_icmp .ne 22, 3) := by decide +kernel
theorem dX4_findFree_23 : decode cX4_findFree 23 = .ok (.aload_n 0, 1) := by decide +kernel
theorem dX4_findFree_24 : decode cX4_findFree 24 = .ok (.iload_n 1, 1) := by decide +kernel
theorem dX4_findFree_25 : decode cX4_findFree 25 = .ok (.invokevirtual 79, 3) := by decide +kernel
theorem dX4_findFree_28 : decode cX4_findFree 28 = .ok (.ifCond .eq 8, 3) := by decide +kernel
theorem dX4_findFree_31 : decode cX4_findFree 31 = .ok (.aload_n 0, 1) := by decide +kernel
theorem dX4_findFree_32 : decode cX4_findFree 32 = .ok (.iload_n 1, 1) := by decide +kernel
theorem dX4_findFree_33 : decode cX4_findFree 33 = .ok (.putfield 38, 3) := by decide +kernel
theorem dX4_findFree_36 : decode cX4_findFree 36 = .ok (.iinc 1 1, 3) := by decide +kernel
theorem dX4_findFree_39 : decode cX4_findFree 39 = .ok (.goto (-32), 3) := by decide +kernel
theorem dX4_findFree_42 : decode cX4_findFree 42 = .ok (.return_, 1) := by decide +kernel
theorem dX4_freeSpot_0 : decode cX4_freeSpot 0 = .ok (.aload_n 0, 1) := by decide +kernel
theorem dX4_freeSpot_1 : decode cX4_freeSpot 1 = .ok (.getfield 38, 3) := by decide +kernel
theorem dX4_freeSpot_4 : decode cX4_freeSpot 4 = .ok (.ireturn, 1) := by decide +kernel
theorem dX4_hasCome_0 : decode cX4_hasCome 0 = .ok (.iload_n 1, 1) := by decide +kernel
theorem dX4_hasCome_1 : decode cX4_hasCome 1 = .ok (.ifCond .lt 21, 3) := by decide +kernel
theorem dX4_hasCome_4 : decode cX4_hasCome 4 = .ok (.iload_n 1, 1) := by decide +kernel
theorem dX4_hasCome_5 : decode cX4_hasCome 5 = .ok (.aload_n 0, 1) := by decide +kernel
theorem dX4_hasCome_6 : decode cX4_hasCome 6 = .ok (.getfield 35, 3) := by decide +kernel
theorem dX4_hasCome_9 : decode cX4_hasCome 9 = .ok (.if_icmp .ge 13, 3) := by decide +kernel
theorem dX4_hasCome_12 : decode cX4_hasCome 12 = .ok (.iload_n 1, 1) := by decide +kernel
theorem dX4_hasCome_13 : decode cX4_hasCome 13 = .ok (.bipush 11, 2) := by decide +kernel
theorem dX4_hasCome_15 : decode cX4_hasCome 15 = .ok (.if_icmp .ge 7, 3) := by decide +kernel
theorem dX4_hasCome_18 : decode cX4_hasCome 18 = .ok (.iconst 1, 1) := by decide +kernel
theorem dX4_hasCome_19 : decode cX4_hasCome 19 = .ok (.goto 4, 3) := by decide +kernel
theorem dX4_hasCome_22 : decode cX4_hasCome 22 = .ok (.iconst 0, 1) := by decide +kernel
theorem dX4_hasCome_23 : decode cX4_hasCome 23 = .ok (.ireturn, 1) := by decide +kernel
theorem dX4_isBreak_0 : decode cX4_isBreak 0 = .ok (.iconst 0, 1) := by decide +kernel
theorem dX4_isBreak_1 : decode cX4_isBreak 1 = .ok (.istore_n 2, 1) := by decide +kernel
theorem dX4_isBreak_2 : decode cX4_isBreak 2 = .ok (.iconst 0, 1) := by decide +kernel
theorem dX4_isBreak_3 : decode cX4_isBreak 3 = .ok (.istore_n 3, 1) := by decide +kernel
theorem dX4_isBreak_4 : decode cX4_isBreak 4 = .ok (.iload_n 3, 1) := by decide +kernel
theorem dX4_isBreak_5 : decode cX4_isBreak 5 = .ok (.aload_n 0, 1) := by decide +kernel
theorem dX4_isBreak_6 : decode cX4_isBreak 6 = .ok (.getfield 35, 3) := by decide +kernel
theorem dX4_isBreak_9 : decode cX4_isBreak 9 = .ok (.if_icmp .ge 21, 3) := by decide +kernel
theorem dX4_isBreak_12 : decode cX4_isBreak 12 = .ok (.aload_n 0, 1) := by decide +kernel
theorem dX4_isBreak_13 : decode cX4_isBreak 13 = .ok (.iload_n 3, 1) := by decide +kernel
theorem dX4_isBreak_14 : decode cX4_isBreak 14 = .ok (.invokevirtual 64, 3) := by decide +kernel
theorem dX4_isBreak_17 : decode cX4_isBreak 17 = .ok (.iload_n 1, 1) := by decide +kernel
theorem dX4_isBreak_18 : decode cX4_isBreak 18 = .ok (.if_icmp .ge 6, 3) := by decide +kernel
theorem dX4_isBreak_21 : decode cX4_isBreak 21 = .ok (.iinc 2 1, 3) := by decide +kernel
theorem dX4_isBreak_24 : decode cX4_isBreak 24 = .ok (.iinc 3 1, 3) := by decide +kernel
theorem dX4_isBreak_27 : decode cX4_isBreak 27 = .ok (.goto (-23), 3) := by decide +kernel
theorem dX4_isBreak_30 : decode cX4_isBreak 30 = .ok (.iload_n 2, 1) := by decide +kernel
theorem dX4_isBreak_31 : decode cX4_isBreak 31 = .ok (.iload_n 1, 1) := by decide +kernel
theorem dX4_isBreak_32 : decode cX4_isBreak 32 = .ok (.if_icmp .ne 7, 3) := by decide +kernel
theorem dX4_isBreak_35 : decode cX4_isBreak 35 = .ok (.iconst 1, 1) := by decide +kernel
theorem dX4_isBreak_36 : decode cX4_isBreak 36 = .ok (.goto 4, 3) := by decide +kernel
theorem dX4_isBreak_39 : decode cX4_isBreak 39 = .ok (.iconst 0, 1) := by decide +kernel
theorem dX4_isBreak_40 : decode cX4_isBreak 40 = .ok (.ireturn, 1) := by decide +kernel
theorem dX4_isFree_0 : decode cX4_isFree 0 = .ok (.aload_n 0, 1) := by decide +kernel
theorem dX4_isFree_1 : decode cX4_isFree 1 = .ok (.iload_n 1, 1) := by decide +kernel
theorem dX4_isFree_2 : decode cX4_isFree 2 = .ok (.invokevirtual 87, 3) := by decide +kernel
theorem dX4_isFree_5 : decode cX4_isFree 5 = .ok (.ifCond .eq 17, 3) := by decide +kernel
theorem dX4_isFree_8 : decode cX4_isFree 8 = .ok (.aload_n 0, 1) := by decide +kernel
theorem dX4_isFree_9 : decode cX4_isFree 9 = .ok (.getfield 21, 3) := by decide +kernel
theorem dX4_isFree_12 : decode cX4_isFree 12 = .ok (.iload_n 1, 1) := by decide +kernel
theorem dX4_isFree_13 : decode cX4_isFree 13 = .ok (.iaload, 1) := by decide +kernel
theorem dX4_isFree_14 : decode cX4_isFree 14 = .ok (.iconst (-1), 1) := by decide +kernel
theorem dX4_isFree_15 : decode cX4_isFree 15 = .ok (.if_icmp .ne 7, 3) := by decide +kernel
theorem dX4_isFree_18 : decode cX4_isFree 18 = .ok (.iconst 1, 1) := by decide +kernel
theorem dX4_isFree_19 : decode cX4_isFree 19 = .ok (.goto 4, 3) := by decide +kernel
theorem dX4_isFree_22 : decode cX4_isFree 22 = .ok (.iconst 0, 1) := by decide +kernel
theorem dX4_isFree_23 : decode cX4_isFree 23 = .ok (.ireturn, 1) := by decide +kernel
theorem dX4_isLucky_0 : decode cX4_isLucky 0 = .ok (.aload_n 0, 1) := by decide +kernel
theorem dX4_isLucky_1 : decode cX4_isLucky 1 = .ok (.iload_n 1, 1) := by decide +kernel
theorem dX4_isLucky_2 : decode cX4_isLucky 2 = .ok (.invokevirtual 90, 3) := by decide +kernel
theorem dX4_isLucky_5 : decode cX4_isLucky 5 = .ok (.ifCond .eq 22, 3) := by decide +kernel
theorem dX4_isLucky_8 : decode cX4_isLucky 8 = .ok (.aload_n 0, 1) := by decide +kernel
theorem dX4_isLucky_9 : decode cX4_isLucky 9 = .ok (.getfield 15, 3) := by decide +kernel
theorem dX4_isLucky_12 : decode cX4_isLucky 12 = .ok (.iload_n 1, 1) := by decide +kernel
theorem dX4_isLucky_13 : decode cX4_isLucky 13 = .ok (.iaload, 1) := by decide +kernel
theorem dX4_isLucky_14 : decode cX4_isLucky 14 = .ok (.aload_n 0, 1) := by decide +kernel
theorem dX4_isLucky_15 : decode cX4_isLucky 15 = .ok (.getfield 9, 3) := by decide +kernel
theorem dX4_isLucky_18 : decode cX4_isLucky 18 = .ok (.iload_n 1, 1) := by decide +kernel
theorem dX4_isLucky_19 : decode cX4_isLucky 19 = .ok (.iaload, 1) := by decide +kernel
theorem dX4_isLucky_20 : decode cX4_isLucky 20 = .ok (.if_icmp .ne 7, 3) := by decide +kernel
theorem dX4_isLucky_23 : decode cX4_isLucky 23 = .ok (.iconst 1, 1) := by decide +kernel
theorem dX4_isLucky_24 : decode cX4_isLucky 24 = .ok (.goto 4, 3) := by decide +kernel
theorem dX4_isLucky_27 : decode cX4_isLucky 27 = .ok (.iconst 0, 1) := by decide +kernel
theorem dX4_isLucky_28 : decode cX4_isLucky 28 = .ok (.ireturn, 1) := by decide +kernel
theorem dX4_isSpot_0 : decode cX4_isSpot 0 = .ok (.iload_n 1, 1) := by decide +kernel
theorem dX4_isSpot_1 : decode cX4_isSpot 1 = .ok (.ifCond .lt 21, 3) := by decide +kernel
theorem dX4_isSpot_4 : decode cX4_isSpot 4 = .ok (.iload_n 1, 1) := by decide +kernel
theorem dX4_isSpot_5 : decode cX4_isSpot 5 = .ok (.aload_n 0, 1) := by decide +kernel
theorem dX4_isSpot_6 : decode cX4_isSpot 6 = .ok (.getfield 24, 3) := by decide +kernel
theorem dX4_isSpot_9 : decode cX4_isSpot 9 = .ok (.if_icmp .ge 13, 3) := by decide +kernel
theorem dX4_isSpot_12 : decode cX4_isSpot 12 = .ok (.iload_n 1, 1) := by decide +kernel
theorem dX4_isSpot_13 : decode cX4_isSpot 13 = .ok (.bipush 12, 2) := by decide +kernel
theorem dX4_isSpot_15 : decode cX4_isSpot 15 = .ok (.if_icmp .ge 7, 3) := by decide +kernel
theorem dX4_isSpot_18 : decode cX4_isSpot 18 = .ok (.iconst 1, 1) := by decide +kernel
theorem dX4_isSpot_19 : decode cX4_isSpot 19 = .ok (.goto 4, 3) := by decide +kernel
theorem dX4_isSpot_22 : decode cX4_isSpot 22 = .ok (.iconst 0, 1) := by decide +kernel
theorem dX4_isSpot_23 : decode cX4_isSpot 23 = .ok (.ireturn, 1) := by decide +kernel
theorem dX4_isTakenBy_0 : decode cX4_isTakenBy 0 = .ok (.aload_n 0, 1) := by decide +kernel
theorem dX4_isTakenBy_1 : decode cX4_isTakenBy 1 = .ok (.iload_n 1, 1) := by decide +kernel
theorem dX4_isTakenBy_2 : decode cX4_isTakenBy 2 = .ok (.invokevirtual 103, 3) := by decide +kernel
theorem dX4_isTakenBy_5 : decode cX4_isTakenBy 5 = .ok (.istore_n 3, 1) := by decide +kernel
theorem dX4_isTakenBy_6 : decode cX4_isTakenBy 6 = .ok (.iload_n 3, 1) := by decide +kernel
theorem dX4_isTakenBy_7 : decode cX4_isTakenBy 7 = .ok (.iconst (-1), 1) := by decide +kernel
theorem dX4_isTakenBy_8 : decode cX4_isTakenBy 8 = .ok (.if_icmp .eq 12, 3) := by decide +kernel
theorem dX4_isTakenBy_11 : decode cX4_isTakenBy 11 = .ok (.iload_n 3, 1) := by decide +kernel
theorem dX4_isTakenBy_12 : decode cX4_isTakenBy 12 = .ok (.iload_n 2, 1) := by decide +kernel
theorem dX4_isTakenBy_13 : decode cX4_isTakenBy 13 = .ok (.if_icmp .gt 7, 3) := by decide +kernel
theorem dX4_isTakenBy_16 : decode cX4_isTakenBy 16 = .ok (.iconst 1, 1) := by decide +kernel
theorem dX4_isTakenBy_17 : decode cX4_isTakenBy 17 = .ok (.goto 4, 3) := by decide +kernel
theorem dX4_isTakenBy_20 : decode cX4_isTakenBy 20 = .ok (.iconst 0, 1) := by decide +kernel
theorem dX4_isTakenBy_21 : decode cX4_isTakenBy 21 = .ok (.ireturn, 1) := by decide +kernel
theorem dX4_longestRow_0 : decode cX4_longestRow 0 = .ok (.iconst 0, 1) := by decide +kernel
theorem dX4_longestRow_1 : decode cX4_longestRow 1 = .ok (.istore_n 1, 1) := by decide +kernel
theorem dX4_longestRow_2 : decode cX4_longestRow 2 = .ok (.iconst 0, 1) := by decide +kernel
theorem dX4_longestRow_3 : decode cX4_longestRow 3 = .ok (.istore_n 2, 1) := by decide +kernel
theorem dX4_longestRow_4 : decode cX4_longestRow 4 = .ok (.iload_n 2, 1) := by decide +kernel
theorem dX4_longestRow_5 : decode cX4_longestRow 5 = .ok (.aload_n 0, 1) := by decide +kernel
theorem dX4_longestRow_6 : decode cX4_longestRow 6 = .ok (.getfield 24, 3) := by decide +kernel
theorem dX4_longestRow_9 : decode cX4_longestRow 9 = .ok (.if_icmp .ge 49, 3) := by decide +kernel
theorem dX4_longestRow_12 : decode cX4_longestRow 12 = .ok (.iconst 0, 1) := by decide +kernel
theorem dX4_longestRow_13 : decode cX4_longestRow 13 = .ok (.istore_n 3, 1) := by decide +kernel
theorem dX4_longestRow_14 : decode cX4_longestRow 14 = .ok (.iload_n 3, 1) := by decide +kernel
theorem dX4_longestRow_15 : decode cX4_longestRow 15 = .ok (.aload_n 0, 1) := by decide +kernel
theorem dX4_longestRow_16 : decode cX4_longestRow 16 = .ok (.getfield 24, 3) := by decide +kernel
theorem dX4_longestRow_19 : decode cX4_longestRow 19 = .ok (.if_icmp .ge 27, 3) := by decide +kernel
theorem dX4_longestRow_22 : decode cX4_longestRow 22 = .ok (.aload_n 0, 1) := by decide +kernel
theorem dX4_longestRow_23 : decode cX4_longestRow 23 = .ok (.iload_n 2, 1) := by decide +kernel
theorem dX4_longestRow_24 : decode cX4_longestRow 24 = .ok (.iload_n 3, 1) := by decide +kernel
theorem dX4_longestRow_25 : decode cX4_longestRow 25 = .ok (.iadd, 1) := by decide +kernel
theorem dX4_longestRow_26 : decode cX4_longestRow 26 = .ok (.aload_n 0, 1) := by decide +kernel
theorem dX4_longestRow_27 : decode cX4_longestRow 27 = .ok (.getfield 24, 3) := by decide +kernel
theorem dX4_longestRow_30 : decode cX4_longestRow 30 = .ok (.invokestatic 83, 3) := by decide +kernel
theorem dX4_longestRow_33 : decode cX4_longestRow 33 = .ok (.invokevirtual 103, 3) := by decide +kernel
theorem dX4_longestRow_36 : decode cX4_longestRow 36 = .ok (.iconst (-1), 1) := by decide +kernel
theorem dX4_longestRow_37 : decode cX4_longestRow 37 = .ok (.if_icmp .eq 9, 3) := by decide +kernel
theorem dX4_longestRow_40 : decode cX4_longestRow 40 = .ok (.iinc 3 1, 3) := by decide +kernel
theorem dX4_longestRow_43 : decode cX4_longestRow 43 = .ok (.goto (-29), 3) := by decide +kernel
theorem dX4_longestRow_46 : decode cX4_longestRow 46 = .ok (.iload_n 1, 1) := by decide +kernel
theorem dX4_longestRow_47 : decode cX4_longestRow 47 = .ok (.iload_n 3, 1) := by decide +kernel
theorem dX4_longestRow_48 : decode cX4_longestRow 48 = .ok (.invokestatic 106, 3) := by decide +kernel
theorem dX4_longestRow_51 : decode cX4_longestRow 51 = .ok (.istore_n 1, 1) := by decide +kernel
theorem dX4_longestRow_52 : decode cX4_longestRow 52 = .ok (.iinc 2 1, 3) := by decide +kernel
theorem dX4_longestRow_55 : decode cX4_longestRow 55 = .ok (.goto (-51), 3) := by decide +kernel
theorem dX4_longestRow_58 : decode cX4_longestRow 58 = .ok (.iload_n 1, 1) := by decide +kernel
theorem dX4_longestRow_59 : decode cX4_longestRow 59 = .ok (.ireturn, 1) := by decide +kernel
theorem dX4_luckyCars_0 : decode cX4_luckyCars 0 = .ok (.iconst 0, 1) := by decide +kernel
theorem dX4_luckyCars_1 : decode cX4_luckyCars 1 = .ok (.istore_n 1, 1) := by decide +kernel
theorem dX4_luckyCars_2 : decode cX4_luckyCars 2 = .ok (.iconst 0, 1) := by decide +kernel
theorem dX4_luckyCars_3 : decode cX4_luckyCars 3 = .ok (.istore_n 2, 1) := by decide +kernel
theorem dX4_luckyCars_4 : decode cX4_luckyCars 4 = .ok (.iload_n 2, 1) := by decide +kernel
theorem dX4_luckyCars_5 : decode cX4_luckyCars 5 = .ok (.aload_n 0, 1) := by decide +kernel
theorem dX4_luckyCars_6 : decode cX4_luckyCars 6 = .ok (.getfield 35, 3) := by decide +kernel
theorem dX4_luckyCars_9 : decode cX4_luckyCars 9 = .ok (.if_icmp .ge 20, 3) := by decide +kernel
theorem dX4_luckyCars_12 : decode cX4_luckyCars 12 = .ok (.aload_n 0, 1) := by decide +kernel
theorem dX4_luckyCars_13 : decode cX4_luckyCars 13 = .ok (.iload_n 2, 1) := by decide +kernel
theorem dX4_luckyCars_14 : decode cX4_luckyCars 14 = .ok (.invokevirtual 111, 3) := by decide +kernel
theorem dX4_luckyCars_17 : decode cX4_luckyCars 17 = .ok (.ifCond .eq 6, 3) := by decide +kernel
theorem dX4_luckyCars_20 : decode cX4_luckyCars 20 = .ok (.iinc 1 1, 3) := by decide +kernel
theorem dX4_luckyCars_23 : decode cX4_luckyCars 23 = .ok (.iinc 2 1, 3) := by decide +kernel
theorem dX4_luckyCars_26 : decode cX4_luckyCars 26 = .ok (.goto (-22), 3) := by decide +kernel
theorem dX4_luckyCars_29 : decode cX4_luckyCars 29 = .ok (.iload_n 1, 1) := by decide +kernel
theorem dX4_luckyCars_30 : decode cX4_luckyCars 30 = .ok (.ireturn, 1) := by decide +kernel
theorem dX4_moveFrom_0 : decode cX4_moveFrom 0 = .ok (.aload_n 0, 1) := by decide +kernel
theorem dX4_moveFrom_1 : decode cX4_moveFrom 1 = .ok (.iload_n 1, 1) := by decide +kernel
theorem dX4_moveFrom_2 : decode cX4_moveFrom 2 = .ok (.invokevirtual 79, 3) := by decide +kernel
theorem dX4_moveFrom_5 : decode cX4_moveFrom 5 = .ok (.ifCond .eq 5, 3) := by decide +kernel
theorem dX4_moveFrom_8 : decode cX4_moveFrom 8 = .ok (.iconst 0, 1) := by decide +kernel
theorem dX4_moveFrom_9 : decode cX4_moveFrom 9 = .ok (.ireturn, 1) := by decide +kernel
theorem dX4_moveFrom_10 : decode cX4_moveFrom 10 = .ok (.iconst 1, 1) := by decide +kernel
theorem dX4_moveFrom_11 : decode cX4_moveFrom 11 = .ok (.istore_n 2, 1) := by decide +kernel
theorem dX4_moveFrom_12 : decode cX4_moveFrom 12 = .ok (.iload_n 2, 1) := by decide +kernel
theorem dX4_moveFrom_13 : decode cX4_moveFrom 13 = .ok (.aload_n 0, 1) := by decide +kernel
theorem dX4_moveFrom_14 : decode cX4_moveFrom 14 = .ok (.getfield 28, 3) := by decide +kernel
theorem dX4_moveFrom_17 : decode cX4_moveFrom 17 = .ok (.if_icmp .gt 26, 3) := by decide +kernel
theorem dX4_moveFrom_20 : decode cX4_moveFrom 20 = .ok (.aload_n 0, 1) := by decide +kernel
theorem dX4_moveFrom_21 : decode cX4_moveFrom 21 = .ok (.aload_n 0, 1) := by decide +kernel
theorem dX4_moveFrom_22 : decode cX4_moveFrom 22 = .ok (.iload_n 1, 1) := by decide +kernel
theorem dX4_moveFrom_23 : decode cX4_moveFrom 23 = .ok (.iload_n 2, 1) := by decide +kernel
theorem dX4_moveFrom_24 : decode cX4_moveFrom 24 = .ok (.isub, 1) := by decide +kernel
theorem dX4_moveFrom_25 : decode cX4_moveFrom 25 = .ok (.invokevirtual 76, 3) := by decide +kernel
theorem dX4_moveFrom_28 : decode cX4_moveFrom 28 = .ok (.invokevirtual 79, 3) := by decide +kernel
theorem dX4_moveFrom_31 : decode cX4_moveFrom 31 = .ok (.ifCond .eq 6, 3) := by decide +kernel
theorem dX4_moveFrom_34 : decode cX4_moveFrom 34 = .ok (.iload_n 2, 1) := by decide +kernel
theorem dX4_moveFrom_35 : decode cX4_moveFrom 35 = .ok (.ineg, 1) := by decide +kernel
theorem dX4_moveFrom_36 : decode cX4_moveFrom 36 = .ok (.ireturn, 1) := by decide +kernel
theorem dX4_moveFrom_37 : decode cX4_moveFrom 37 = .ok (.iinc 2 1, 3) := by decide +kernel
theorem dX4_moveFrom_40 : decode cX4_moveFrom 40 = .ok (.goto (-28), 3) := by decide +kernel
theorem dX4_moveFrom_43 : decode cX4_moveFrom 43 = .ok (.iconst 1, 1) := by decide +kernel
theorem dX4_moveFrom_44 : decode cX4_moveFrom 44 = .ok (.istore_n 2, 1) := by decide +kernel
theorem dX4_moveFrom_45 : decode cX4_moveFrom 45 = .ok (.iload_n 2, 1) := by decide +kernel
theorem dX4_moveFrom_46 : decode cX4_moveFrom 46 = .ok (.aload_n 0, 1) := by decide +kernel
theorem dX4_moveFrom_47 : decode cX4_moveFrom 47 = .ok (.getfield 24, 3) := by decide +kernel
theorem dX4_moveFrom_50 : decode cX4_moveFrom 50 = .ok (.if_icmp .ge 25, 3) := by decide +kernel
theorem dX4_moveFrom_53 : decode cX4_moveFrom 53 = .ok (.aload_n 0, 1) := by decide +kernel
theorem dX4_moveFrom_54 : decode cX4_moveFrom 54 = .ok (.aload_n 0, 1) := by decide +kernel
theorem dX4_moveFrom_55 : decode cX4_moveFrom 55 = .ok (.iload_n 1, 1) := by decide +kernel
theorem dX4_moveFrom_56 : decode cX4_moveFrom 56 = .ok (.iload_n 2, 1) := by decide +kernel
theorem dX4_moveFrom_57 : decode cX4_moveFrom 57 = .ok (.iadd, 1) := by decide +kernel
theorem dX4_moveFrom_58 : decode cX4_moveFrom 58 = .ok (.invokevirtual 76, 3) := by decide +kernel
theorem dX4_moveFrom_61 : decode cX4_moveFrom 61 = .ok (.invokevirtual 79, 3) := by decide +kernel
theorem dX4_moveFrom_64 : decode cX4_moveFrom 64 = .ok (.ifCond .eq 5, 3) := by decide +kernel
theorem dX4_moveFrom_67 : decode cX4_moveFrom 67 = .ok (.iload_n 2, 1) := by decide +kernel
theorem dX4_moveFrom_68 : decode cX4_moveFrom 68 = .ok (.ireturn, 1) := by decide +kernel
theorem dX4_moveFrom_69 : decode cX4_moveFrom 69 = .ok (.iinc 2 1, 3) := by decide +kernel
theorem dX4_moveFrom_72 : decode cX4_moveFrom 72 = .ok (.goto (-27), 3) := by decide +kernel
theorem dX4_moveFrom_75 : decode cX4_moveFrom 75 = .ok (.iconst 0, 1) := by decide +kernel
theorem dX4_moveFrom_76 : decode cX4_moveFrom 76 = .ok (.ireturn, 1) := by decide +kernel
theorem dX4_movedOf_0 : decode cX4_movedOf 0 = .ok (.aload_n 0, 1) := by decide +kernel
theorem dX4_movedOf_1 : decode cX4_movedOf 1 = .ok (.iload_n 1, 1) := by decide +kernel
theorem dX4_movedOf_2 : decode cX4_movedOf 2 = .ok (.invokevirtual 90, 3) := by decide +kernel
theorem dX4_movedOf_5 : decode cX4_movedOf 5 = .ok (.ifCond .eq 12, 3) := by decide +kernel
theorem dX4_movedOf_8 : decode cX4_movedOf 8 = .ok (.aload_n 0, 1) := by decide +kernel
theorem dX4_movedOf_9 : decode cX4_movedOf 9 = .ok (.getfield 18, 3) := by decide +kernel
theorem dX4_movedOf_12 : decode cX4_movedOf 12 = .ok (.iload_n 1, 1) := by decide +kernel
theorem dX4_movedOf_13 : decode cX4_movedOf 13 = .ok (.iaload, 1) := by decide +kernel
theorem dX4_movedOf_14 : decode cX4_movedOf 14 = .ok (.goto 4, 3) := by decide +kernel
theorem dX4_movedOf_17 : decode cX4_movedOf 17 = .ok (.iconst 0, 1) := by decide +kernel
theorem dX4_movedOf_18 : decode cX4_movedOf 18 = .ok (.ireturn, 1) := by decide +kernel
theorem dX4_open_0 : decode cX4_open 0 = .ok (.aload_n 0, 1) := by decide +kernel
theorem dX4_open_1 : decode cX4_open 1 = .ok (.iload_n 1, 1) := by decide +kernel
theorem dX4_open_2 : decode cX4_open 2 = .ok (.bipush 12, 2) := by decide +kernel
theorem dX4_open_4 : decode cX4_open 4 = .ok (.if_icmp .ge 7, 3) := by decide +kernel
theorem dX4_open_7 : decode cX4_open 7 = .ok (.iload_n 1, 1) := by decide +kernel
theorem dX4_open_8 : decode cX4_open 8 = .ok (.goto 5, 3) := by decide +kernel
theorem dX4_open_11 : decode cX4_open 11 = .ok (.bipush 12, 2) := by decide +kernel
theorem dX4_open_13 : decode cX4_open 13 = .ok (.putfield 24, 3) := by decide +kernel
theorem dX4_open_16 : decode cX4_open 16 = .ok (.aload_n 0, 1) := by decide +kernel
theorem dX4_open_17 : decode cX4_open 17 = .ok (.iload_n 2, 1) := by decide +kernel
theorem dX4_open_18 : decode cX4_open 18 = .ok (.putfield 28, 3) := by decide +kernel
theorem dX4_open_21 : decode cX4_open 21 = .ok (.aload_n 0, 1) := by decide +kernel
theorem dX4_open_22 : decode cX4_open 22 = .ok (.iload_n 3, 1) := by decide +kernel
theorem dX4_open_23 : decode cX4_open 23 = .ok (.putfield 31, 3) := by decide +kernel
theorem dX4_open_26 : decode cX4_open 26 = .ok (.aload_n 0, 1) := by decide +kernel
theorem dX4_open_27 : decode cX4_open 27 = .ok (.iconst 0, 1) := by decide +kernel
theorem dX4_open_28 : decode cX4_open 28 = .ok (.putfield 35, 3) := by decide +kernel
theorem dX4_open_31 : decode cX4_open 31 = .ok (.aload_n 0, 1) := by decide +kernel
theorem dX4_open_32 : decode cX4_open 32 = .ok (.getfield 21, 3) := by decide +kernel
theorem dX4_open_35 : decode cX4_open 35 = .ok (.iconst (-1), 1) := by decide +kernel
theorem dX4_open_36 : decode cX4_open 36 = .ok (.invokestatic 67, 3) := by decide +kernel
theorem dX4_open_39 : decode cX4_open 39 = .ok (.return_, 1) := by decide +kernel
theorem dX4_runOf_0 : decode cX4_runOf 0 = .ok (.aload_n 0, 1) := by decide +kernel
theorem dX4_runOf_1 : decode cX4_runOf 1 = .ok (.iload_n 1, 1) := by decide +kernel
theorem dX4_runOf_2 : decode cX4_runOf 2 = .ok (.invokevirtual 93, 3) := by decide +kernel
theorem dX4_runOf_5 : decode cX4_runOf 5 = .ok (.istore_n 2, 1) := by decide +kernel
theorem dX4_runOf_6 : decode cX4_runOf 6 = .ok (.iconst 0, 1) := by decide +kernel
theorem dX4_runOf_7 : decode cX4_runOf 7 = .ok (.istore_n 3, 1) := by decide +kernel
theorem dX4_runOf_8 : decode cX4_runOf 8 = .ok (.iload_n 3, 1) := by decide +kernel
theorem dX4_runOf_9 : decode cX4_runOf 9 = .ok (.aload_n 0, 1) := by decide +kernel
theorem dX4_runOf_10 : decode cX4_runOf 10 = .ok (.getfield 24, 3) := by decide +kernel
theorem dX4_runOf_13 : decode cX4_runOf 13 = .ok (.if_icmp .ge 27, 3) := by decide +kernel
theorem dX4_runOf_16 : decode cX4_runOf 16 = .ok (.aload_n 0, 1) := by decide +kernel
theorem dX4_runOf_17 : decode cX4_runOf 17 = .ok (.iload_n 2, 1) := by decide +kernel
theorem dX4_runOf_18 : decode cX4_runOf 18 = .ok (.iload_n 3, 1) := by decide +kernel
theorem dX4_runOf_19 : decode cX4_runOf 19 = .ok (.isub, 1) := by decide +kernel
theorem dX4_runOf_20 : decode cX4_runOf 20 = .ok (.aload_n 0, 1) := by decide +kernel
theorem dX4_runOf_21 : decode cX4_runOf 21 = .ok (.getfield 24, 3) := by decide +kernel
theorem dX4_runOf_24 : decode cX4_runOf 24 = .ok (.invokestatic 83, 3) := by decide +kernel
theorem dX4_runOf_27 : decode cX4_runOf 27 = .ok (.iload_n 1, 1) := by decide +kernel
theorem dX4_runOf_28 : decode cX4_runOf 28 = .ok (.invokevirtual 99, 3) := by decide +kernel
theorem dX4_runOf_31 : decode cX4_runOf 31 = .ok (.ifCond .eq 9, 3) := by decide +kernel
theorem dX4_runOf_34 : decode cX4_runOf 34 = .ok (.iinc 3 1, 3) := by decide +kernel
theorem dX4_runOf_37 : decode cX4_runOf 37 = .ok (.goto (-29), 3) := by decide +kernel
theorem dX4_runOf_40 : decode cX4_runOf 40 = .ok (.iload_n 3, 1) := by decide +kernel
theorem dX4_runOf_41 : decode cX4_runOf 41 = .ok (.ireturn, 1) := by decide +kernel
theorem dX4_spotAt_0 : decode cX4_spotAt 0 = .ok (.aload_n 0, 1) := by decide +kernel
theorem dX4_spotAt_1 : decode cX4_spotAt 1 = .ok (.getfield 31, 3) := by decide +kernel
theorem dX4_spotAt_4 : decode cX4_spotAt 4 = .ok (.ifCond .eq 14, 3) := by decide +kernel
theorem dX4_spotAt_7 : decode cX4_spotAt 7 = .ok (.iload_n 1, 1) := by decide +kernel
theorem dX4_spotAt_8 : decode cX4_spotAt 8 = .ok (.aload_n 0, 1) := by decide +kernel
theorem dX4_spotAt_9 : decode cX4_spotAt 9 = .ok (.getfield 24, 3) := by decide +kernel
theorem dX4_spotAt_12 : decode cX4_spotAt 12 = .ok (.invokestatic 83, 3) := by decide +kernel
theorem dX4_spotAt_15 : decode cX4_spotAt 15 = .ok (.goto 4, 3) := by decide +kernel
theorem dX4_spotAt_18 : decode cX4_spotAt 18 = .ok (.iload_n 1, 1) := by decide +kernel
theorem dX4_spotAt_19 : decode cX4_spotAt 19 = .ok (.ireturn, 1) := by decide +kernel
theorem dX4_spotOf_0 : decode cX4_spotOf 0 = .ok (.aload_n 0, 1) := by decide +kernel
theorem dX4_spotOf_1 : decode cX4_spotOf 1 = .ok (.iload_n 1, 1) := by decide +kernel
theorem dX4_spotOf_2 : decode cX4_spotOf 2 = .ok (.invokevirtual 90, 3) := by decide +kernel
theorem dX4_spotOf_5 : decode cX4_spotOf 5 = .ok (.ifCond .eq 12, 3) := by decide +kernel
theorem dX4_spotOf_8 : decode cX4_spotOf 8 = .ok (.aload_n 0, 1) := by decide +kernel
theorem dX4_spotOf_9 : decode cX4_spotOf 9 = .ok (.getfield 15, 3) := by decide +kernel
theorem dX4_spotOf_12 : decode cX4_spotOf 12 = .ok (.iload_n 1, 1) := by decide +kernel
theorem dX4_spotOf_13 : decode cX4_spotOf 13 = .ok (.iaload, 1) := by decide +kernel
theorem dX4_spotOf_14 : decode cX4_spotOf 14 = .ok (.goto 4, 3) := by decide +kernel
theorem dX4_spotOf_17 : decode cX4_spotOf 17 = .ok (.iconst (-1), 1) := by decide +kernel
theorem dX4_spotOf_18 : decode cX4_spotOf 18 = .ok (.ireturn, 1) := by decide +kernel
theorem dX4_takerOf_0 : decode cX4_takerOf 0 = .ok (.aload_n 0, 1) := by decide +kernel
theorem dX4_takerOf_1 : decode cX4_takerOf 1 = .ok (.iload_n 1, 1) := by decide +kernel
theorem dX4_takerOf_2 : decode cX4_takerOf 2 = .ok (.invokevirtual 87, 3) := by decide +kernel
theorem dX4_takerOf_5 : decode cX4_takerOf 5 = .ok (.ifCond .eq 12, 3) := by decide +kernel
theorem dX4_takerOf_8 : decode cX4_takerOf 8 = .ok (.aload_n 0, 1) := by decide +kernel
theorem dX4_takerOf_9 : decode cX4_takerOf 9 = .ok (.getfield 21, 3) := by decide +kernel
theorem dX4_takerOf_12 : decode cX4_takerOf 12 = .ok (.iload_n 1, 1) := by decide +kernel
theorem dX4_takerOf_13 : decode cX4_takerOf 13 = .ok (.iaload, 1) := by decide +kernel
theorem dX4_takerOf_14 : decode cX4_takerOf 14 = .ok (.goto 4, 3) := by decide +kernel
theorem dX4_takerOf_17 : decode cX4_takerOf 17 = .ok (.iconst (-1), 1) := by decide +kernel
theorem dX4_takerOf_18 : decode cX4_takerOf 18 = .ok (.ireturn, 1) := by decide +kernel
theorem dX4_turnNumber_0 : decode cX4_turnNumber 0 = .ok (.aload_n 0, 1) := by decide +kernel
theorem dX4_turnNumber_1 : decode cX4_turnNumber 1 = .ok (.getfield 24, 3) := by decide +kernel
theorem dX4_turnNumber_4 : decode cX4_turnNumber 4 = .ok (.iconst 1, 1) := by decide +kernel
theorem dX4_turnNumber_5 : decode cX4_turnNumber 5 = .ok (.isub, 1) := by decide +kernel
theorem dX4_turnNumber_6 : decode cX4_turnNumber 6 = .ok (.aload_n 0, 1) := by decide +kernel
theorem dX4_turnNumber_7 : decode cX4_turnNumber 7 = .ok (.getfield 38, 3) := by decide +kernel
theorem dX4_turnNumber_10 : decode cX4_turnNumber 10 = .ok (.isub, 1) := by decide +kernel
theorem dX4_turnNumber_11 : decode cX4_turnNumber 11 = .ok (.ireturn, 1) := by decide +kernel
theorem dX4_turnedPreferenceOf_0 : decode cX4_turnedPreferenceOf 0 = .ok (.aload_n 0, 1) := by decide +kernel
theorem dX4_turnedPreferenceOf_1 : decode cX4_turnedPreferenceOf 1 = .ok (.iload_n 1, 1) := by decide +kernel
theorem dX4_turnedPreferenceOf_2 : decode cX4_turnedPreferenceOf 2 = .ok (.invokevirtual 90, 3) := by decide +kernel
theorem dX4_turnedPreferenceOf_5 : decode cX4_turnedPreferenceOf 5 = .ok (.ifCond .eq 24, 3) := by decide +kernel
theorem dX4_turnedPreferenceOf_8 : decode cX4_turnedPreferenceOf 8 = .ok (.aload_n 0, 1) := by decide +kernel
theorem dX4_turnedPreferenceOf_9 : decode cX4_turnedPreferenceOf 9 = .ok (.getfield 9, 3) := by decide +kernel
theorem dX4_turnedPreferenceOf_12 : decode cX4_turnedPreferenceOf 12 = .ok (.iload_n 1, 1) := by decide +kernel
theorem dX4_turnedPreferenceOf_13 : decode cX4_turnedPreferenceOf 13 = .ok (.iaload, 1) := by decide +kernel
theorem dX4_turnedPreferenceOf_14 : decode cX4_turnedPreferenceOf 14 = .ok (.aload_n 0, 1) := by decide +kernel
theorem dX4_turnedPreferenceOf_15 : decode cX4_turnedPreferenceOf 15 = .ok (.invokevirtual 96, 3) := by decide +kernel
theorem dX4_turnedPreferenceOf_18 : decode cX4_turnedPreferenceOf 18 = .ok (.iadd, 1) := by decide +kernel
theorem dX4_turnedPreferenceOf_19 : decode cX4_turnedPreferenceOf 19 = .ok (.aload_n 0, 1) := by decide +kernel
theorem dX4_turnedPreferenceOf_20 : decode cX4_turnedPreferenceOf 20 = .ok (.getfield 24, 3) := by decide +kernel
theorem dX4_turnedPreferenceOf_23 : decode cX4_turnedPreferenceOf 23 = .ok (.invokestatic 83, 3) := by decide +kernel
theorem dX4_turnedPreferenceOf_26 : decode cX4_turnedPreferenceOf 26 = .ok (.goto 4, 3) := by decide +kernel
theorem dX4_turnedPreferenceOf_29 : decode cX4_turnedPreferenceOf 29 = .ok (.iconst (-1), 1) := by decide +kernel
theorem dX4_turnedPreferenceOf_30 : decode cX4_turnedPreferenceOf 30 = .ok (.ireturn, 1) := by decide +kernel
theorem dX4_turnedSpotOf_0 : decode cX4_turnedSpotOf 0 = .ok (.aload_n 0, 1) := by decide +kernel
theorem dX4_turnedSpotOf_1 : decode cX4_turnedSpotOf 1 = .ok (.iload_n 1, 1) := by decide +kernel
theorem dX4_turnedSpotOf_2 : decode cX4_turnedSpotOf 2 = .ok (.invokevirtual 93, 3) := by decide +kernel
theorem dX4_turnedSpotOf_5 : decode cX4_turnedSpotOf 5 = .ok (.aload_n 0, 1) := by decide +kernel
theorem dX4_turnedSpotOf_6 : decode cX4_turnedSpotOf 6 = .ok (.invokevirtual 96, 3) := by decide +kernel
theorem dX4_turnedSpotOf_9 : decode cX4_turnedSpotOf 9 = .ok (.iadd, 1) := by decide +kernel
theorem dX4_turnedSpotOf_10 : decode cX4_turnedSpotOf 10 = .ok (.aload_n 0, 1) := by decide +kernel
theorem dX4_turnedSpotOf_11 : decode cX4_turnedSpotOf 11 = .ok (.getfield 24, 3) := by decide +kernel
theorem dX4_turnedSpotOf_14 : decode cX4_turnedSpotOf 14 = .ok (.invokestatic 83, 3) := by decide +kernel
theorem dX4_turnedSpotOf_17 : decode cX4_turnedSpotOf 17 = .ok (.ireturn, 1) := by decide +kernel
theorem dX4_wayOfAll_0 : decode cX4_wayOfAll 0 = .ok (.iconst 0, 1) := by decide +kernel
theorem dX4_wayOfAll_1 : decode cX4_wayOfAll 1 = .ok (.istore_n 1, 1) := by decide +kernel
theorem dX4_wayOfAll_2 : decode cX4_wayOfAll 2 = .ok (.iconst 0, 1) := by decide +kernel
theorem dX4_wayOfAll_3 : decode cX4_wayOfAll 3 = .ok (.istore_n 2, 1) := by decide +kernel
theorem dX4_wayOfAll_4 : decode cX4_wayOfAll 4 = .ok (.iload_n 2, 1) := by decide +kernel
theorem dX4_wayOfAll_5 : decode cX4_wayOfAll 5 = .ok (.aload_n 0, 1) := by decide +kernel
theorem dX4_wayOfAll_6 : decode cX4_wayOfAll 6 = .ok (.getfield 35, 3) := by decide +kernel
theorem dX4_wayOfAll_9 : decode cX4_wayOfAll 9 = .ok (.if_icmp .ge 20, 3) := by decide +kernel
theorem dX4_wayOfAll_12 : decode cX4_wayOfAll 12 = .ok (.iload_n 1, 1) := by decide +kernel
theorem dX4_wayOfAll_13 : decode cX4_wayOfAll 13 = .ok (.aload_n 0, 1) := by decide +kernel
theorem dX4_wayOfAll_14 : decode cX4_wayOfAll 14 = .ok (.iload_n 2, 1) := by decide +kernel
theorem dX4_wayOfAll_15 : decode cX4_wayOfAll 15 = .ok (.invokevirtual 114, 3) := by decide +kernel
theorem dX4_wayOfAll_18 : decode cX4_wayOfAll 18 = .ok (.invokestatic 117, 3) := by decide +kernel
theorem dX4_wayOfAll_21 : decode cX4_wayOfAll 21 = .ok (.iadd, 1) := by decide +kernel
theorem dX4_wayOfAll_22 : decode cX4_wayOfAll 22 = .ok (.istore_n 1, 1) := by decide +kernel
theorem dX4_wayOfAll_23 : decode cX4_wayOfAll 23 = .ok (.iinc 2 1, 3) := by decide +kernel
theorem dX4_wayOfAll_26 : decode cX4_wayOfAll 26 = .ok (.goto (-22), 3) := by decide +kernel
theorem dX4_wayOfAll_29 : decode cX4_wayOfAll 29 = .ok (.iload_n 1, 1) := by decide +kernel
theorem dX4_wayOfAll_30 : decode cX4_wayOfAll 30 = .ok (.ireturn, 1) := by decide +kernel
theorem dX5_behind_0 : decode cX5_behind 0 = .ok (.aload_n 0, 1) := by decide +kernel
theorem dX5_behind_1 : decode cX5_behind 1 = .ok (.iload_n 1, 1) := by decide +kernel
theorem dX5_behind_2 : decode cX5_behind 2 = .ok (.invokevirtual 38, 3) := by decide +kernel
theorem dX5_behind_5 : decode cX5_behind 5 = .ok (.ifCond .eq 22, 3) := by decide +kernel
theorem dX5_behind_8 : decode cX5_behind 8 = .ok (.aload_n 0, 1) := by decide +kernel
theorem dX5_behind_9 : decode cX5_behind 9 = .ok (.getfield 25, 3) := by decide +kernel
theorem dX5_behind_12 : decode cX5_behind 12 = .ok (.iload_n 1, 1) := by decide +kernel
theorem dX5_behind_13 : decode cX5_behind 13 = .ok (.iaload, 1) := by decide +kernel
theorem dX5_behind_14 : decode cX5_behind 14 = .ok (.iload_n 1, 1) := by decide +kernel
theorem dX5_behind_15 : decode cX5_behind 15 = .ok (.if_icmp .le 12, 3) := by decide +kernel
theorem dX5_behind_18 : decode cX5_behind 18 = .ok (.aload_n 0, 1) := by decide +kernel
theorem dX5_behind_19 : decode cX5_behind 19 = .ok (.getfield 25, 3) := by decide +kernel
theorem dX5_behind_22 : decode cX5_behind 22 = .ok (.iload_n 1, 1) := by decide +kernel
theorem dX5_behind_23 : decode cX5_behind 23 = .ok (.iaload, 1) := by decide +kernel
theorem dX5_behind_24 : decode cX5_behind 24 = .ok (.goto 6, 3) := by decide +kernel
theorem dX5_behind_27 : decode cX5_behind 27 = .ok (.iload_n 1, 1) := by decide +kernel
theorem dX5_behind_28 : decode cX5_behind 28 = .ok (.iconst 1, 1) := by decide +kernel
theorem dX5_behind_29 : decode cX5_behind 29 = .ok (.iadd, 1) := by decide +kernel
theorem dX5_behind_30 : decode cX5_behind 30 = .ok (.ireturn, 1) := by decide +kernel
theorem dX5_closeRepeat_0 : decode cX5_closeRepeat 0 = .ok (.aload_n 0, 1) := by decide +kernel
theorem dX5_closeRepeat_1 : decode cX5_closeRepeat 1 = .ok (.getfield 31, 3) := by decide +kernel
theorem dX5_closeRepeat_4 : decode cX5_closeRepeat 4 = .ok (.ifCond .le 55, 3) := by decide +kernel
theorem dX5_closeRepeat_7 : decode cX5_closeRepeat 7 = .ok (.aload_n 0, 1) := by decide +kernel
theorem dX5_closeRepeat_8 : decode cX5_closeRepeat 8 = .ok (.getfield 31, 3) := by decide +kernel
theorem dX5_closeRepeat_11 : decode cX5_closeRepeat 11 = .ok (.iconst 2, 1) := by decide +kernel
theorem dX5_closeRepeat_12 : decode cX5_closeRepeat 12 = .ok (.if_icmp .gt 47, 3) := by decide +kernel
theorem dX5_closeRepeat_15 : decode cX5_closeRepeat 15 = .ok (.aload_n 0, 1) := by decide +kernel
theorem dX5_closeRepeat_16 : decode cX5_closeRepeat 16 = .ok (.dup, 1) := by decide +kernel
theorem dX5_closeRepeat_17 : decode cX5_closeRepeat 17 = .ok (.getfield 31, 3) := by decide +kernel
theorem dX5_closeRepeat_20 : decode cX5_closeRepeat 20 = .ok (.iconst 1, 1) := by decide +kernel
theorem dX5_closeRepeat_21 : decode cX5_closeRepeat 21 = .ok (.isub, 1) := by decide +kernel
theorem dX5_closeRepeat_22 : decode cX5_closeRepeat 22 = .ok (.putfield 31, 3) := by decide +kernel
theorem dX5_closeRepeat_25 : decode cX5_closeRepeat 25 = .ok (.aload_n 0, 1) := by decide +kernel
theorem dX5_closeRepeat_26 : decode cX5_closeRepeat 26 = .ok (.aload_n 0, 1) := by decide +kernel
theorem dX5_closeRepeat_27 : decode cX5_closeRepeat 27 = .ok (.getfield 28, 3) := by decide +kernel
theorem dX5_closeRepeat_30 : decode cX5_closeRepeat 30 = .ok (.aload_n 0, 1) := by decide +kernel
theorem dX5_closeRepeat_31 : decode cX5_closeRepeat 31 = .ok (.getfield 31, 3) := by decide +kernel
theorem dX5_closeRepeat_34 : decode cX5_closeRepeat 34 = .ok (.iaload, 1) := by decide +kernel
theorem dX5_closeRepeat_35 : decode cX5_closeRepeat 35 = .ok (.invokevirtual 38, 3) := by decide +kernel
theorem dX5_closeRepeat_38 : decode cX5_closeRepeat 38 = .ok (.ifCond .eq 21, 3) := by decide +kernel
theorem dX5_closeRepeat_41 : decode cX5_closeRepeat 41 = .ok (.aload_n 0, 1) := by decide +kernel
theorem dX5_closeRepeat_42 : decode cX5_closeRepeat 42 = .ok (.getfield 25, 3) := by decide +kernel
theorem dX5_closeRepeat_45 : decode cX5_closeRepeat 45 = .ok (.aload_n 0, 1) := by decide +kernel
theorem dX5_closeRepeat_46 : decode cX5_closeRepeat 46 = .ok (.getfield 28, 3) := by decide +kernel
theorem dX5_closeRepeat_49 : decode cX5_closeRepeat 49 = .ok (.aload_n 0, 1) := by decide +kernel
theorem dX5_closeRepeat_50 : decode cX5_closeRepeat 50 = .ok (.getfield 31, 3) := by decide +kernel
theorem dX5_closeRepeat_53 : decode cX5_closeRepeat 53 = .ok (.iaload, 1) := by decide +kernel
theorem dX5_closeRepeat_54 : decode cX5_closeRepeat 54 = .ok (.aload_n 0, 1) := by decide +kernel
theorem dX5_closeRepeat_55 : decode cX5_closeRepeat 55 = .ok (.getfield 35, 3) := by decide +kernel
theorem dX5_closeRepeat_58 : decode cX5_closeRepeat 58 = .ok (.iastore, 1) := by decide +kernel
theorem dX5_closeRepeat_59 : decode cX5_closeRepeat 59 = .ok (.return_, 1) := by decide +kernel
theorem dX5_count_0 : decode cX5_count 0 = .ok (.aload_n 0, 1) := by decide +kernel
theorem dX5_count_1 : decode cX5_count 1 = .ok (.getfield 35, 3) := by decide +kernel
theorem dX5_count_4 : decode cX5_count 4 = .ok (.ireturn, 1) := by decide +kernel
theorem dX5_has_0 : decode cX5_has 0 = .ok (.iload_n 1, 1) := by decide +kernel
theorem dX5_has_1 : decode cX5_has 1 = .ok (.ifCond .lt 21, 3) := by decide +kernel
theorem dX5_has_4 : decode cX5_has 4 = .ok (.iload_n 1, 1) := by decide +kernel
theorem dX5_has_5 : decode cX5_has 5 = .ok (.aload_n 0, 1) := by decide +kernel
theorem dX5_has_6 : decode cX5_has 6 = .ok (.getfield 35, 3) := by decide +kernel
theorem dX5_has_9 : decode cX5_has 9 = .ok (.if_icmp .ge 13, 3) := by decide +kernel
theorem dX5_has_12 : decode cX5_has 12 = .ok (.iload_n 1, 1) := by decide +kernel
theorem dX5_has_13 : decode cX5_has 13 = .ok (.bipush 30, 2) := by decide +kernel
theorem dX5_has_15 : decode cX5_has 15 = .ok (.if_icmp .ge 7, 3) := by decide +kernel
theorem dX5_has_18 : decode cX5_has 18 = .ok (.iconst 1, 1) := by decide +kernel
theorem dX5_has_19 : decode cX5_has 19 = .ok (.goto 4, 3) := by decide +kernel
theorem dX5_has_22 : decode cX5_has 22 = .ok (.iconst 0, 1) := by decide +kernel
theorem dX5_has_23 : decode cX5_has 23 = .ok (.ireturn, 1) := by decide +kernel
theorem dX5_nameAt_0 : decode cX5_nameAt 0 = .ok (.aload_n 0, 1) := by decide +kernel
theorem dX5_nameAt_1 : decode cX5_nameAt 1 = .ok (.iload_n 1, 1) := by decide +kernel
theorem dX5_nameAt_2 : decode cX5_nameAt 2 = .ok (.invokevirtual 38, 3) := by decide +kernel
theorem dX5_nameAt_5 : decode cX5_nameAt 5 = .ok (.ifCond .eq 12, 3) := by decide +kernel
theorem dX5_nameAt_8 : decode cX5_nameAt 8 = .ok (.aload_n 0, 1) := by decide +kernel
theorem dX5_nameAt_9 : decode cX5_nameAt 9 = .ok (.getfield 17, 3) := by decide +kernel
theorem dX5_nameAt_12 : decode cX5_nameAt 12 = .ok (.iload_n 1, 1) := by decide +kernel
theorem dX5_nameAt_13 : decode cX5_nameAt 13 = .ok (.laload, 1) := by decide +kernel
theorem dX5_nameAt_14 : decode cX5_nameAt 14 = .ok (.goto 4, 3) := by decide +kernel
theorem dX5_nameAt_17 : decode cX5_nameAt 17 = .ok (.lconst 0, 1) := by decide +kernel
theorem dX5_nameAt_18 : decode cX5_nameAt 18 = .ok (.lreturn, 1) := by decide +kernel
theorem dX5_numberAt_0 : decode cX5_numberAt 0 = .ok (.aload_n 0, 1) := by decide +kernel
theorem dX5_numberAt_1 : decode cX5_numberAt 1 = .ok (.iload_n 1, 1) := by decide +kernel
theorem dX5_numberAt_2 : decode cX5_numberAt 2 = .ok (.invokevirtual 38, 3) := by decide +kernel
theorem dX5_numberAt_5 : decode cX5_numberAt 5 = .ok (.ifCond .eq 12, 3) := by decide +kernel
theorem dX5_numberAt_8 : decode cX5_numberAt 8 = .ok (.aload_n 0, 1) := by decide +kernel
theorem dX5_numberAt_9 : decode cX5_numberAt 9 = .ok (.getfield 21, 3) := by decide +kernel
theorem dX5_numberAt_12 : decode cX5_numberAt 12 = .ok (.iload_n 1, 1) := by decide +kernel
theorem dX5_numberAt_13 : decode cX5_numberAt 13 = .ok (.iaload, 1) := by decide +kernel
theorem dX5_numberAt_14 : decode cX5_numberAt 14 = .ok (.goto 4, 3) := by decide +kernel
theorem dX5_numberAt_17 : decode cX5_numberAt 17 = .ok (.iconst 0, 1) := by decide +kernel
theorem dX5_numberAt_18 : decode cX5_numberAt 18 = .ok (.ireturn, 1) := by decide +kernel
theorem dX5_openRepeat_0 : decode cX5_openRepeat 0 = .ok (.aload_n 0, 1) := by decide +kernel
theorem dX5_openRepeat_1 : decode cX5_openRepeat 1 = .ok (.getfield 31, 3) := by decide +kernel
theorem dX5_openRepeat_4 : decode cX5_openRepeat 4 = .ok (.ifCond .lt 31, 3) := by decide +kernel
theorem dX5_openRepeat_7 : decode cX5_openRepeat 7 = .ok (.aload_n 0, 1) := by decide +kernel
theorem dX5_openRepeat_8 : decode cX5_openRepeat 8 = .ok (.getfield 31, 3) := by decide +kernel
theorem dX5_openRepeat_11 : decode cX5_openRepeat 11 = .ok (.iconst 2, 1) := by decide +kernel
theorem dX5_openRepeat_12 : decode cX5_openRepeat 12 = .ok (.if_icmp .ge 23, 3) := by decide +kernel
theorem dX5_openRepeat_15 : decode cX5_openRepeat 15 = .ok (.aload_n 0, 1) := by decide +kernel
theorem dX5_openRepeat_16 : decode cX5_openRepeat 16 = .ok (.getfield 28, 3) := by decide +kernel
theorem dX5_openRepeat_19 : decode cX5_openRepeat 19 = .ok (.aload_n 0, 1) := by decide +kernel
theorem dX5_openRepeat_20 : decode cX5_openRepeat 20 = .ok (.getfield 31, 3) := by decide +kernel
theorem dX5_openRepeat_23 : decode cX5_openRepeat 23 = .ok (.iload_n 1, 1) := by decide +kernel
theorem dX5_openRepeat_24 : decode cX5_openRepeat 24 = .ok (.iastore, 1) := by decide +kernel
theorem dX5_openRepeat_25 : decode cX5_openRepeat 25 = .ok (.aload_n 0, 1) := by decide +kernel
theorem dX5_openRepeat_26 : decode cX5_openRepeat 26 = .ok (.dup, 1) := by decide +kernel
theorem dX5_openRepeat_27 : decode cX5_openRepeat 27 = .ok (.getfield 31, 3) := by decide +kernel
theorem dX5_openRepeat_30 : decode cX5_openRepeat 30 = .ok (.iconst 1, 1) := by decide +kernel
theorem dX5_openRepeat_31 : decode cX5_openRepeat 31 = .ok (.iadd, 1) := by decide +kernel
theorem dX5_openRepeat_32 : decode cX5_openRepeat 32 = .ok (.putfield 31, 3) := by decide +kernel
theorem dX5_openRepeat_35 : decode cX5_openRepeat 35 = .ok (.return_, 1) := by decide +kernel
theorem dX6_advance_0 : decode cX6_advance 0 = .ok (.aload_n 0, 1) := by decide +kernel
theorem dX6_advance_1 : decode cX6_advance 1 = .ok (.getfield 27, 3) := by decide +kernel
theorem dX6_advance_4 : decode cX6_advance 4 = .ok (.aload_n 0, 1) := by decide +kernel
theorem dX6_advance_5 : decode cX6_advance 5 = .ok (.getfield 14, 3) := by decide +kernel
theorem dX6_advance_8 : decode cX6_advance 8 = .ok (.invokevirtual 46, 3) := by decide +kernel
theorem dX6_advance_11 : decode cX6_advance 11 = .ok (.if_icmp .ge 48, 3) := by decide +kernel
theorem dX6_advance_14 : decode cX6_advance 14 = .ok (.aload_n 0, 1) := by decide +kernel
theorem dX6_advance_15 : decode cX6_advance 15 = .ok (.getfield 14, 3) := by decide +kernel
theorem dX6_advance_18 : decode cX6_advance 18 = .ok (.aload_n 0, 1) := by decide +kernel
theorem dX6_advance_19 : decode cX6_advance 19 = .ok (.getfield 27, 3) := by decide +kernel
theorem dX6_advance_22 : decode cX6_advance 22 = .ok (.invokevirtual 50, 3) := by decide +kernel
theorem dX6_advance_25 : decode cX6_advance 25 = .ok (.bipush 32, 2) := by decide +kernel
theorem dX6_advance_27 : decode cX6_advance 27 = .ok (.if_icmp .eq 19, 3) := by decide +kernel
theorem dX6_advance_30 : decode cX6_advance 30 = .ok (.aload_n 0, 1) := by decide +kernel
theorem dX6_advance_31 : decode cX6_advance 31 = .ok (.getfield 14, 3) := by decide +kernel
theorem dX6_advance_34 : decode cX6_advance 34 = .ok (.aload_n 0, 1) := by decide +kernel
theorem dX6_advance_35 : decode cX6_advance 35 = .ok (.getfield 27, 3) := by decide +kernel
theorem dX6_advance_38 : decode cX6_advance 38 = .ok (.invokevirtual 50, 3) := by decide +kernel
theorem dX6_advance_41 : decode cX6_advance 41 = .ok (.bipush 10, 2) := by decide +kernel
theorem dX6_advance_43 : decode cX6_advance 43 = .ok (.if_icmp .ne 16, 3) := by decide +kernel
theorem dX6_advance_46 : decode cX6_advance 46 = .ok (.aload_n 0, 1) := by decide +kernel
theorem dX6_advance_47 : decode cX6_advance 47 = .ok (.dup, 1) := by decide +kernel
theorem dX6_advance_48 : decode cX6_advance 48 = .ok (.getfield 27, 3) := by decide +kernel
theorem dX6_advance_51 : decode cX6_advance 51 = .ok (.iconst 1, 1) := by decide +kernel
theorem dX6_advance_52 : decode cX6_advance 52 = .ok (.iadd, 1) := by decide +kernel
theorem dX6_advance_53 : decode cX6_advance 53 = .ok (.putfield 27, 3) := by decide +kernel
theorem dX6_advance_56 : decode cX6_advance 56 = .ok (.goto (-56), 3) := by decide +kernel
theorem dX6_advance_59 : decode cX6_advance 59 = .ok (.aload_n 0, 1) := by decide +kernel
theorem dX6_advance_60 : decode cX6_advance 60 = .ok (.aload_n 0, 1) := by decide +kernel
theorem dX6_advance_61 : decode cX6_advance 61 = .ok (.getfield 27, 3) := by decide +kernel
theorem dX6_advance_64 : decode cX6_advance 64 = .ok (.putfield 24, 3) := by decide +kernel
theorem dX6_advance_67 : decode cX6_advance 67 = .ok (.aload_n 0, 1) := by decide +kernel
theorem dX6_advance_68 : decode cX6_advance 68 = .ok (.getfield 14, 3) := by decide +kernel
theorem dX6_advance_71 : decode cX6_advance 71 = .ok (.aload_n 0, 1) := by decide +kernel
theorem dX6_advance_72 : decode cX6_advance 72 = .ok (.getfield 27, 3) := by decide +kernel
theorem dX6_advance_75 : decode cX6_advance 75 = .ok (.invokevirtual 50, 3) := by decide +kernel
theorem dX6_advance_78 : decode cX6_advance 78 = .ok (.istore_n 1, 1) := by decide +kernel
theorem dX6_advance_79 : decode cX6_advance 79 = .ok (.aload_n 0, 1) := by decide +kernel
theorem dX6_advance_80 : decode cX6_advance 80 = .ok (.getfield 27, 3) := by decide +kernel
theorem dX6_advance_83 : decode cX6_advance 83 = .ok (.aload_n 0, 1) := by decide +kernel
theorem dX6_advance_84 : decode cX6_advance 84 = .ok (.getfield 14, 3) := by decide +kernel
theorem dX6_advance_87 : decode cX6_advance 87 = .ok (.invokevirtual 46, 3) := by decide +kernel
theorem dX6_advance_90 : decode cX6_advance 90 = .ok (.if_icmp .lt 11, 3) := by decide +kernel
theorem dX6_advance_93 : decode cX6_advance 93 = .ok (.aload_n 0, 1) := by decide +kernel
theorem dX6_advance_94 : decode cX6_advance 94 = .ok (.iconst 0, 1) := by decide +kernel
theorem dX6_advance_95 : decode cX6_advance 95 = .ok (.putfield 20, 3) := by decide +kernel
theorem dX6_advance_98 : decode cX6_advance 98 = .ok (.goto 73, 3) := by decide +kernel
theorem dX6_advance_101 : decode cX6_advance 101 = .ok (.iload_n 1, 1) := by decide +kernel
theorem dX6_advance_102 : decode cX6_advance 102 = .ok (.invokestatic 54, 3) := by decide +kernel
theorem dX6_advance_105 : decode cX6_advance 105 = .ok (.ifCond .eq 10, 3) := by decide +kernel
theorem dX6_advance_108 : decode cX6_advance 108 = .ok (.aload_n 0, 1) := by decide +kernel
theorem dX6_advance_109 : decode cX6_advance 109 = .ok (.invokevirtual 58, 3) := by decide +kernel
theorem dX6_advance_112 : decode cX6_advance 112 = .ok (.goto 59, 3) := by decide +kernel
theorem dX6_advance_115 : decode cX6_advance 115 = .ok (.iload_n 1, 1) := by decide +kernel
theorem dX6_advance_116 : decode cX6_advance 116 = .ok (.invokestatic 61, 3) := by decide +kernel
theorem dX6_advance_119 : decode cX6_advance 119 = .ok (.ifCond .eq 10, 3) := by decide +kernel
theorem dX6_advance_122 : decode cX6_advance 122 = .ok (.aload_n 0, 1) := by decide +kernel
theorem dX6_advance_123 : decode cX6_advance 123 = .ok (.invokevirtual 64, 3) := by decide +kernel
theorem dX6_advance_126 : decode cX6_advance 126 = .ok (.goto 45, 3) := by decide +kernel
theorem dX6_advance_129 : decode cX6_advance 129 = .ok (.aload_n 0, 1) := by decide +kernel
theorem dX6_advance_130 : decode cX6_advance 130 = .ok (.iload_n 1, 1) := by decide +kernel
theorem dX6_advance_131 : decode cX6_advance 131 = .ok (.bipush 59, 2) := by decide +kernel
theorem dX6_advance_133 : decode cX6_advance 133 = .ok (.if_icmp .eq 15, 3) := by decide +kernel
theorem dX6_advance_136 : decode cX6_advance 136 = .ok (.iload_n 1, 1) := by decide +kernel
theorem dX6_advance_137 : decode cX6_advance 137 = .ok (.bipush 40, 2) := by decide +kernel
theorem dX6_advance_139 : decode cX6_advance 139 = .ok (.if_icmp .eq 9, 3) := by decide +kernel
theorem dX6_advance_142 : decode cX6_advance 142 = .ok (.iload_n 1, 1) := by decide +kernel
theorem dX6_advance_143 : decode cX6_advance 143 = .ok (.bipush 41, 2) := by decide +kernel
theorem dX6_advance_145 : decode cX6_advance 145 = .ok (.if_icmp .ne 7, 3) := by decide +kernel
theorem dX6_advance_148 : decode cX6_advance 148 = .ok (.iconst 3, 1) := by decide +kernel
theorem dX6_advance_149 : decode cX6_advance 149 = .ok (.goto 4, 3) := by decide +kernel
theorem dX6_advance_152 : decode cX6_advance 152 = .ok (.iconst 4, 1) := by decide +kernel
theorem dX6_advance_153 : decode cX6_advance 153 = .ok (.putfield 20, 3) := by decide +kernel
theorem dX6_advance_156 : decode cX6_advance 156 = .ok (.aload_n 0, 1) := by decide +kernel
theorem dX6_advance_157 : decode cX6_advance 157 = .ok (.iload_n 1, 1) := by decide +kernel
theorem dX6_advance_158 : decode cX6_advance 158 = .ok (.putfield 37, 3) := by decide +kernel
theorem dX6_advance_161 : decode cX6_advance 161 = .ok (.aload_n 0, 1) := by decide +kernel
theorem dX6_advance_162 : decode cX6_advance 162 = .ok (.dup, 1) := by decide +kernel
theorem dX6_advance_163 : decode cX6_advance 163 = .ok (.getfield 27, 3) := by decide +kernel
theorem dX6_advance_166 : decode cX6_advance 166 = .ok (.iconst 1, 1) := by decide +kernel
theorem dX6_advance_167 : decode cX6_advance 167 = .ok (.iadd, 1) := by decide +kernel
theorem dX6_advance_168 : decode cX6_advance 168 = .ok (.putfield 27, 3) := by decide +kernel
theorem dX6_advance_171 : decode cX6_advance 171 = .ok (.return_, 1) := by decide +kernel
theorem dX6_begin_0 : decode cX6_begin 0 = .ok (.aload_n 0, 1) := by decide +kernel
theorem dX6_begin_1 : decode cX6_begin 1 = .ok (.iconst 0, 1) := by decide +kernel
theorem dX6_begin_2 : decode cX6_begin 2 = .ok (.putfield 20, 3) := by decide +kernel
theorem dX6_begin_5 : decode cX6_begin 5 = .ok (.aload_n 0, 1) := by decide +kernel
theorem dX6_begin_6 : decode cX6_begin 6 = .ok (.iconst 0, 1) := by decide +kernel
theorem dX6_begin_7 : decode cX6_begin 7 = .ok (.putfield 24, 3) := by decide +kernel
theorem dX6_begin_10 : decode cX6_begin 10 = .ok (.aload_n 0, 1) := by decide +kernel
theorem dX6_begin_11 : decode cX6_begin 11 = .ok (.iconst 0, 1) := by decide +kernel
theorem dX6_begin_12 : decode cX6_begin 12 = .ok (.putfield 27, 3) := by decide +kernel
theorem dX6_begin_15 : decode cX6_begin 15 = .ok (.aload_n 0, 1) := by decide +kernel
theorem dX6_begin_16 : decode cX6_begin 16 = .ok (.iconst 0, 1) := by decide +kernel
theorem dX6_begin_17 : decode cX6_begin 17 = .ok (.putfield 40, 3) := by decide +kernel
theorem dX6_begin_20 : decode cX6_begin 20 = .ok (.aload_n 0, 1) := by decide +kernel
theorem dX6_begin_21 : decode cX6_begin 21 = .ok (.iconst (-1), 1) := by decide +kernel
theorem dX6_begin_22 : decode cX6_begin 22 = .ok (.putfield 43, 3) := by decide +kernel
theorem dX6_begin_25 : decode cX6_begin 25 = .ok (.return_, 1) := by decide +kernel
theorem dX6_fail_0 : decode cX6_fail 0 = .ok (.aload_n 0, 1) := by decide +kernel
theorem dX6_fail_1 : decode cX6_fail 1 = .ok (.iload_n 1, 1) := by decide +kernel
theorem dX6_fail_2 : decode cX6_fail 2 = .ok (.putfield 40, 3) := by decide +kernel
theorem dX6_fail_5 : decode cX6_fail 5 = .ok (.aload_n 0, 1) := by decide +kernel
theorem dX6_fail_6 : decode cX6_fail 6 = .ok (.aload_n 0, 1) := by decide +kernel
theorem dX6_fail_7 : decode cX6_fail 7 = .ok (.getfield 24, 3) := by decide +kernel
theorem dX6_fail_10 : decode cX6_fail 10 = .ok (.putfield 43, 3) := by decide +kernel
theorem dX6_fail_13 : decode cX6_fail 13 = .ok (.iconst 0, 1) := by decide +kernel
theorem dX6_fail_14 : decode cX6_fail 14 = .ok (.ireturn, 1) := by decide +kernel
theorem dX6_isEnd_0 : decode cX6_isEnd 0 = .ok (.aload_n 0, 1) := by decide +kernel
theorem dX6_isEnd_1 : decode cX6_isEnd 1 = .ok (.getfield 20, 3) := by decide +kernel
theorem dX6_isEnd_4 : decode cX6_isEnd 4 = .ok (.ifCond .ne 7, 3) := by decide +kernel
theorem dX6_isEnd_7 : decode cX6_isEnd 7 = .ok (.iconst 1, 1) := by decide +kernel
theorem dX6_isEnd_8 : decode cX6_isEnd 8 = .ok (.goto 4, 3) := by decide +kernel
theorem dX6_isEnd_11 : decode cX6_isEnd 11 = .ok (.iconst 0, 1) := by decide +kernel
theorem dX6_isEnd_12 : decode cX6_isEnd 12 = .ok (.ireturn, 1) := by decide +kernel
theorem dX6_isMark_0 : decode cX6_isMark 0 = .ok (.aload_n 0, 1) := by decide +kernel
theorem dX6_isMark_1 : decode cX6_isMark 1 = .ok (.getfield 20, 3) := by decide +kernel
theorem dX6_isMark_4 : decode cX6_isMark 4 = .ok (.iconst 3, 1) := by decide +kernel
theorem dX6_isMark_5 : decode cX6_isMark 5 = .ok (.if_icmp .ne 15, 3) := by decide +kernel
theorem dX6_isMark_8 : decode cX6_isMark 8 = .ok (.aload_n 0, 1) := by decide +kernel
theorem dX6_isMark_9 : decode cX6_isMark 9 = .ok (.getfield 37, 3) := by decide +kernel
theorem dX6_isMark_12 : decode cX6_isMark 12 = .ok (.iload_n 1, 1) := by decide +kernel
theorem dX6_isMark_13 : decode cX6_isMark 13 = .ok (.if_icmp .ne 7, 3) := by decide +kernel
theorem dX6_isMark_16 : decode cX6_isMark 16 = .ok (.iconst 1, 1) := by decide +kernel
theorem dX6_isMark_17 : decode cX6_isMark 17 = .ok (.goto 4, 3) := by decide +kernel
theorem dX6_isMark_20 : decode cX6_isMark 20 = .ok (.iconst 0, 1) := by decide +kernel
theorem dX6_isMark_21 : decode cX6_isMark 21 = .ok (.ireturn, 1) := by decide +kernel
theorem dX6_isWord_0 : decode cX6_isWord 0 = .ok (.aload_n 0, 1) := by decide +kernel
theorem dX6_isWord_1 : decode cX6_isWord 1 = .ok (.getfield 20, 3) := by decide +kernel
theorem dX6_isWord_4 : decode cX6_isWord 4 = .ok (.iconst 1, 1) := by decide +kernel
theorem dX6_isWord_5 : decode cX6_isWord 5 = .ok (.if_icmp .ne 7, 3) := by decide +kernel
theorem dX6_isWord_8 : decode cX6_isWord 8 = .ok (.iconst 1, 1) := by decide +kernel
theorem dX6_isWord_9 : decode cX6_isWord 9 = .ok (.goto 4, 3) := by decide +kernel
theorem dX6_isWord_12 : decode cX6_isWord 12 = .ok (.iconst 0, 1) := by decide +kernel
theorem dX6_isWord_13 : decode cX6_isWord 13 = .ok (.ireturn, 1) := by decide +kernel
theorem dX6_number_0 : decode cX6_number 0 = .ok (.aload_n 0, 1) := by decide +kernel
theorem dX6_number_1 : decode cX6_number 1 = .ok (.getfield 34, 3) := by decide +kernel
theorem dX6_number_4 : decode cX6_number 4 = .ok (.ireturn, 1) := by decide +kernel
theorem dX6_readMark_0 : decode cX6_readMark 0 = .ok (.aload_n 0, 1) := by decide +kernel
theorem dX6_readMark_1 : decode cX6_readMark 1 = .ok (.invokevirtual 75, 3) := by decide +kernel
theorem dX6_readMark_4 : decode cX6_readMark 4 = .ok (.aload_n 0, 1) := by decide +kernel
theorem dX6_readMark_5 : decode cX6_readMark 5 = .ok (.iload_n 1, 1) := by decide +kernel
theorem dX6_readMark_6 : decode cX6_readMark 6 = .ok (.invokevirtual 88, 3) := by decide +kernel
theorem dX6_readMark_9 : decode cX6_readMark 9 = .ok (.ifCond .ne 11, 3) := by decide +kernel
theorem dX6_readMark_12 : decode cX6_readMark 12 = .ok (.aload_n 0, 1) := by decide +kernel
theorem dX6_readMark_13 : decode cX6_readMark 13 = .ok (.iconst 1, 1) := by decide +kernel
theorem dX6_readMark_14 : decode cX6_readMark 14 = .ok (.invokevirtual 82, 3) := by decide +kernel
theorem dX6_readMark_17 : decode cX6_readMark 17 = .ok (.ifCond .eq 7, 3) := by decide +kernel
theorem dX6_readMark_20 : decode cX6_readMark 20 = .ok (.iconst 1, 1) := by decide +kernel
theorem dX6_readMark_21 : decode cX6_readMark 21 = .ok (.goto 4, 3) := by decide +kernel
theorem dX6_readMark_24 : decode cX6_readMark 24 = .ok (.iconst 0, 1) := by decide +kernel
theorem dX6_readMark_25 : decode cX6_readMark 25 = .ok (.ireturn, 1) := by decide +kernel
theorem dX6_readName_0 : decode cX6_readName 0 = .ok (.aload_n 0, 1) := by decide +kernel
theorem dX6_readName_1 : decode cX6_readName 1 = .ok (.invokevirtual 75, 3) := by decide +kernel
theorem dX6_readName_4 : decode cX6_readName 4 = .ok (.aload_n 0, 1) := by decide +kernel
theorem dX6_readName_5 : decode cX6_readName 5 = .ok (.invokevirtual 85, 3) := by decide +kernel
theorem dX6_readName_8 : decode cX6_readName 8 = .ok (.ifCond .ne 11, 3) := by decide +kernel
theorem dX6_readName_11 : decode cX6_readName 11 = .ok (.aload_n 0, 1) := by decide +kernel
theorem dX6_readName_12 : decode cX6_readName 12 = .ok (.iconst 1, 1) := by decide +kernel
theorem dX6_readName_13 : decode cX6_readName 13 = .ok (.invokevirtual 82, 3) := by decide +kernel
theorem dX6_readName_16 : decode cX6_readName 16 = .ok (.ifCond .eq 7, 3) := by decide +kernel
theorem dX6_readName_19 : decode cX6_readName 19 = .ok (.iconst 1, 1) := by decide +kernel
theorem dX6_readName_20 : decode cX6_readName 20 = .ok (.goto 4, 3) := by decide +kernel
theorem dX6_readName_23 : decode cX6_readName 23 = .ok (.iconst 0, 1) := by decide +kernel
theorem dX6_readName_24 : decode cX6_readName 24 = .ok (.ireturn, 1) := by decide +kernel
theorem dX6_readNumber_0 : decode cX6_readNumber 0 = .ok (.aload_n 0, 1) := by decide +kernel
theorem dX6_readNumber_1 : decode cX6_readNumber 1 = .ok (.invokevirtual 75, 3) := by decide +kernel
theorem dX6_readNumber_4 : decode cX6_readNumber 4 = .ok (.aload_n 0, 1) := by decide +kernel
theorem dX6_readNumber_5 : decode cX6_readNumber 5 = .ok (.getfield 20, 3) := by decide +kernel
theorem dX6_readNumber_8 : decode cX6_readNumber 8 = .ok (.iconst 2, 1) := by decide +kernel
theorem dX6_readNumber_9 : decode cX6_readNumber 9 = .ok (.if_icmp .eq 9, 3) := by decide +kernel
theorem dX6_readNumber_12 : decode cX6_readNumber 12 = .ok (.aload_n 0, 1) := by decide +kernel
theorem dX6_readNumber_13 : decode cX6_readNumber 13 = .ok (.iconst 1, 1) := by decide +kernel
theorem dX6_readNumber_14 : decode cX6_readNumber 14 = .ok (.invokevirtual 82, 3) := by decide +kernel
theorem dX6_readNumber_17 : decode cX6_readNumber 17 = .ok (.ireturn, 1) := by decide +kernel
theorem dX6_readNumber_18 : decode cX6_readNumber 18 = .ok (.aload_n 0, 1) := by decide +kernel
theorem dX6_readNumber_19 : decode cX6_readNumber 19 = .ok (.getfield 34, 3) := by decide +kernel
theorem dX6_readNumber_22 : decode cX6_readNumber 22 = .ok (.iload_n 1, 1) := by decide +kernel
theorem dX6_readNumber_23 : decode cX6_readNumber 23 = .ok (.if_icmp .lt 11, 3) := by decide +kernel
theorem dX6_readNumber_26 : decode cX6_readNumber 26 = .ok (.aload_n 0, 1) := by decide +kernel
theorem dX6_readNumber_27 : decode cX6_readNumber 27 = .ok (.getfield 34, 3) := by decide +kernel
theorem dX6_readNumber_30 : decode cX6_readNumber 30 = .ok (.iload_n 2, 1) := by decide +kernel
theorem dX6_readNumber_31 : decode cX6_readNumber 31 = .ok (.if_icmp .le 11, 3) := by decide +kernel
theorem dX6_readNumber_34 : decode cX6_readNumber 34 = .ok (.aload_n 0, 1) := by decide +kernel
theorem dX6_readNumber_35 : decode cX6_readNumber 35 = .ok (.iconst 2, 1) := by decide +kernel
theorem dX6_readNumber_36 : decode cX6_readNumber 36 = .ok (.invokevirtual 82, 3) := by decide +kernel
theorem dX6_readNumber_39 : decode cX6_readNumber 39 = .ok (.ifCond .eq 7, 3) := by decide +kernel
theorem dX6_readNumber_42 : decode cX6_readNumber 42 = .ok (.iconst 1, 1) := by decide +kernel
theorem dX6_readNumber_43 : decode cX6_readNumber 43 = .ok (.goto 4, 3) := by decide +kernel
theorem dX6_readNumber_46 : decode cX6_readNumber 46 = .ok (.iconst 0, 1) := by decide +kernel
theorem dX6_readNumber_47 : decode cX6_readNumber 47 = .ok (.ireturn, 1) := by decide +kernel
theorem dX6_takeNumber_0 : decode cX6_takeNumber 0 = .ok (.aload_n 0, 1) := by decide +kernel
theorem dX6_takeNumber_1 : decode cX6_takeNumber 1 = .ok (.iconst 0, 1) := by decide +kernel
theorem dX6_takeNumber_2 : decode cX6_takeNumber 2 = .ok (.putfield 34, 3) := by decide +kernel
theorem dX6_takeNumber_5 : decode cX6_takeNumber 5 = .ok (.aload_n 0, 1) := by decide +kernel
theorem dX6_takeNumber_6 : decode cX6_takeNumber 6 = .ok (.getfield 27, 3) := by decide +kernel
theorem dX6_takeNumber_9 : decode cX6_takeNumber 9 = .ok (.aload_n 0, 1) := by decide +kernel
theorem dX6_takeNumber_10 : decode cX6_takeNumber 10 = .ok (.getfield 14, 3) := by decide +kernel
theorem dX6_takeNumber_13 : decode cX6_takeNumber 13 = .ok (.invokevirtual 46, 3) := by decide +kernel
theorem dX6_takeNumber_16 : decode cX6_takeNumber 16 = .ok (.if_icmp .ge 72, 3) := by decide +kernel
theorem dX6_takeNumber_19 : decode cX6_takeNumber 19 = .ok (.aload_n 0, 1) := by decide +kernel
theorem dX6_takeNumber_20 : decode cX6_takeNumber 20 = .ok (.getfield 14, 3) := by decide +kernel
theorem dX6_takeNumber_23 : decode cX6_takeNumber 23 = .ok (.aload_n 0, 1) := by decide +kernel
theorem dX6_takeNumber_24 : decode cX6_takeNumber 24 = .ok (.getfield 27, 3) := by decide +kernel
theorem dX6_takeNumber_27 : decode cX6_takeNumber 27 = .ok (.invokevirtual 50, 3) := by decide +kernel
theorem dX6_takeNumber_30 : decode cX6_takeNumber 30 = .ok (.invokestatic 61, 3) := by decide +kernel
theorem dX6_takeNumber_33 : decode cX6_takeNumber 33 = .ok (.ifCond .eq 55, 3) := by decide +kernel
theorem dX6_takeNumber_36 : decode cX6_takeNumber 36 = .ok (.aload_n 0, 1) := by decide +kernel
theorem dX6_takeNumber_37 : decode cX6_takeNumber 37 = .ok (.getfield 27, 3) := by decide +kernel
theorem dX6_takeNumber_40 : decode cX6_takeNumber 40 = .ok (.aload_n 0, 1) := by decide +kernel
theorem dX6_takeNumber_41 : decode cX6_takeNumber 41 = .ok (.getfield 24, 3) := by decide +kernel
theorem dX6_takeNumber_44 : decode cX6_takeNumber 44 = .ok (.isub, 1) := by decide +kernel
theorem dX6_takeNumber_45 : decode cX6_takeNumber 45 = .ok (.iconst 3, 1) := by decide +kernel
theorem dX6_takeNumber_46 : decode cX6_takeNumber 46 = .ok (.if_icmp .ge 29, 3) := by decide +kernel
theorem dX6_takeNumber_49 : decode cX6_takeNumber 49 = .ok (.aload_n 0, 1) := by decide +kernel
theorem dX6_takeNumber_50 : decode cX6_takeNumber 50 = .ok (.bipush 10, 2) := by decide +kernel
theorem dX6_takeNumber_52 : decode cX6_takeNumber 52 = .ok (.aload_n 0, 1) := by decide +kernel
theorem dX6_takeNumber_53 : decode cX6_takeNumber 53 = .ok (.getfield 34, 3) := by decide +kernel
theorem dX6_takeNumber_56 : decode cX6_takeNumber 56 = .ok (.imul, 1) := by decide +kernel
theorem dX6_takeNumber_57 : decode cX6_takeNumber 57 = .ok (.aload_n 0, 1) := by decide +kernel
theorem dX6_takeNumber_58 : decode cX6_takeNumber 58 = .ok (.getfield 14, 3) := by decide +kernel
theorem dX6_takeNumber_61 : decode cX6_takeNumber 61 = .ok (.aload_n 0, 1) := by decide +kernel
theorem dX6_takeNumber_62 : decode cX6_takeNumber 62 = .ok (.getfield 27, 3) := by decide +kernel
theorem dX6_takeNumber_65 : decode cX6_takeNumber 65 = .ok (.invokevirtual 50, 3) := by decide +kernel
theorem dX6_takeNumber_68 : decode cX6_takeNumber 68 = .ok (.bipush 48, 2) := by decide +kernel
theorem dX6_takeNumber_70 : decode cX6_takeNumber 70 = .ok (.isub, 1) := by decide +kernel
theorem dX6_takeNumber_71 : decode cX6_takeNumber 71 = .ok (.iadd, 1) := by decide +kernel
theorem dX6_takeNumber_72 : decode cX6_takeNumber 72 = .ok (.putfield 34, 3) := by decide +kernel
theorem dX6_takeNumber_75 : decode cX6_takeNumber 75 = .ok (.aload_n 0, 1) := by decide +kernel
theorem dX6_takeNumber_76 : decode cX6_takeNumber 76 = .ok (.dup, 1) := by decide +kernel
theorem dX6_takeNumber_77 : decode cX6_takeNumber 77 = .ok (.getfield 27, 3) := by decide +kernel
theorem dX6_takeNumber_80 : decode cX6_takeNumber 80 = .ok (.iconst 1, 1) := by decide +kernel
theorem dX6_takeNumber_81 : decode cX6_takeNumber 81 = .ok (.iadd, 1) := by decide +kernel
theorem dX6_takeNumber_82 : decode cX6_takeNumber 82 = .ok (.putfield 27, 3) := by decide +kernel
theorem dX6_takeNumber_85 : decode cX6_takeNumber 85 = .ok (.goto (-80), 3) := by decide +kernel
theorem dX6_takeNumber_88 : decode cX6_takeNumber 88 = .ok (.aload_n 0, 1) := by decide +kernel
theorem dX6_takeNumber_89 : decode cX6_takeNumber 89 = .ok (.aload_n 0, 1) := by decide +kernel
theorem dX6_takeNumber_90 : decode cX6_takeNumber 90 = .ok (.getfield 27, 3) := by decide +kernel
theorem dX6_takeNumber_93 : decode cX6_takeNumber 93 = .ok (.aload_n 0, 1) := by decide +kernel
theorem dX6_takeNumber_94 : decode cX6_takeNumber 94 = .ok (.getfield 24, 3) := by decide +kernel
theorem dX6_takeNumber_97 : decode cX6_takeNumber 97 = .ok (.isub, 1) := by decide +kernel
theorem dX6_takeNumber_98 : decode cX6_takeNumber 98 = .ok (.iconst 3, 1) := by decide +kernel
theorem dX6_takeNumber_99 : decode cX6_takeNumber 99 = .ok (.if_icmp .le 7, 3) := by decide +kernel
theorem dX6_takeNumber_102 : decode cX6_takeNumber 102 = .ok (.iconst 4, 1) := by decide +kernel
theorem dX6_takeNumber_103 : decode cX6_takeNumber 103 = .ok (.goto 4, 3) := by decide +kernel
theorem dX6_takeNumber_106 : decode cX6_takeNumber 106 = .ok (.iconst 2, 1) := by decide +kernel
theorem dX6_takeNumber_107 : decode cX6_takeNumber 107 = .ok (.putfield 20, 3) := by decide +kernel
theorem dX6_takeNumber_110 : decode cX6_takeNumber 110 = .ok (.return_, 1) := by decide +kernel
theorem dX6_takeWord_0 : decode cX6_takeWord 0 = .ok (.aload_n 0, 1) := by decide +kernel
theorem dX6_takeWord_1 : decode cX6_takeWord 1 = .ok (.lconst 0, 1) := by decide +kernel
theorem dX6_takeWord_2 : decode cX6_takeWord 2 = .ok (.putfield 30, 3) := by decide +kernel
theorem dX6_takeWord_5 : decode cX6_takeWord 5 = .ok (.aload_n 0, 1) := by decide +kernel
theorem dX6_takeWord_6 : decode cX6_takeWord 6 = .ok (.getfield 27, 3) := by decide +kernel
theorem dX6_takeWord_9 : decode cX6_takeWord 9 = .ok (.aload_n 0, 1) := by decide +kernel
theorem dX6_takeWord_10 : decode cX6_takeWord 10 = .ok (.getfield 14, 3) := by decide +kernel
theorem dX6_takeWord_13 : decode cX6_takeWord 13 = .ok (.invokevirtual 46, 3) := by decide +kernel
theorem dX6_takeWord_16 : decode cX6_takeWord 16 = .ok (.if_icmp .ge 83, 3) := by decide +kernel
theorem dX6_takeWord_19 : decode cX6_takeWord 19 = .ok (.aload_n 0, 1) := by decide +kernel
theorem dX6_takeWord_20 : decode cX6_takeWord 20 = .ok (.getfield 14, 3) := by decide +kernel
theorem dX6_takeWord_23 : decode cX6_takeWord 23 = .ok (.aload_n 0, 1) := by decide +kernel
theorem dX6_takeWord_24 : decode cX6_takeWord 24 = .ok (.getfield 27, 3) := by decide +kernel
theorem dX6_takeWord_27 : decode cX6_takeWord 27 = .ok (.invokevirtual 50, 3) := by decide +kernel
theorem dX6_takeWord_30 : decode cX6_takeWord 30 = .ok (.invokestatic 54, 3) := by decide +kernel
theorem dX6_takeWord_33 : decode cX6_takeWord 33 = .ok (.ifCond .eq 66, 3) := by decide +kernel
theorem dX6_takeWord_36 : decode cX6_takeWord 36 = .ok (.aload_n 0, 1) := by decide +kernel
theorem dX6_takeWord_37 : decode cX6_takeWord 37 = .ok (.getfield 27, 3) := by decide +kernel
theorem dX6_takeWord_40 : decode cX6_takeWord 40 = .ok (.aload_n 0, 1) := by decide +kernel
theorem dX6_takeWord_41 : decode cX6_takeWord 41 = .ok (.getfield 24, 3) := by decide +kernel
theorem dX6_takeWord_44 : decode cX6_takeWord 44 = .ok (.isub, 1) := by decide +kernel
theorem dX6_takeWord_45 : decode cX6_takeWord 45 = .ok (.bipush 8, 2) := by decide +kernel
theorem dX6_takeWord_47 : decode cX6_takeWord 47 = .ok (.if_icmp .ge 39, 3) := by decide +kernel
theorem dX6_takeWord_50 : decode cX6_takeWord 50 = .ok (.aload_n 0, 1) := by decide +kernel
theorem dX6_takeWord_51 : decode cX6_takeWord 51 = .ok (.aload_n 0, 1) := by decide +kernel
theorem dX6_takeWord_52 : decode cX6_takeWord 52 = .ok (.getfield 30, 3) := by decide +kernel
theorem dX6_takeWord_55 : decode cX6_takeWord 55 = .ok (.aload_n 0, 1) := by decide +kernel
theorem dX6_takeWord_56 : decode cX6_takeWord 56 = .ok (.getfield 27, 3) := by decide +kernel
theorem dX6_takeWord_59 : decode cX6_takeWord 59 = .ok (.aload_n 0, 1) := by decide +kernel
theorem dX6_takeWord_60 : decode cX6_takeWord 60 = .ok (.getfield 24, 3) := by decide +kernel
theorem dX6_takeWord_63 : decode cX6_takeWord 63 = .ok (.isub, 1) := by decide +kernel
theorem dX6_takeWord_64 : decode cX6_takeWord 64 = .ok (.aload_n 0, 1) := by decide +kernel
theorem dX6_takeWord_65 : decode cX6_takeWord 65 = .ok (.getfield 14, 3) := by decide +kernel
theorem dX6_takeWord_68 : decode cX6_takeWord 68 = .ok (.aload_n 0, 1) := by decide +kernel
theorem dX6_takeWord_69 : decode cX6_takeWord 69 = .ok (.getfield 27, 3) := by decide +kernel
theorem dX6_takeWord_72 : decode cX6_takeWord 72 = .ok (.invokevirtual 50, 3) := by decide +kernel
theorem dX6_takeWord_75 : decode cX6_takeWord 75 = .ok (.bipush 97, 2) := by decide +kernel
theorem dX6_takeWord_77 : decode cX6_takeWord 77 = .ok (.isub, 1) := by decide +kernel
theorem dX6_takeWord_78 : decode cX6_takeWord 78 = .ok (.iconst 1, 1) := by decide +kernel
theorem dX6_takeWord_79 : decode cX6_takeWord 79 = .ok (.iadd, 1) := by decide +kernel
theorem dX6_takeWord_80 : decode cX6_takeWord 80 = .ok (.invokestatic 67, 3) := by decide +kernel
theorem dX6_takeWord_83 : decode cX6_takeWord 83 = .ok (.putfield 30, 3) := by decide +kernel
theorem dX6_takeWord_86 : decode cX6_takeWord 86 = .ok (.aload_n 0, 1) := by decide +kernel
theorem dX6_takeWord_87 : decode cX6_takeWord 87 = .ok (.dup, 1) := by decide +kernel
theorem dX6_takeWord_88 : decode cX6_takeWord 88 = .ok (.getfield 27, 3) := by decide +kernel
theorem dX6_takeWord_91 : decode cX6_takeWord 91 = .ok (.iconst 1, 1) := by decide +kernel
theorem dX6_takeWord_92 : decode cX6_takeWord 92 = .ok (.iadd, 1) := by decide +kernel
theorem dX6_takeWord_93 : decode cX6_takeWord 93 = .ok (.putfield 27, 3) := by decide +kernel
theorem dX6_takeWord_96 : decode cX6_takeWord 96 = .ok (.goto (-91), 3) := by decide +kernel
theorem dX6_takeWord_99 : decode cX6_takeWord 99 = .ok (.aload_n 0, 1) := by decide +kernel
theorem dX6_takeWord_100 : decode cX6_takeWord 100 = .ok (.aload_n 0, 1) := by decide +kernel
theorem dX6_takeWord_101 : decode cX6_takeWord 101 = .ok (.getfield 27, 3) := by decide +kernel
theorem dX6_takeWord_104 : decode cX6_takeWord 104 = .ok (.aload_n 0, 1) := by decide +kernel
theorem dX6_takeWord_105 : decode cX6_takeWord 105 = .ok (.getfield 24, 3) := by decide +kernel
theorem dX6_takeWord_108 : decode cX6_takeWord 108 = .ok (.isub, 1) := by decide +kernel
theorem dX6_takeWord_109 : decode cX6_takeWord 109 = .ok (.bipush 8, 2) := by decide +kernel
theorem dX6_takeWord_111 : decode cX6_takeWord 111 = .ok (.if_icmp .le 7, 3) := by decide +kernel
theorem dX6_takeWord_114 : decode cX6_takeWord 114 = .ok (.iconst 4, 1) := by decide +kernel
theorem dX6_takeWord_115 : decode cX6_takeWord 115 = .ok (.goto 4, 3) := by decide +kernel
theorem dX6_takeWord_118 : decode cX6_takeWord 118 = .ok (.iconst 1, 1) := by decide +kernel
theorem dX6_takeWord_119 : decode cX6_takeWord 119 = .ok (.putfield 20, 3) := by decide +kernel
theorem dX6_takeWord_122 : decode cX6_takeWord 122 = .ok (.return_, 1) := by decide +kernel
theorem dX6_word_0 : decode cX6_word 0 = .ok (.aload_n 0, 1) := by decide +kernel
theorem dX6_word_1 : decode cX6_word 1 = .ok (.getfield 30, 3) := by decide +kernel
theorem dX6_word_4 : decode cX6_word 4 = .ok (.lreturn, 1) := by decide +kernel
theorem dX6_wrongCode_0 : decode cX6_wrongCode 0 = .ok (.aload_n 0, 1) := by decide +kernel
theorem dX6_wrongCode_1 : decode cX6_wrongCode 1 = .ok (.getfield 40, 3) := by decide +kernel
theorem dX6_wrongCode_4 : decode cX6_wrongCode 4 = .ok (.ireturn, 1) := by decide +kernel
theorem dX6_wrongPosition_0 : decode cX6_wrongPosition 0 = .ok (.aload_n 0, 1) := by decide +kernel
theorem dX6_wrongPosition_1 : decode cX6_wrongPosition 1 = .ok (.getfield 43, 3) := by decide +kernel
theorem dX6_wrongPosition_4 : decode cX6_wrongPosition 4 = .ok (.ireturn, 1) := by decide +kernel
theorem dX7_cutOff_0 : decode cX7_cutOff 0 = .ok (.iconst 0, 1) := by decide +kernel
theorem dX7_cutOff_1 : decode cX7_cutOff 1 = .ok (.istore_n 2, 1) := by decide +kernel
theorem dX7_cutOff_2 : decode cX7_cutOff 2 = .ok (.iload_n 2, 1) := by decide +kernel
theorem dX7_cutOff_3 : decode cX7_cutOff 3 = .ok (.aload_n 0, 1) := by decide +kernel
theorem dX7_cutOff_4 : decode cX7_cutOff 4 = .ok (.getfield 40, 3) := by decide +kernel
theorem dX7_cutOff_7 : decode cX7_cutOff 7 = .ok (.if_icmp .ge 80, 3) := by decide +kernel
theorem dX7_cutOff_10 : decode cX7_cutOff 10 = .ok (.aload_n 0, 1) := by decide +kernel
theorem dX7_cutOff_11 : decode cX7_cutOff 11 = .ok (.iload_n 1, 1) := by decide +kernel
theorem dX7_cutOff_12 : decode cX7_cutOff 12 = .ok (.iload_n 2, 1) := by decide +kernel
theorem dX7_cutOff_13 : decode cX7_cutOff 13 = .ok (.invokevirtual 91, 3) := by decide +kernel
theorem dX7_cutOff_16 : decode cX7_cutOff 16 = .ok (.ifCond .eq 65, 3) := by decide +kernel
theorem dX7_cutOff_19 : decode cX7_cutOff 19 = .ok (.aload_n 0, 1) := by decide +kernel
theorem dX7_cutOff_20 : decode cX7_cutOff 20 = .ok (.getfield 21, 3) := by decide +kernel
theorem dX7_cutOff_23 : decode cX7_cutOff 23 = .ok (.iload_n 2, 1) := by decide +kernel
theorem dX7_cutOff_24 : decode cX7_cutOff 24 = .ok (.baload, 1) := by decide +kernel
theorem dX7_cutOff_25 : decode cX7_cutOff 25 = .ok (.ifCond .ne 56, 3) := by decide +kernel
theorem dX7_cutOff_28 : decode cX7_cutOff 28 = .ok (.aload_n 0, 1) := by decide +kernel
theorem dX7_cutOff_29 : decode cX7_cutOff 29 = .ok (.getfield 21, 3) := by decide +kernel
theorem dX7_cutOff_32 : decode cX7_cutOff 32 = .ok (.iload_n 2, 1) := by decide +kernel
theorem dX7_cutOff_33 : decode cX7_cutOff 33 = .ok (.iconst 1, 1) := by decide +kernel
theorem dX7_cutOff_34 : decode cX7_cutOff 34 = .ok (.bastore, 1) := by decide +kernel
theorem dX7_cutOff_35 : decode cX7_cutOff 35 = .ok (.aload_n 0, 1) := by decide +kernel
theorem dX7_cutOff_36 : decode cX7_cutOff 36 = .ok (.aload_n 0, 1) := by decide +kernel
theorem dX7_cutOff_37 : decode cX7_cutOff 37 = .ok (.getfield 15, 3) := by decide +kernel
theorem dX7_cutOff_40 : decode cX7_cutOff 40 = .ok (.iload_n 2, 1) := by decide +kernel
theorem dX7_cutOff_41 : decode cX7_cutOff 41 = .ok (.iaload, 1) := by decide +kernel
theorem dX7_cutOff_42 : decode cX7_cutOff 42 = .ok (.invokevirtual 107, 3) := by decide +kernel
theorem dX7_cutOff_45 : decode cX7_cutOff 45 = .ok (.aload_n 0, 1) := by decide +kernel
theorem dX7_cutOff_46 : decode cX7_cutOff 46 = .ok (.aload_n 0, 1) := by decide +kernel
theorem dX7_cutOff_47 : decode cX7_cutOff 47 = .ok (.getfield 18, 3) := by decide +kernel
theorem dX7_cutOff_50 : decode cX7_cutOff 50 = .ok (.iload_n 2, 1) := by decide +kernel
theorem dX7_cutOff_51 : decode cX7_cutOff 51 = .ok (.iaload, 1) := by decide +kernel
theorem dX7_cutOff_52 : decode cX7_cutOff 52 = .ok (.invokevirtual 107, 3) := by decide +kernel
theorem dX7_cutOff_55 : decode cX7_cutOff 55 = .ok (.aload_n 0, 1) := by decide +kernel
theorem dX7_cutOff_56 : decode cX7_cutOff 56 = .ok (.getfield 15, 3) := by decide +kernel
theorem dX7_cutOff_59 : decode cX7_cutOff 59 = .ok (.iload_n 2, 1) := by decide +kernel
theorem dX7_cutOff_60 : decode cX7_cutOff 60 = .ok (.iaload, 1) := by decide +kernel
theorem dX7_cutOff_61 : decode cX7_cutOff 61 = .ok (.iload_n 1, 1) := by decide +kernel
theorem dX7_cutOff_62 : decode cX7_cutOff 62 = .ok (.if_icmp .ne 12, 3) := by decide +kernel
theorem dX7_cutOff_65 : decode cX7_cutOff 65 = .ok (.aload_n 0, 1) := by decide +kernel
theorem dX7_cutOff_66 : decode cX7_cutOff 66 = .ok (.getfield 18, 3) := by decide +kernel
theorem dX7_cutOff_69 : decode cX7_cutOff 69 = .ok (.iload_n 2, 1) := by decide +kernel
theorem dX7_cutOff_70 : decode cX7_cutOff 70 = .ok (.iaload, 1) := by decide +kernel
theorem dX7_cutOff_71 : decode cX7_cutOff 71 = .ok (.goto 9, 3) := by decide +kernel
theorem dX7_cutOff_74 : decode cX7_cutOff 74 = .ok (.aload_n 0, 1) := by decide +kernel
theorem dX7_cutOff_75 : decode cX7_cutOff 75 = .ok (.getfield 15, 3) := by decide +kernel
theorem dX7_cutOff_78 : decode cX7_cutOff 78 = .ok (.iload_n 2, 1) := by decide +kernel
theorem dX7_cutOff_79 : decode cX7_cutOff 79 = .ok (.iaload, 1) := by decide +kernel
theorem dX7_cutOff_80 : decode cX7_cutOff 80 = .ok (.ireturn, 1) := by decide +kernel
theorem dX7_cutOff_81 : decode cX7_cutOff 81 = .ok (.iinc 2 1, 3) := by decide +kernel
theorem dX7_cutOff_84 : decode cX7_cutOff 84 = .ok (.goto (-82), 3) := by decide +kernel
theorem dX7_cutOff_87 : decode cX7_cutOff 87 = .ok (.iconst (-1), 1) := by decide +kernel
theorem dX7_cutOff_88 : decode cX7_cutOff 88 = .ok (.ireturn, 1) := by decide +kernel
theorem dX7_differencesOfCodes_0 : decode cX7_differencesOfCodes 0 = .ok (.iconst 0, 1) := by decide +kernel
theorem dX7_differencesOfCodes_1 : decode cX7_differencesOfCodes 1 = .ok (.istore_n 1, 1) := by decide +kernel
theorem dX7_differencesOfCodes_2 : decode cX7_differencesOfCodes 2 = .ok (.iload_n 1, 1) := by decide +kernel
theorem dX7_differencesOfCodes_3 : decode cX7_differencesOfCodes 3 = .ok (.aload_n 0, 1) := by decide +kernel
theorem dX7_differencesOfCodes_4 : decode cX7_differencesOfCodes 4 = .ok (.getfield 40, 3) := by decide +kernel
theorem dX7_differencesOfCodes_7 : decode cX7_differencesOfCodes 7 = .ok (.if_icmp .ge 22, 3) := by decide +kernel
theorem dX7_differencesOfCodes_10 : decode cX7_differencesOfCodes 10 = .ok (.iload_n 1, 1) := by decide +kernel
theorem dX7_differencesOfCodes_11 : decode cX7_differencesOfCodes 11 = .ok (.bipush 11, 2) := by decide +kernel
theorem dX7_differencesOfCodes_13 : decode cX7_differencesOfCodes 13 = .ok (.if_icmp .ge 16, 3) := by decide +kernel
theorem dX7_differencesOfCodes_16 : decode cX7_differencesOfCodes 16 = .ok (.aload_n 0, 1) := by decide +kernel
theorem dX7_differencesOfCodes_17 : decode cX7_differencesOfCodes 17 = .ok (.getfield 21, 3) := by decide +kernel
theorem dX7_differencesOfCodes_20 : decode cX7_differencesOfCodes 20 = .ok (.iload_n 1, 1) := by decide +kernel
theorem dX7_differencesOfCodes_21 : decode cX7_differencesOfCodes 21 = .ok (.iconst 0, 1) := by decide +kernel
theorem dX7_differencesOfCodes_22 : decode cX7_differencesOfCodes 22 = .ok (.bastore, 1) := by decide +kernel
theorem dX7_differencesOfCodes_23 : decode cX7_differencesOfCodes 23 = .ok (.iinc 1 1, 3) := by decide +kernel
theorem dX7_differencesOfCodes_26 : decode cX7_differencesOfCodes 26 = .ok (.goto (-24), 3) := by decide +kernel
theorem dX7_differencesOfCodes_29 : decode cX7_differencesOfCodes 29 = .ok (.iconst 0, 1) := by decide +kernel
theorem dX7_differencesOfCodes_30 : decode cX7_differencesOfCodes 30 = .ok (.istore_n 1, 1) := by decide +kernel
theorem dX7_differencesOfCodes_31 : decode cX7_differencesOfCodes 31 = .ok (.iload_n 1, 1) := by decide +kernel
theorem dX7_differencesOfCodes_32 : decode cX7_differencesOfCodes 32 = .ok (.aload_n 0, 1) := by decide +kernel
theorem dX7_differencesOfCodes_33 : decode cX7_differencesOfCodes 33 = .ok (.getfield 33, 3) := by decide +kernel
theorem dX7_differencesOfCodes_36 : decode cX7_differencesOfCodes 36 = .ok (.if_icmp .ge 26, 3) := by decide +kernel
theorem dX7_differencesOfCodes_39 : decode cX7_differencesOfCodes 39 = .ok (.iload_n 1, 1) := by decide +kernel
theorem dX7_differencesOfCodes_40 : decode cX7_differencesOfCodes 40 = .ok (.bipush 12, 2) := by decide +kernel
theorem dX7_differencesOfCodes_42 : decode cX7_differencesOfCodes 42 = .ok (.if_icmp .ge 20, 3) := by decide +kernel
theorem dX7_differencesOfCodes_45 : decode cX7_differencesOfCodes 45 = .ok (.aload_n 0, 1) := by decide +kernel
theorem dX7_differencesOfCodes_46 : decode cX7_differencesOfCodes 46 = .ok (.getfield 25, 3) := by decide +kernel
theorem dX7_differencesOfCodes_49 : decode cX7_differencesOfCodes 49 = .ok (.iload_n 1, 1) := by decide +kernel
theorem dX7_differencesOfCodes_50 : decode cX7_differencesOfCodes 50 = .ok (.aload_n 0, 1) := by decide +kernel
theorem dX7_differencesOfCodes_51 : decode cX7_differencesOfCodes 51 = .ok (.iload_n 1, 1) := by decide +kernel
theorem dX7_differencesOfCodes_52 : decode cX7_differencesOfCodes 52 = .ok (.invokevirtual 95, 3) := by decide +kernel
theorem dX7_differencesOfCodes_55 : decode cX7_differencesOfCodes 55 = .ok (.iastore, 1) := by decide +kernel
theorem dX7_differencesOfCodes_56 : decode cX7_differencesOfCodes 56 = .ok (.iinc 1 1, 3) := by decide +kernel
theorem dX7_differencesOfCodes_59 : decode cX7_differencesOfCodes 59 = .ok (.goto (-28), 3) := by decide +kernel
theorem dX7_differencesOfCodes_62 : decode cX7_differencesOfCodes 62 = .ok (.iconst 0, 1) := by decide +kernel
theorem dX7_differencesOfCodes_63 : decode cX7_differencesOfCodes 63 = .ok (.istore_n 1, 1) := by decide +kernel
theorem dX7_differencesOfCodes_64 : decode cX7_differencesOfCodes 64 = .ok (.iconst 0, 1) := by decide +kernel
theorem dX7_differencesOfCodes_65 : decode cX7_differencesOfCodes 65 = .ok (.istore_n 2, 1) := by decide +kernel
theorem dX7_differencesOfCodes_66 : decode cX7_differencesOfCodes 66 = .ok (.iload_n 2, 1) := by decide +kernel
theorem dX7_differencesOfCodes_67 : decode cX7_differencesOfCodes 67 = .ok (.aload_n 0, 1) := by decide +kernel
theorem dX7_differencesOfCodes_68 : decode cX7_differencesOfCodes 68 = .ok (.getfield 37, 3) := by decide +kernel
theorem dX7_differencesOfCodes_71 : decode cX7_differencesOfCodes 71 = .ok (.if_icmp .ge 29, 3) := by decide +kernel
theorem dX7_differencesOfCodes_74 : decode cX7_differencesOfCodes 74 = .ok (.aload_n 0, 1) := by decide +kernel
theorem dX7_differencesOfCodes_75 : decode cX7_differencesOfCodes 75 = .ok (.aload_n 0, 1) := by decide +kernel
theorem dX7_differencesOfCodes_76 : decode cX7_differencesOfCodes 76 = .ok (.iconst (-1), 1) := by decide +kernel
theorem dX7_differencesOfCodes_77 : decode cX7_differencesOfCodes 77 = .ok (.invokevirtual 70, 3) := by decide +kernel
theorem dX7_differencesOfCodes_80 : decode cX7_differencesOfCodes 80 = .ok (.invokevirtual 104, 3) := by decide +kernel
theorem dX7_differencesOfCodes_83 : decode cX7_differencesOfCodes 83 = .ok (.aload_n 0, 1) := by decide +kernel
theorem dX7_differencesOfCodes_84 : decode cX7_differencesOfCodes 84 = .ok (.iload_n 2, 1) := by decide +kernel
theorem dX7_differencesOfCodes_85 : decode cX7_differencesOfCodes 85 = .ok (.invokevirtual 73, 3) := by decide +kernel
theorem dX7_differencesOfCodes_88 : decode cX7_differencesOfCodes 88 = .ok (.if_icmp .eq 6, 3) := by decide +kernel
theorem dX7_differencesOfCodes_91 : decode cX7_differencesOfCodes 91 = .ok (.iinc 1 1, 3) := by decide +kernel
theorem dX7_differencesOfCodes_94 : decode cX7_differencesOfCodes 94 = .ok (.iinc 2 1, 3) := by decide +kernel
theorem dX7_differencesOfCodes_97 : decode cX7_differencesOfCodes 97 = .ok (.goto (-31), 3) := by decide +kernel
theorem dX7_differencesOfCodes_100 : decode cX7_differencesOfCodes 100 = .ok (.iload_n 1, 1) := by decide +kernel
theorem dX7_differencesOfCodes_101 : decode cX7_differencesOfCodes 101 = .ok (.ireturn, 1) := by decide +kernel
theorem dX7_distance_0 : decode cX7_distance 0 = .ok (.aload_n 0, 1) := by decide +kernel
theorem dX7_distance_1 : decode cX7_distance 1 = .ok (.iload_n 1, 1) := by decide +kernel
theorem dX7_distance_2 : decode cX7_distance 2 = .ok (.invokevirtual 66, 3) := by decide +kernel
theorem dX7_distance_5 : decode cX7_distance 5 = .ok (.ifCond .eq 22, 3) := by decide +kernel
theorem dX7_distance_8 : decode cX7_distance 8 = .ok (.aload_n 0, 1) := by decide +kernel
theorem dX7_distance_9 : decode cX7_distance 9 = .ok (.iload_n 2, 1) := by decide +kernel
theorem dX7_distance_10 : decode cX7_distance 10 = .ok (.invokevirtual 66, 3) := by decide +kernel
theorem dX7_distance_13 : decode cX7_distance 13 = .ok (.ifCond .eq 14, 3) := by decide +kernel
theorem dX7_distance_16 : decode cX7_distance 16 = .ok (.aload_n 0, 1) := by decide +kernel
theorem dX7_distance_17 : decode cX7_distance 17 = .ok (.getfield 30, 3) := by decide +kernel
theorem dX7_distance_20 : decode cX7_distance 20 = .ok (.iload_n 1, 1) := by decide +kernel
theorem dX7_distance_21 : decode cX7_distance 21 = .ok (.aaload, 1) := by decide +kernel
theorem dX7_distance_22 : decode cX7_distance 22 = .ok (.iload_n 2, 1) := by decide +kernel
theorem dX7_distance_23 : decode cX7_distance 23 = .ok (.iaload, 1) := by decide +kernel
theorem dX7_distance_24 : decode cX7_distance 24 = .ok (.goto 4, 3) := by decide +kernel
theorem dX7_distance_27 : decode cX7_distance 27 = .ok (.iconst (-1), 1) := by decide +kernel
theorem dX7_distance_28 : decode cX7_distance 28 = .ok (.ireturn, 1) := by decide +kernel
theorem dX7_edgeAt_0 : decode cX7_edgeAt 0 = .ok (.aload_n 0, 1) := by decide +kernel
theorem dX7_edgeAt_1 : decode cX7_edgeAt 1 = .ok (.iload_n 1, 1) := by decide +kernel
theorem dX7_edgeAt_2 : decode cX7_edgeAt 2 = .ok (.invokevirtual 80, 3) := by decide +kernel
theorem dX7_edgeAt_5 : decode cX7_edgeAt 5 = .ok (.ifCond .ne 5, 3) := by decide +kernel
theorem dX7_edgeAt_8 : decode cX7_edgeAt 8 = .ok (.iconst (-1), 1) := by decide +kernel
theorem dX7_edgeAt_9 : decode cX7_edgeAt 9 = .ok (.ireturn, 1) := by decide +kernel
theorem dX7_edgeAt_10 : decode cX7_edgeAt 10 = .ok (.bipush 100, 2) := by decide +kernel
theorem dX7_edgeAt_12 : decode cX7_edgeAt 12 = .ok (.aload_n 0, 1) := by decide +kernel
theorem dX7_edgeAt_13 : decode cX7_edgeAt 13 = .ok (.getfield 15, 3) := by decide +kernel
theorem dX7_edgeAt_16 : decode cX7_edgeAt 16 = .ok (.iload_n 1, 1) := by decide +kernel
theorem dX7_edgeAt_17 : decode cX7_edgeAt 17 = .ok (.iaload, 1) := by decide +kernel
theorem dX7_edgeAt_18 : decode cX7_edgeAt 18 = .ok (.aload_n 0, 1) := by decide +kernel
theorem dX7_edgeAt_19 : decode cX7_edgeAt 19 = .ok (.getfield 18, 3) := by decide +kernel
theorem dX7_edgeAt_22 : decode cX7_edgeAt 22 = .ok (.iload_n 1, 1) := by decide +kernel
theorem dX7_edgeAt_23 : decode cX7_edgeAt 23 = .ok (.iaload, 1) := by decide +kernel
theorem dX7_edgeAt_24 : decode cX7_edgeAt 24 = .ok (.invokestatic 83, 3) := by decide +kernel
theorem dX7_edgeAt_27 : decode cX7_edgeAt 27 = .ok (.imul, 1) := by decide +kernel
theorem dX7_edgeAt_28 : decode cX7_edgeAt 28 = .ok (.aload_n 0, 1) := by decide +kernel
theorem dX7_edgeAt_29 : decode cX7_edgeAt 29 = .ok (.getfield 15, 3) := by decide +kernel
theorem dX7_edgeAt_32 : decode cX7_edgeAt 32 = .ok (.iload_n 1, 1) := by decide +kernel
theorem dX7_edgeAt_33 : decode cX7_edgeAt 33 = .ok (.iaload, 1) := by decide +kernel
theorem dX7_edgeAt_34 : decode cX7_edgeAt 34 = .ok (.aload_n 0, 1) := by decide +kernel
theorem dX7_edgeAt_35 : decode cX7_edgeAt 35 = .ok (.getfield 18, 3) := by decide +kernel
theorem dX7_edgeAt_38 : decode cX7_edgeAt 38 = .ok (.iload_n 1, 1) := by decide +kernel
theorem dX7_edgeAt_39 : decode cX7_edgeAt 39 = .ok (.iaload, 1) := by decide +kernel
theorem dX7_edgeAt_40 : decode cX7_edgeAt 40 = .ok (.invokestatic 88, 3) := by decide +kernel
theorem dX7_edgeAt_43 : decode cX7_edgeAt 43 = .ok (.iadd, 1) := by decide +kernel
theorem dX7_edgeAt_44 : decode cX7_edgeAt 44 = .ok (.ireturn, 1) := by decide +kernel
theorem dX7_edgesAt_0 : decode cX7_edgesAt 0 = .ok (.iconst 0, 1) := by decide +kernel
theorem dX7_edgesAt_1 : decode cX7_edgesAt 1 = .ok (.istore_n 2, 1) := by decide +kernel
theorem dX7_edgesAt_2 : decode cX7_edgesAt 2 = .ok (.iconst 0, 1) := by decide +kernel
theorem dX7_edgesAt_3 : decode cX7_edgesAt 3 = .ok (.istore_n 3, 1) := by decide +kernel
theorem dX7_edgesAt_4 : decode cX7_edgesAt 4 = .ok (.iload_n 3, 1) := by decide +kernel
theorem dX7_edgesAt_5 : decode cX7_edgesAt 5 = .ok (.aload_n 0, 1) := by decide +kernel
theorem dX7_edgesAt_6 : decode cX7_edgesAt 6 = .ok (.getfield 40, 3) := by decide +kernel
theorem dX7_edgesAt_9 : decode cX7_edgesAt 9 = .ok (.if_icmp .ge 21, 3) := by decide +kernel
theorem dX7_edgesAt_12 : decode cX7_edgesAt 12 = .ok (.aload_n 0, 1) := by decide +kernel
theorem dX7_edgesAt_13 : decode cX7_edgesAt 13 = .ok (.iload_n 1, 1) := by decide +kernel
theorem dX7_edgesAt_14 : decode cX7_edgesAt 14 = .ok (.iload_n 3, 1) := by decide +kernel
theorem dX7_edgesAt_15 : decode cX7_edgesAt 15 = .ok (.invokevirtual 91, 3) := by decide +kernel
theorem dX7_edgesAt_18 : decode cX7_edgesAt 18 = .ok (.ifCond .eq 6, 3) := by decide +kernel
theorem dX7_edgesAt_21 : decode cX7_edgesAt 21 = .ok (.iinc 2 1, 3) := by decide +kernel
theorem dX7_edgesAt_24 : decode cX7_edgesAt 24 = .ok (.iinc 3 1, 3) := by decide +kernel
theorem dX7_edgesAt_27 : decode cX7_edgesAt 27 = .ok (.goto (-23), 3) := by decide +kernel
theorem dX7_edgesAt_30 : decode cX7_edgesAt 30 = .ok (.iload_n 2, 1) := by decide +kernel
theorem dX7_edgesAt_31 : decode cX7_edgesAt 31 = .ok (.ireturn, 1) := by decide +kernel
theorem dX7_greatestDistance_0 : decode cX7_greatestDistance 0 = .ok (.iconst 0, 1) := by decide +kernel
theorem dX7_greatestDistance_1 : decode cX7_greatestDistance 1 = .ok (.istore_n 1, 1) := by decide +kernel
theorem dX7_greatestDistance_2 : decode cX7_greatestDistance 2 = .ok (.iconst 0, 1) := by decide +kernel
theorem dX7_greatestDistance_3 : decode cX7_greatestDistance 3 = .ok (.istore_n 2, 1) := by decide +kernel
theorem dX7_greatestDistance_4 : decode cX7_greatestDistance 4 = .ok (.iload_n 2, 1) := by decide +kernel
theorem dX7_greatestDistance_5 : decode cX7_greatestDistance 5 = .ok (.aload_n 0, 1) := by decide +kernel
theorem dX7_greatestDistance_6 : decode cX7_greatestDistance 6 = .ok (.getfield 33, 3) := by decide +kernel
theorem dX7_greatestDistance_9 : decode cX7_greatestDistance 9 = .ok (.if_icmp .ge 33, 3) := by decide +kernel
theorem dX7_greatestDistance_12 : decode cX7_greatestDistance 12 = .ok (.iconst 0, 1) := by decide +kernel
theorem dX7_greatestDistance_13 : decode cX7_greatestDistance 13 = .ok (.istore_n 3, 1) := by decide +kernel
theorem dX7_greatestDistance_14 : decode cX7_greatestDistance 14 = .ok (.iload_n 3, 1) := by decide +kernel
theorem dX7_greatestDistance_15 : decode cX7_greatestDistance 15 = .ok (.iload_n 2, 1) := by decide +kernel
theorem dX7_greatestDistance_16 : decode cX7_greatestDistance 16 = .ok (.if_icmp .ge 20, 3) := by decide +kernel
theorem dX7_greatestDistance_19 : decode cX7_greatestDistance 19 = .ok (.iload_n 1, 1) := by decide +kernel
theorem dX7_greatestDistance_20 : decode cX7_greatestDistance 20 = .ok (.aload_n 0, 1) := by decide +kernel
theorem dX7_greatestDistance_21 : decode cX7_greatestDistance 21 = .ok (.iload_n 2, 1) := by decide +kernel
theorem dX7_greatestDistance_22 : decode cX7_greatestDistance 22 = .ok (.iload_n 3, 1) := by decide +kernel
theorem dX7_greatestDistance_23 : decode cX7_greatestDistance 23 = .ok (.invokevirtual 101, 3) := by decide +kernel
theorem dX7_greatestDistance_26 : decode cX7_greatestDistance 26 = .ok (.invokestatic 88, 3) := by decide +kernel
theorem dX7_greatestDistance_29 : decode cX7_greatestDistance 29 = .ok (.istore_n 1, 1) := by decide +kernel
theorem dX7_greatestDistance_30 : decode cX7_greatestDistance 30 = .ok (.iinc 3 1, 3) := by decide +kernel
theorem dX7_greatestDistance_33 : decode cX7_greatestDistance 33 = .ok (.goto (-19), 3) := by decide +kernel
theorem dX7_greatestDistance_36 : decode cX7_greatestDistance 36 = .ok (.iinc 2 1, 3) := by decide +kernel
theorem dX7_greatestDistance_39 : decode cX7_greatestDistance 39 = .ok (.goto (-35), 3) := by decide +kernel
theorem dX7_greatestDistance_42 : decode cX7_greatestDistance 42 = .ok (.iload_n 1, 1) := by decide +kernel
theorem dX7_greatestDistance_43 : decode cX7_greatestDistance 43 = .ok (.ireturn, 1) := by decide +kernel
theorem dX7_grow_0 : decode cX7_grow 0 = .ok (.aload_n 0, 1) := by decide +kernel
theorem dX7_grow_1 : decode cX7_grow 1 = .ok (.aload_n 1, 1) := by decide +kernel
theorem dX7_grow_2 : decode cX7_grow 2 = .ok (.invokevirtual 43, 3) := by decide +kernel
theorem dX7_grow_5 : decode cX7_grow 5 = .ok (.putfield 33, 3) := by decide +kernel
theorem dX7_grow_8 : decode cX7_grow 8 = .ok (.aload_n 0, 1) := by decide +kernel
theorem dX7_grow_9 : decode cX7_grow 9 = .ok (.aload_n 1, 1) := by decide +kernel
theorem dX7_grow_10 : decode cX7_grow 10 = .ok (.invokevirtual 49, 3) := by decide +kernel
theorem dX7_grow_13 : decode cX7_grow 13 = .ok (.iconst 1, 1) := by decide +kernel
theorem dX7_grow_14 : decode cX7_grow 14 = .ok (.if_icmp .le 12, 3) := by decide +kernel
theorem dX7_grow_17 : decode cX7_grow 17 = .ok (.aload_n 1, 1) := by decide +kernel
theorem dX7_grow_18 : decode cX7_grow 18 = .ok (.invokevirtual 49, 3) := by decide +kernel
theorem dX7_grow_21 : decode cX7_grow 21 = .ok (.iconst 1, 1) := by decide +kernel
theorem dX7_grow_22 : decode cX7_grow 22 = .ok (.isub, 1) := by decide +kernel
theorem dX7_grow_23 : decode cX7_grow 23 = .ok (.goto 4, 3) := by decide +kernel
theorem dX7_grow_26 : decode cX7_grow 26 = .ok (.iconst 0, 1) := by decide +kernel
theorem dX7_grow_27 : decode cX7_grow 27 = .ok (.putfield 37, 3) := by decide +kernel
theorem dX7_grow_30 : decode cX7_grow 30 = .ok (.aload_n 0, 1) := by decide +kernel
theorem dX7_grow_31 : decode cX7_grow 31 = .ok (.iconst 0, 1) := by decide +kernel
theorem dX7_grow_32 : decode cX7_grow 32 = .ok (.putfield 40, 3) := by decide +kernel
theorem dX7_grow_35 : decode cX7_grow 35 = .ok (.aload_n 0, 1) := by decide +kernel
theorem dX7_grow_36 : decode cX7_grow 36 = .ok (.getfield 25, 3) := by decide +kernel
theorem dX7_grow_39 : decode cX7_grow 39 = .ok (.iconst 1, 1) := by decide +kernel
theorem dX7_grow_40 : decode cX7_grow 40 = .ok (.invokestatic 52, 3) := by decide +kernel
theorem dX7_grow_43 : decode cX7_grow 43 = .ok (.iconst 0, 1) := by decide +kernel
theorem dX7_grow_44 : decode cX7_grow 44 = .ok (.istore_n 2, 1) := by decide +kernel
theorem dX7_grow_45 : decode cX7_grow 45 = .ok (.iload_n 2, 1) := by decide +kernel
theorem dX7_grow_46 : decode cX7_grow 46 = .ok (.aload_n 0, 1) := by decide +kernel
theorem dX7_grow_47 : decode cX7_grow 47 = .ok (.getfield 37, 3) := by decide +kernel
theorem dX7_grow_50 : decode cX7_grow 50 = .ok (.if_icmp .ge 61, 3) := by decide +kernel
theorem dX7_grow_53 : decode cX7_grow 53 = .ok (.iload_n 2, 1) := by decide +kernel
theorem dX7_grow_54 : decode cX7_grow 54 = .ok (.bipush 11, 2) := by decide +kernel
theorem dX7_grow_56 : decode cX7_grow 56 = .ok (.if_icmp .ge 55, 3) := by decide +kernel
theorem dX7_grow_59 : decode cX7_grow 59 = .ok (.aload_n 1, 1) := by decide +kernel
theorem dX7_grow_60 : decode cX7_grow 60 = .ok (.iload_n 2, 1) := by decide +kernel
theorem dX7_grow_61 : decode cX7_grow 61 = .ok (.iconst 1, 1) := by decide +kernel
theorem dX7_grow_62 : decode cX7_grow 62 = .ok (.iadd, 1) := by decide +kernel
theorem dX7_grow_63 : decode cX7_grow 63 = .ok (.invokevirtual 58, 3) := by decide +kernel
theorem dX7_grow_66 : decode cX7_grow 66 = .ok (.aload_n 1, 1) := by decide +kernel
theorem dX7_grow_67 : decode cX7_grow 67 = .ok (.iload_n 2, 1) := by decide +kernel
theorem dX7_grow_68 : decode cX7_grow 68 = .ok (.invokevirtual 58, 3) := by decide +kernel
theorem dX7_grow_71 : decode cX7_grow 71 = .ok (.isub, 1) := by decide +kernel
theorem dX7_grow_72 : decode cX7_grow 72 = .ok (.aload_n 0, 1) := by decide +kernel
theorem dX7_grow_73 : decode cX7_grow 73 = .ok (.getfield 33, 3) := by decide +kernel
theorem dX7_grow_76 : decode cX7_grow 76 = .ok (.invokestatic 62, 3) := by decide +kernel
theorem dX7_grow_79 : decode cX7_grow 79 = .ok (.istore_n 3, 1) := by decide +kernel
theorem dX7_grow_80 : decode cX7_grow 80 = .ok (.aload_n 0, 1) := by decide +kernel
theorem dX7_grow_81 : decode cX7_grow 81 = .ok (.getfield 9, 3) := by decide +kernel
theorem dX7_grow_84 : decode cX7_grow 84 = .ok (.iload_n 2, 1) := by decide +kernel
theorem dX7_grow_85 : decode cX7_grow 85 = .ok (.iload_n 3, 1) := by decide +kernel
theorem dX7_grow_86 : decode cX7_grow 86 = .ok (.iastore, 1) := by decide +kernel
theorem dX7_grow_87 : decode cX7_grow 87 = .ok (.aload_n 0, 1) := by decide +kernel
theorem dX7_grow_88 : decode cX7_grow 88 = .ok (.iload_n 3, 1) := by decide +kernel
theorem dX7_grow_89 : decode cX7_grow 89 = .ok (.invokevirtual 66, 3) := by decide +kernel
theorem dX7_grow_92 : decode cX7_grow 92 = .ok (.ifCond .eq 13, 3) := by decide +kernel
theorem dX7_grow_95 : decode cX7_grow 95 = .ok (.aload_n 0, 1) := by decide +kernel
theorem dX7_grow_96 : decode cX7_grow 96 = .ok (.getfield 25, 3) := by decide +kernel
theorem dX7_grow_99 : decode cX7_grow 99 = .ok (.iload_n 3, 1) := by decide +kernel
theorem dX7_grow_100 : decode cX7_grow 100 = .ok (.dup2, 1) := by decide +kernel
theorem dX7_grow_101 : decode cX7_grow 101 = .ok (.iaload, 1) := by decide +kernel
theorem dX7_grow_102 : decode cX7_grow 102 = .ok (.iconst 1, 1) := by decide +kernel
theorem dX7_grow_103 : decode cX7_grow 103 = .ok (.iadd, 1) := by decide +kernel
theorem dX7_grow_104 : decode cX7_grow 104 = .ok (.iastore, 1) := by decide +kernel
theorem dX7_grow_105 : decode cX7_grow 105 = .ok (.iinc 2 1, 3) := by decide +kernel
theorem dX7_grow_108 : decode cX7_grow 108 = .ok (.goto (-63), 3) := by decide +kernel
theorem dX7_grow_111 : decode cX7_grow 111 = .ok (.iconst 0, 1) := by decide +kernel
theorem dX7_grow_112 : decode cX7_grow 112 = .ok (.istore_n 2, 1) := by decide +kernel
theorem dX7_grow_113 : decode cX7_grow 113 = .ok (.iload_n 2, 1) := by decide +kernel
theorem dX7_grow_114 : decode cX7_grow 114 = .ok (.aload_n 0, 1) := by decide +kernel
theorem dX7_grow_115 : decode cX7_grow 115 = .ok (.getfield 37, 3) := by decide +kernel
theorem dX7_grow_118 : decode cX7_grow 118 = .ok (.if_icmp .ge 23, 3) := by decide +kernel
theorem dX7_grow_121 : decode cX7_grow 121 = .ok (.aload_n 0, 1) := by decide +kernel
theorem dX7_grow_122 : decode cX7_grow 122 = .ok (.aload_n 0, 1) := by decide +kernel
theorem dX7_grow_123 : decode cX7_grow 123 = .ok (.iconst (-1), 1) := by decide +kernel
theorem dX7_grow_124 : decode cX7_grow 124 = .ok (.invokevirtual 70, 3) := by decide +kernel
theorem dX7_grow_127 : decode cX7_grow 127 = .ok (.aload_n 0, 1) := by decide +kernel
theorem dX7_grow_128 : decode cX7_grow 128 = .ok (.iload_n 2, 1) := by decide +kernel
theorem dX7_grow_129 : decode cX7_grow 129 = .ok (.invokevirtual 73, 3) := by decide +kernel
theorem dX7_grow_132 : decode cX7_grow 132 = .ok (.invokevirtual 76, 3) := by decide +kernel
theorem dX7_grow_135 : decode cX7_grow 135 = .ok (.iinc 2 1, 3) := by decide +kernel
theorem dX7_grow_138 : decode cX7_grow 138 = .ok (.goto (-25), 3) := by decide +kernel
theorem dX7_grow_141 : decode cX7_grow 141 = .ok (.aload_n 0, 1) := by decide +kernel
theorem dX7_grow_142 : decode cX7_grow 142 = .ok (.iconst (-1), 1) := by decide +kernel
theorem dX7_grow_143 : decode cX7_grow 143 = .ok (.invokevirtual 70, 3) := by decide +kernel
theorem dX7_grow_146 : decode cX7_grow 146 = .ok (.istore_n 2, 1) := by decide +kernel
theorem dX7_grow_147 : decode cX7_grow 147 = .ok (.aload_n 0, 1) := by decide +kernel
theorem dX7_grow_148 : decode cX7_grow 148 = .ok (.iload_n 2, 1) := by decide +kernel
theorem dX7_grow_149 : decode cX7_grow 149 = .ok (.aload_n 0, 1) := by decide +kernel
theorem dX7_grow_150 : decode cX7_grow 150 = .ok (.iload_n 2, 1) := by decide +kernel
theorem dX7_grow_151 : decode cX7_grow 151 = .ok (.invokevirtual 70, 3) := by decide +kernel
theorem dX7_grow_154 : decode cX7_grow 154 = .ok (.invokevirtual 76, 3) := by decide +kernel
theorem dX7_grow_157 : decode cX7_grow 157 = .ok (.return_, 1) := by decide +kernel
theorem dX7_isAtEdge_0 : decode cX7_isAtEdge 0 = .ok (.aload_n 0, 1) := by decide +kernel
theorem dX7_isAtEdge_1 : decode cX7_isAtEdge 1 = .ok (.iload_n 2, 1) := by decide +kernel
theorem dX7_isAtEdge_2 : decode cX7_isAtEdge 2 = .ok (.invokevirtual 80, 3) := by decide +kernel
theorem dX7_isAtEdge_5 : decode cX7_isAtEdge 5 = .ok (.ifCond .eq 27, 3) := by decide +kernel
theorem dX7_isAtEdge_8 : decode cX7_isAtEdge 8 = .ok (.aload_n 0, 1) := by decide +kernel
theorem dX7_isAtEdge_9 : decode cX7_isAtEdge 9 = .ok (.getfield 15, 3) := by decide +kernel
theorem dX7_isAtEdge_12 : decode cX7_isAtEdge 12 = .ok (.iload_n 2, 1) := by decide +kernel
theorem dX7_isAtEdge_13 : decode cX7_isAtEdge 13 = .ok (.iaload, 1) := by decide +kernel
theorem dX7_isAtEdge_14 : decode cX7_isAtEdge 14 = .ok (.iload_n 1, 1) := by decide +kernel
theorem dX7_isAtEdge_15 : decode cX7_isAtEdge 15 = .ok (.if_icmp .eq 13, 3) := by decide +kernel
theorem dX7_isAtEdge_18 : decode cX7_isAtEdge 18 = .ok (.aload_n 0, 1) := by decide +kernel
theorem dX7_isAtEdge_19 : decode cX7_isAtEdge 19 = .ok (.getfield 18, 3) := by decide +kernel
theorem dX7_isAtEdge_22 : decode cX7_isAtEdge 22 = .ok (.iload_n 2, 1) := by decide +kernel
theorem dX7_isAtEdge_23 : decode cX7_isAtEdge 23 = .ok (.iaload, 1) := by decide +kernel
theorem dX7_isAtEdge_24 : decode cX7_isAtEdge 24 = .ok (.iload_n 1, 1) := by decide +kernel
theorem dX7_isAtEdge_25 : decode cX7_isAtEdge 25 = .ok (.if_icmp .ne 7, 3) := by decide +kernel
theorem dX7_isAtEdge_28 : decode cX7_isAtEdge 28 = .ok (.iconst 1, 1) := by decide +kernel
theorem dX7_isAtEdge_29 : decode cX7_isAtEdge 29 = .ok (.goto 4, 3) := by decide +kernel
theorem dX7_isAtEdge_32 : decode cX7_isAtEdge 32 = .ok (.iconst 0, 1) := by decide +kernel
theorem dX7_isAtEdge_33 : decode cX7_isAtEdge 33 = .ok (.ireturn, 1) := by decide +kernel
theorem dX7_isEdge_0 : decode cX7_isEdge 0 = .ok (.iload_n 1, 1) := by decide +kernel
theorem dX7_isEdge_1 : decode cX7_isEdge 1 = .ok (.ifCond .lt 21, 3) := by decide +kernel
theorem dX7_isEdge_4 : decode cX7_isEdge 4 = .ok (.iload_n 1, 1) := by decide +kernel
theorem dX7_isEdge_5 : decode cX7_isEdge 5 = .ok (.aload_n 0, 1) := by decide +kernel
theorem dX7_isEdge_6 : decode cX7_isEdge 6 = .ok (.getfield 40, 3) := by decide +kernel
theorem dX7_isEdge_9 : decode cX7_isEdge 9 = .ok (.if_icmp .ge 13, 3) := by decide +kernel
theorem dX7_isEdge_12 : decode cX7_isEdge 12 = .ok (.iload_n 1, 1) := by decide +kernel
theorem dX7_isEdge_13 : decode cX7_isEdge 13 = .ok (.bipush 11, 2) := by decide +kernel
theorem dX7_isEdge_15 : decode cX7_isEdge 15 = .ok (.if_icmp .ge 7, 3) := by decide +kernel
theorem dX7_isEdge_18 : decode cX7_isEdge 18 = .ok (.iconst 1, 1) := by decide +kernel
theorem dX7_isEdge_19 : decode cX7_isEdge 19 = .ok (.goto 4, 3) := by decide +kernel
theorem dX7_isEdge_22 : decode cX7_isEdge 22 = .ok (.iconst 0, 1) := by decide +kernel
theorem dX7_isEdge_23 : decode cX7_isEdge 23 = .ok (.ireturn, 1) := by decide +kernel
theorem dX7_isNode_0 : decode cX7_isNode 0 = .ok (.iload_n 1, 1) := by decide +kernel
theorem dX7_isNode_1 : decode cX7_isNode 1 = .ok (.ifCond .lt 21, 3) := by decide +kernel
theorem dX7_isNode_4 : decode cX7_isNode 4 = .ok (.iload_n 1, 1) := by decide +kernel
theorem dX7_isNode_5 : decode cX7_isNode 5 = .ok (.aload_n 0, 1) := by decide +kernel
theorem dX7_isNode_6 : decode cX7_isNode 6 = .ok (.getfield 33, 3) := by decide +kernel
theorem dX7_isNode_9 : decode cX7_isNode 9 = .ok (.if_icmp .ge 13, 3) := by decide +kernel
theorem dX7_isNode_12 : decode cX7_isNode 12 = .ok (.iload_n 1, 1) := by decide +kernel
theorem dX7_isNode_13 : decode cX7_isNode 13 = .ok (.bipush 12, 2) := by decide +kernel
theorem dX7_isNode_15 : decode cX7_isNode 15 = .ok (.if_icmp .ge 7, 3) := by decide +kernel
theorem dX7_isNode_18 : decode cX7_isNode 18 = .ok (.iconst 1, 1) := by decide +kernel
theorem dX7_isNode_19 : decode cX7_isNode 19 = .ok (.goto 4, 3) := by decide +kernel
theorem dX7_isNode_22 : decode cX7_isNode 22 = .ok (.iconst 0, 1) := by decide +kernel
theorem dX7_isNode_23 : decode cX7_isNode 23 = .ok (.ireturn, 1) := by decide +kernel
theorem dX7_join_0 : decode cX7_join 0 = .ok (.aload_n 0, 1) := by decide +kernel
theorem dX7_join_1 : decode cX7_join 1 = .ok (.iload_n 1, 1) := by decide +kernel
theorem dX7_join_2 : decode cX7_join 2 = .ok (.invokevirtual 66, 3) := by decide +kernel
theorem dX7_join_5 : decode cX7_join 5 = .ok (.ifCond .eq 67, 3) := by decide +kernel
theorem dX7_join_8 : decode cX7_join 8 = .ok (.aload_n 0, 1) := by decide +kernel
theorem dX7_join_9 : decode cX7_join 9 = .ok (.iload_n 2, 1) := by decide +kernel
theorem dX7_join_10 : decode cX7_join 10 = .ok (.invokevirtual 66, 3) := by decide +kernel
theorem dX7_join_13 : decode cX7_join 13 = .ok (.ifCond .eq 59, 3) := by decide +kernel
theorem dX7_join_16 : decode cX7_join 16 = .ok (.aload_n 0, 1) := by decide +kernel
theorem dX7_join_17 : decode cX7_join 17 = .ok (.getfield 40, 3) := by decide +kernel
theorem dX7_join_20 : decode cX7_join 20 = .ok (.bipush 11, 2) := by decide +kernel
theorem dX7_join_22 : decode cX7_join 22 = .ok (.if_icmp .ge 50, 3) := by decide +kernel
theorem dX7_join_25 : decode cX7_join 25 = .ok (.aload_n 0, 1) := by decide +kernel
theorem dX7_join_26 : decode cX7_join 26 = .ok (.getfield 15, 3) := by decide +kernel
theorem dX7_join_29 : decode cX7_join 29 = .ok (.aload_n 0, 1) := by decide +kernel
theorem dX7_join_30 : decode cX7_join 30 = .ok (.getfield 40, 3) := by decide +kernel
theorem dX7_join_33 : decode cX7_join 33 = .ok (.iload_n 1, 1) := by decide +kernel
theorem dX7_join_34 : decode cX7_join 34 = .ok (.iastore, 1) := by decide +kernel
theorem dX7_join_35 : decode cX7_join 35 = .ok (.aload_n 0, 1) := by decide +kernel
theorem dX7_join_36 : decode cX7_join 36 = .ok (.getfield 18, 3) := by decide +kernel
theorem dX7_join_39 : decode cX7_join 39 = .ok (.aload_n 0, 1) := by decide +kernel
theorem dX7_join_40 : decode cX7_join 40 = .ok (.getfield 40, 3) := by decide +kernel
theorem dX7_join_43 : decode cX7_join 43 = .ok (.iload_n 2, 1) := by decide +kernel
theorem dX7_join_44 : decode cX7_join 44 = .ok (.iastore, 1) := by decide +kernel
theorem dX7_join_45 : decode cX7_join 45 = .ok (.aload_n 0, 1) := by decide +kernel
theorem dX7_join_46 : decode cX7_join 46 = .ok (.dup, 1) := by decide +kernel
theorem dX7_join_47 : decode cX7_join 47 = .ok (.getfield 40, 3) := by decide +kernel
theorem dX7_join_50 : decode cX7_join 50 = .ok (.iconst 1, 1) := by decide +kernel
theorem dX7_join_51 : decode cX7_join 51 = .ok (.iadd, 1) := by decide +kernel
theorem dX7_join_52 : decode cX7_join 52 = .ok (.putfield 40, 3) := by decide +kernel
theorem dX7_join_55 : decode cX7_join 55 = .ok (.aload_n 0, 1) := by decide +kernel
theorem dX7_join_56 : decode cX7_join 56 = .ok (.getfield 25, 3) := by decide +kernel
theorem dX7_join_59 : decode cX7_join 59 = .ok (.iload_n 1, 1) := by decide +kernel
theorem dX7_join_60 : decode cX7_join 60 = .ok (.iconst 0, 1) := by decide +kernel
theorem dX7_join_61 : decode cX7_join 61 = .ok (.iastore, 1) := by decide +kernel
theorem dX7_join_62 : decode cX7_join 62 = .ok (.aload_n 0, 1) := by decide +kernel
theorem dX7_join_63 : decode cX7_join 63 = .ok (.getfield 25, 3) := by decide +kernel
theorem dX7_join_66 : decode cX7_join 66 = .ok (.iload_n 2, 1) := by decide +kernel
theorem dX7_join_67 : decode cX7_join 67 = .ok (.dup2, 1) := by decide +kernel
theorem dX7_join_68 : decode cX7_join 68 = .ok (.iaload, 1) := by decide +kernel
theorem dX7_join_69 : decode cX7_join 69 = .ok (.iconst 1, 1) := by decide +kernel
theorem dX7_join_70 : decode cX7_join 70 = .ok (.isub, 1) := by decide +kernel
theorem dX7_join_71 : decode cX7_join 71 = .ok (.iastore, 1) := by decide +kernel
theorem dX7_join_72 : decode cX7_join 72 = .ok (.return_, 1) := by decide +kernel
theorem dX7_leastOfWeightOne_0 : decode cX7_leastOfWeightOne 0 = .ok (.iconst 0, 1) := by decide +kernel
theorem dX7_leastOfWeightOne_1 : decode cX7_leastOfWeightOne 1 = .ok (.istore_n 2, 1) := by decide +kernel
theorem dX7_leastOfWeightOne_2 : decode cX7_leastOfWeightOne 2 = .ok (.iload_n 2, 1) := by decide +kernel
theorem dX7_leastOfWeightOne_3 : decode cX7_leastOfWeightOne 3 = .ok (.aload_n 0, 1) := by decide +kernel
theorem dX7_leastOfWeightOne_4 : decode cX7_leastOfWeightOne 4 = .ok (.getfield 33, 3) := by decide +kernel
theorem dX7_leastOfWeightOne_7 : decode cX7_leastOfWeightOne 7 = .ok (.if_icmp .ge 32, 3) := by decide +kernel
theorem dX7_leastOfWeightOne_10 : decode cX7_leastOfWeightOne 10 = .ok (.iload_n 2, 1) := by decide +kernel
theorem dX7_leastOfWeightOne_11 : decode cX7_leastOfWeightOne 11 = .ok (.bipush 12, 2) := by decide +kernel
theorem dX7_leastOfWeightOne_13 : decode cX7_leastOfWeightOne 13 = .ok (.if_icmp .ge 26, 3) := by decide +kernel
theorem dX7_leastOfWeightOne_16 : decode cX7_leastOfWeightOne 16 = .ok (.aload_n 0, 1) := by decide +kernel
theorem dX7_leastOfWeightOne_17 : decode cX7_leastOfWeightOne 17 = .ok (.getfield 25, 3) := by decide +kernel
theorem dX7_leastOfWeightOne_20 : decode cX7_leastOfWeightOne 20 = .ok (.iload_n 2, 1) := by decide +kernel
theorem dX7_leastOfWeightOne_21 : decode cX7_leastOfWeightOne 21 = .ok (.iaload, 1) := by decide +kernel
theorem dX7_leastOfWeightOne_22 : decode cX7_leastOfWeightOne 22 = .ok (.iconst 1, 1) := by decide +kernel
theorem dX7_leastOfWeightOne_23 : decode cX7_leastOfWeightOne 23 = .ok (.if_icmp .ne 10, 3) := by decide +kernel
theorem dX7_leastOfWeightOne_26 : decode cX7_leastOfWeightOne 26 = .ok (.iload_n 2, 1) := by decide +kernel
theorem dX7_leastOfWeightOne_27 : decode cX7_leastOfWeightOne 27 = .ok (.iload_n 1, 1) := by decide +kernel
theorem dX7_leastOfWeightOne_28 : decode cX7_leastOfWeightOne 28 = .ok (.if_icmp .eq 5, 3) := by decide +kernel
theorem dX7_leastOfWeightOne_31 : decode cX7_leastOfWeightOne 31 = .ok (.iload_n 2, 1) := by decide +kernel
theorem dX7_leastOfWeightOne_32 : decode cX7_leastOfWeightOne 32 = .ok (.ireturn, 1) := by decide +kernel
theorem dX7_leastOfWeightOne_33 : decode cX7_leastOfWeightOne 33 = .ok (.iinc 2 1, 3) := by decide +kernel
theorem dX7_leastOfWeightOne_36 : decode cX7_leastOfWeightOne 36 = .ok (.goto (-34), 3) := by decide +kernel
theorem dX7_leastOfWeightOne_39 : decode cX7_leastOfWeightOne 39 = .ok (.iconst (-1), 1) := by decide +kernel
theorem dX7_leastOfWeightOne_40 : decode cX7_leastOfWeightOne 40 = .ok (.ireturn, 1) := by decide +kernel
theorem dX7_lighten_0 : decode cX7_lighten 0 = .ok (.aload_n 0, 1) := by decide +kernel
theorem dX7_lighten_1 : decode cX7_lighten 1 = .ok (.iload_n 1, 1) := by decide +kernel
theorem dX7_lighten_2 : decode cX7_lighten 2 = .ok (.invokevirtual 66, 3) := by decide +kernel
theorem dX7_lighten_5 : decode cX7_lighten 5 = .ok (.ifCond .eq 13, 3) := by decide +kernel
theorem dX7_lighten_8 : decode cX7_lighten 8 = .ok (.aload_n 0, 1) := by decide +kernel
theorem dX7_lighten_9 : decode cX7_lighten 9 = .ok (.getfield 25, 3) := by decide +kernel
theorem dX7_lighten_12 : decode cX7_lighten 12 = .ok (.iload_n 1, 1) := by decide +kernel
theorem dX7_lighten_13 : decode cX7_lighten 13 = .ok (.dup2, 1) := by decide +kernel
theorem dX7_lighten_14 : decode cX7_lighten 14 = .ok (.iaload, 1) := by decide +kernel
theorem dX7_lighten_15 : decode cX7_lighten 15 = .ok (.iconst 1, 1) := by decide +kernel
theorem dX7_lighten_16 : decode cX7_lighten 16 = .ok (.isub, 1) := by decide +kernel
theorem dX7_lighten_17 : decode cX7_lighten 17 = .ok (.iastore, 1) := by decide +kernel
theorem dX7_lighten_18 : decode cX7_lighten 18 = .ok (.return_, 1) := by decide +kernel
theorem dX7_measure_0 : decode cX7_measure 0 = .ok (.iconst 0, 1) := by decide +kernel
theorem dX7_measure_1 : decode cX7_measure 1 = .ok (.istore_n 1, 1) := by decide +kernel
theorem dX7_measure_2 : decode cX7_measure 2 = .ok (.iload_n 1, 1) := by decide +kernel
theorem dX7_measure_3 : decode cX7_measure 3 = .ok (.aload_n 0, 1) := by decide +kernel
theorem dX7_measure_4 : decode cX7_measure 4 = .ok (.getfield 33, 3) := by decide +kernel
theorem dX7_measure_7 : decode cX7_measure 7 = .ok (.if_icmp .ge 34, 3) := by decide +kernel
theorem dX7_measure_10 : decode cX7_measure 10 = .ok (.iload_n 1, 1) := by decide +kernel
theorem dX7_measure_11 : decode cX7_measure 11 = .ok (.bipush 12, 2) := by decide +kernel
theorem dX7_measure_13 : decode cX7_measure 13 = .ok (.if_icmp .ge 28, 3) := by decide +kernel
theorem dX7_measure_16 : decode cX7_measure 16 = .ok (.aload_n 0, 1) := by decide +kernel
theorem dX7_measure_17 : decode cX7_measure 17 = .ok (.getfield 30, 3) := by decide +kernel
theorem dX7_measure_20 : decode cX7_measure 20 = .ok (.iload_n 1, 1) := by decide +kernel
theorem dX7_measure_21 : decode cX7_measure 21 = .ok (.aaload, 1) := by decide +kernel
theorem dX7_measure_22 : decode cX7_measure 22 = .ok (.iconst (-1), 1) := by decide +kernel
theorem dX7_measure_23 : decode cX7_measure 23 = .ok (.invokestatic 52, 3) := by decide +kernel
theorem dX7_measure_26 : decode cX7_measure 26 = .ok (.aload_n 0, 1) := by decide +kernel
theorem dX7_measure_27 : decode cX7_measure 27 = .ok (.getfield 30, 3) := by decide +kernel
theorem dX7_measure_30 : decode cX7_measure 30 = .ok (.iload_n 1, 1) := by decide +kernel
theorem dX7_measure_31 : decode cX7_measure 31 = .ok (.aaload, 1) := by decide +kernel
theorem dX7_measure_32 : decode cX7_measure 32 = .ok (.iload_n 1, 1) := by decide +kernel
theorem dX7_measure_33 : decode cX7_measure 33 = .ok (.iconst 0, 1) := by decide +kernel
theorem dX7_measure_34 : decode cX7_measure 34 = .ok (.iastore, 1) := by decide +kernel
theorem dX7_measure_35 : decode cX7_measure 35 = .ok (.iinc 1 1, 3) := by decide +kernel
theorem dX7_measure_38 : decode cX7_measure 38 = .ok (.goto (-36), 3) := by decide +kernel
theorem dX7_measure_41 : decode cX7_measure 41 = .ok (.aload_n 0, 1) := by decide +kernel
theorem dX7_measure_42 : decode cX7_measure 42 = .ok (.getfield 40, 3) := by decide +kernel
theorem dX7_measure_45 : decode cX7_measure 45 = .ok (.iconst 1, 1) := by decide +kernel
theorem dX7_measure_46 : decode cX7_measure 46 = .ok (.isub, 1) := by decide +kernel
theorem dX7_measure_47 : decode cX7_measure 47 = .ok (.istore_n 1, 1) := by decide +kernel
theorem dX7_measure_48 : decode cX7_measure 48 = .ok (.iload_n 1, 1) := by decide +kernel
theorem dX7_measure_49 : decode cX7_measure 49 = .ok (.ifCond .lt 33, 3) := by decide +kernel
theorem dX7_measure_52 : decode cX7_measure 52 = .ok (.aload_n 0, 1) := by decide +kernel
theorem dX7_measure_53 : decode cX7_measure 53 = .ok (.iload_n 1, 1) := by decide +kernel
theorem dX7_measure_54 : decode cX7_measure 54 = .ok (.invokevirtual 80, 3) := by decide +kernel
theorem dX7_measure_57 : decode cX7_measure 57 = .ok (.ifCond .eq 19, 3) := by decide +kernel
theorem dX7_measure_60 : decode cX7_measure 60 = .ok (.aload_n 0, 1) := by decide +kernel
theorem dX7_measure_61 : decode cX7_measure 61 = .ok (.aload_n 0, 1) := by decide +kernel
theorem dX7_measure_62 : decode cX7_measure 62 = .ok (.getfield 15, 3) := by decide +kernel
theorem dX7_measure_65 : decode cX7_measure 65 = .ok (.iload_n 1, 1) := by decide +kernel
theorem dX7_measure_66 : decode cX7_measure 66 = .ok (.iaload, 1) := by decide +kernel
theorem dX7_measure_67 : decode cX7_measure 67 = .ok (.aload_n 0, 1) := by decide +kernel
theorem dX7_measure_68 : decode cX7_measure 68 = .ok (.getfield 18, 3) := by decide +kernel
theorem dX7_measure_71 : decode cX7_measure 71 = .ok (.iload_n 1, 1) := by decide +kernel
theorem dX7_measure_72 : decode cX7_measure 72 = .ok (.iaload, 1) := by decide +kernel
theorem dX7_measure_73 : decode cX7_measure 73 = .ok (.invokevirtual 98, 3) := by decide +kernel
theorem dX7_measure_76 : decode cX7_measure 76 = .ok (.iinc 1 (-1), 3) := by decide +kernel
theorem dX7_measure_79 : decode cX7_measure 79 = .ok (.goto (-31), 3) := by decide +kernel
theorem dX7_measure_82 : decode cX7_measure 82 = .ok (.return_, 1) := by decide +kernel
theorem dX7_measureFrom_0 : decode cX7_measureFrom 0 = .ok (.aload_n 0, 1) := by decide +kernel
theorem dX7_measureFrom_1 : decode cX7_measureFrom 1 = .ok (.iload_n 1, 1) := by decide +kernel
theorem dX7_measureFrom_2 : decode cX7_measureFrom 2 = .ok (.invokevirtual 66, 3) := by decide +kernel
theorem dX7_measureFrom_5 : decode cX7_measureFrom 5 = .ok (.ifCond .eq 11, 3) := by decide +kernel
theorem dX7_measureFrom_8 : decode cX7_measureFrom 8 = .ok (.aload_n 0, 1) := by decide +kernel
theorem dX7_measureFrom_9 : decode cX7_measureFrom 9 = .ok (.iload_n 2, 1) := by decide +kernel
theorem dX7_measureFrom_10 : decode cX7_measureFrom 10 = .ok (.invokevirtual 66, 3) := by decide +kernel
theorem dX7_measureFrom_13 : decode cX7_measureFrom 13 = .ok (.ifCond .ne 4, 3) := by decide +kernel
theorem dX7_measureFrom_16 : decode cX7_measureFrom 16 = .ok (.return_, 1) := by decide +kernel
theorem dX7_measureFrom_17 : decode cX7_measureFrom 17 = .ok (.iconst 0, 1) := by decide +kernel
theorem dX7_measureFrom_18 : decode cX7_measureFrom 18 = .ok (.istore_n 3, 1) := by decide +kernel
theorem dX7_measureFrom_19 : decode cX7_measureFrom 19 = .ok (.iload_n 3, 1) := by decide +kernel
theorem dX7_measureFrom_20 : decode cX7_measureFrom 20 = .ok (.aload_n 0, 1) := by decide +kernel
theorem dX7_measureFrom_21 : decode cX7_measureFrom 21 = .ok (.getfield 33, 3) := by decide +kernel
theorem dX7_measureFrom_24 : decode cX7_measureFrom 24 = .ok (.if_icmp .ge 60, 3) := by decide +kernel
theorem dX7_measureFrom_27 : decode cX7_measureFrom 27 = .ok (.iload_n 3, 1) := by decide +kernel
theorem dX7_measureFrom_28 : decode cX7_measureFrom 28 = .ok (.bipush 12, 2) := by decide +kernel
theorem dX7_measureFrom_30 : decode cX7_measureFrom 30 = .ok (.if_icmp .ge 54, 3) := by decide +kernel
theorem dX7_measureFrom_33 : decode cX7_measureFrom 33 = .ok (.aload_n 0, 1) := by decide +kernel
theorem dX7_measureFrom_34 : decode cX7_measureFrom 34 = .ok (.getfield 30, 3) := by decide +kernel
theorem dX7_measureFrom_37 : decode cX7_measureFrom 37 = .ok (.iload_n 2, 1) := by decide +kernel
theorem dX7_measureFrom_38 : decode cX7_measureFrom 38 = .ok (.aaload, 1) := by decide +kernel
theorem dX7_measureFrom_39 : decode cX7_measureFrom 39 = .ok (.iload_n 3, 1) := by decide +kernel
theorem dX7_measureFrom_40 : decode cX7_measureFrom 40 = .ok (.iaload, 1) := by decide +kernel
theorem dX7_measureFrom_41 : decode cX7_measureFrom 41 = .ok (.istore 4, 2) := by decide +kernel
theorem dX7_measureFrom_43 : decode cX7_measureFrom 43 = .ok (.iload_n 3, 1) := by decide +kernel
theorem dX7_measureFrom_44 : decode cX7_measureFrom 44 = .ok (.iload_n 1, 1) := by decide +kernel
theorem dX7_measureFrom_45 : decode cX7_measureFrom 45 = .ok (.if_icmp .eq 33, 3) := by decide +kernel
theorem dX7_measureFrom_48 : decode cX7_measureFrom 48 = .ok (.iload 4, 2) := by decide +kernel
theorem dX7_measureFrom_50 : decode cX7_measureFrom 50 = .ok (.iconst (-1), 1) := by decide +kernel
theorem dX7_measureFrom_51 : decode cX7_measureFrom 51 = .ok (.if_icmp .eq 27, 3) := by decide +kernel
theorem dX7_measureFrom_54 : decode cX7_measureFrom 54 = .ok (.aload_n 0, 1) := by decide +kernel
theorem dX7_measureFrom_55 : decode cX7_measureFrom 55 = .ok (.getfield 30, 3) := by decide +kernel
theorem dX7_measureFrom_58 : decode cX7_measureFrom 58 = .ok (.iload_n 1, 1) := by decide +kernel
theorem dX7_measureFrom_59 : decode cX7_measureFrom 59 = .ok (.aaload, 1) := by decide +kernel
theorem dX7_measureFrom_60 : decode cX7_measureFrom 60 = .ok (.iload_n 3, 1) := by decide +kernel
theorem dX7_measureFrom_61 : decode cX7_measureFrom 61 = .ok (.iload 4, 2) := by decide +kernel
theorem dX7_measureFrom_63 : decode cX7_measureFrom 63 = .ok (.iconst 1, 1) := by decide +kernel
theorem dX7_measureFrom_64 : decode cX7_measureFrom 64 = .ok (.iadd, 1) := by decide +kernel
theorem dX7_measureFrom_65 : decode cX7_measureFrom 65 = .ok (.iastore, 1) := by decide +kernel
theorem dX7_measureFrom_66 : decode cX7_measureFrom 66 = .ok (.aload_n 0, 1) := by decide +kernel
theorem dX7_measureFrom_67 : decode cX7_measureFrom 67 = .ok (.getfield 30, 3) := by decide +kernel
theorem dX7_measureFrom_70 : decode cX7_measureFrom 70 = .ok (.iload_n 3, 1) := by decide +kernel
theorem dX7_measureFrom_71 : decode cX7_measureFrom 71 = .ok (.aaload, 1) := by decide +kernel
theorem dX7_measureFrom_72 : decode cX7_measureFrom 72 = .ok (.iload_n 1, 1) := by decide +kernel
theorem dX7_measureFrom_73 : decode cX7_measureFrom 73 = .ok (.iload 4, 2) := by decide +kernel
theorem dX7_measureFrom_75 : decode cX7_measureFrom 75 = .ok (.iconst 1, 1) := by decide +kernel
theorem dX7_measureFrom_76 : decode cX7_measureFrom 76 = .ok (.iadd, 1) := by decide +kernel
theorem dX7_measureFrom_77 : decode cX7_measureFrom 77 = .ok (.iastore, 1) := by decide +kernel
theorem dX7_measureFrom_78 : decode cX7_measureFrom 78 = .ok (.iinc 3 1, 3) := by decide +kernel
theorem dX7_measureFrom_81 : decode cX7_measureFrom 81 = .ok (.goto (-62), 3) := by decide +kernel
theorem dX7_measureFrom_84 : decode cX7_measureFrom 84 = .ok (.return_, 1) := by decide +kernel
theorem dX7_nodesWithOneEdge_0 : decode cX7_nodesWithOneEdge 0 = .ok (.iconst 0, 1) := by decide +kernel
theorem dX7_nodesWithOneEdge_1 : decode cX7_nodesWithOneEdge 1 = .ok (.istore_n 1, 1) := by decide +kernel
theorem dX7_nodesWithOneEdge_2 : decode cX7_nodesWithOneEdge 2 = .ok (.iconst 0, 1) := by decide +kernel
theorem dX7_nodesWithOneEdge_3 : decode cX7_nodesWithOneEdge 3 = .ok (.istore_n 2, 1) := by decide +kernel
theorem dX7_nodesWithOneEdge_4 : decode cX7_nodesWithOneEdge 4 = .ok (.iload_n 2, 1) := by decide +kernel
theorem dX7_nodesWithOneEdge_5 : decode cX7_nodesWithOneEdge 5 = .ok (.aload_n 0, 1) := by decide +kernel
theorem dX7_nodesWithOneEdge_6 : decode cX7_nodesWithOneEdge 6 = .ok (.getfield 33, 3) := by decide +kernel
theorem dX7_nodesWithOneEdge_9 : decode cX7_nodesWithOneEdge 9 = .ok (.if_icmp .ge 21, 3) := by decide +kernel
theorem dX7_nodesWithOneEdge_12 : decode cX7_nodesWithOneEdge 12 = .ok (.aload_n 0, 1) := by decide +kernel
theorem dX7_nodesWithOneEdge_13 : decode cX7_nodesWithOneEdge 13 = .ok (.iload_n 2, 1) := by decide +kernel
theorem dX7_nodesWithOneEdge_14 : decode cX7_nodesWithOneEdge 14 = .ok (.invokevirtual 95, 3) := by decide +kernel
theorem dX7_nodesWithOneEdge_17 : decode cX7_nodesWithOneEdge 17 = .ok (.iconst 1, 1) := by decide +kernel
theorem dX7_nodesWithOneEdge_18 : decode cX7_nodesWithOneEdge 18 = .ok (.if_icmp .ne 6, 3) := by decide +kernel
theorem dX7_nodesWithOneEdge_21 : decode cX7_nodesWithOneEdge 21 = .ok (.iinc 1 1, 3) := by decide +kernel
theorem dX7_nodesWithOneEdge_24 : decode cX7_nodesWithOneEdge 24 = .ok (.iinc 2 1, 3) := by decide +kernel
theorem dX7_nodesWithOneEdge_27 : decode cX7_nodesWithOneEdge 27 = .ok (.goto (-23), 3) := by decide +kernel
theorem dX7_nodesWithOneEdge_30 : decode cX7_nodesWithOneEdge 30 = .ok (.iload_n 1, 1) := by decide +kernel
theorem dX7_nodesWithOneEdge_31 : decode cX7_nodesWithOneEdge 31 = .ok (.ireturn, 1) := by decide +kernel
theorem dX7_numberAt_0 : decode cX7_numberAt 0 = .ok (.iload_n 1, 1) := by decide +kernel
theorem dX7_numberAt_1 : decode cX7_numberAt 1 = .ok (.ifCond .lt 26, 3) := by decide +kernel
theorem dX7_numberAt_4 : decode cX7_numberAt 4 = .ok (.iload_n 1, 1) := by decide +kernel
theorem dX7_numberAt_5 : decode cX7_numberAt 5 = .ok (.aload_n 0, 1) := by decide +kernel
theorem dX7_numberAt_6 : decode cX7_numberAt 6 = .ok (.getfield 37, 3) := by decide +kernel
theorem dX7_numberAt_9 : decode cX7_numberAt 9 = .ok (.if_icmp .ge 18, 3) := by decide +kernel
theorem dX7_numberAt_12 : decode cX7_numberAt 12 = .ok (.iload_n 1, 1) := by decide +kernel
theorem dX7_numberAt_13 : decode cX7_numberAt 13 = .ok (.bipush 11, 2) := by decide +kernel
theorem dX7_numberAt_15 : decode cX7_numberAt 15 = .ok (.if_icmp .ge 12, 3) := by decide +kernel
theorem dX7_numberAt_18 : decode cX7_numberAt 18 = .ok (.aload_n 0, 1) := by decide +kernel
theorem dX7_numberAt_19 : decode cX7_numberAt 19 = .ok (.getfield 9, 3) := by decide +kernel
theorem dX7_numberAt_22 : decode cX7_numberAt 22 = .ok (.iload_n 1, 1) := by decide +kernel
theorem dX7_numberAt_23 : decode cX7_numberAt 23 = .ok (.iaload, 1) := by decide +kernel
theorem dX7_numberAt_24 : decode cX7_numberAt 24 = .ok (.goto 4, 3) := by decide +kernel
theorem dX7_numberAt_27 : decode cX7_numberAt 27 = .ok (.iconst (-1), 1) := by decide +kernel
theorem dX7_numberAt_28 : decode cX7_numberAt 28 = .ok (.ireturn, 1) := by decide +kernel
theorem dX8_account_0 : decode cX8_account 0 = .ok (.iload_n 1, 1) := by decide +kernel
theorem dX8_account_1 : decode cX8_account 1 = .ok (.ifCond .lt 8, 3) := by decide +kernel
theorem dX8_account_4 : decode cX8_account 4 = .ok (.iload_n 1, 1) := by decide +kernel
theorem dX8_account_5 : decode cX8_account 5 = .ok (.iconst 5, 1) := by decide +kernel
theorem dX8_account_6 : decode cX8_account 6 = .ok (.if_icmp .lt 14, 3) := by decide +kernel
theorem dX8_account_9 : decode cX8_account 9 = .ok (.new 114, 3) := by decide +kernel
theorem dX8_account_12 : decode cX8_account 12 = .ok (.dup, 1) := by decide +kernel
theorem dX8_account_13 : decode cX8_account 13 = .ok (.ldc_w 511, 3) := by decide +kernel
theorem dX8_account_16 : decode cX8_account 16 = .ok (.invokespecial 118, 3) := by decide +kernel
theorem dX8_account_19 : decode cX8_account 19 = .ok (.athrow, 1) := by decide +kernel
theorem dX8_account_20 : decode cX8_account 20 = .ok (.aload_n 0, 1) := by decide +kernel
theorem dX8_account_21 : decode cX8_account 21 = .ok (.getfield 76, 3) := by decide +kernel
theorem dX8_account_24 : decode cX8_account 24 = .ok (.iload_n 1, 1) := by decide +kernel
theorem dX8_account_25 : decode cX8_account 25 = .ok (.iaload, 1) := by decide +kernel
theorem dX8_account_26 : decode cX8_account 26 = .ok (.ireturn, 1) := by decide +kernel
theorem dX8_all_0 : decode cX8_all 0 = .ok (.lconst 1, 1) := by decide +kernel
theorem dX8_all_1 : decode cX8_all 1 = .ok (.lstore_n 1, 1) := by decide +kernel
theorem dX8_all_2 : decode cX8_all 2 = .ok (.iconst 1, 1) := by decide +kernel
theorem dX8_all_3 : decode cX8_all 3 = .ok (.istore_n 3, 1) := by decide +kernel
theorem dX8_all_4 : decode cX8_all 4 = .ok (.iload_n 3, 1) := by decide +kernel
theorem dX8_all_5 : decode cX8_all 5 = .ok (.aload_n 0, 1) := by decide +kernel
theorem dX8_all_6 : decode cX8_all 6 = .ok (.getfield 42, 3) := by decide +kernel
theorem dX8_all_9 : decode cX8_all 9 = .ok (.invokevirtual 138, 3) := by decide +kernel
theorem dX8_all_12 : decode cX8_all 12 = .ok (.if_icmp .ge 20, 3) := by decide +kernel
theorem dX8_all_15 : decode cX8_all 15 = .ok (.lload_n 1, 1) := by decide +kernel
theorem dX8_all_16 : decode cX8_all 16 = .ok (.aload_n 0, 1) := by decide +kernel
theorem dX8_all_17 : decode cX8_all 17 = .ok (.getfield 42, 3) := by decide +kernel
theorem dX8_all_20 : decode cX8_all 20 = .ok (.invokevirtual 305, 3) := by decide +kernel
theorem dX8_all_23 : decode cX8_all 23 = .ok (.i2l, 1) := by decide +kernel
theorem dX8_all_24 : decode cX8_all 24 = .ok (.lmul, 1) := by decide +kernel
theorem dX8_all_25 : decode cX8_all 25 = .ok (.lstore_n 1, 1) := by decide +kernel
theorem dX8_all_26 : decode cX8_all 26 = .ok (.iinc 3 1, 3) := by decide +kernel
theorem dX8_all_29 : decode cX8_all 29 = .ok (.goto (-25), 3) := by decide +kernel
theorem dX8_all_32 : decode cX8_all 32 = .ok (.lload_n 1, 1) := by decide +kernel
theorem dX8_all_33 : decode cX8_all 33 = .ok (.lreturn, 1) := by decide +kernel
theorem dX8_arrangements_0 : decode cX8_arrangements 0 = .ok (.aload_n 0, 1) := by decide +kernel
theorem dX8_arrangements_1 : decode cX8_arrangements 1 = .ok (.getfield 42, 3) := by decide +kernel
theorem dX8_arrangements_4 : decode cX8_arrangements 4 = .ok (.invokevirtual 138, 3) := by decide +kernel
theorem dX8_arrangements_7 : decode cX8_arrangements 7 = .ok (.invokestatic 360, 3) := by decide +kernel
theorem dX8_arrangements_10 : decode cX8_arrangements 10 = .ok (.lstore_n 1, 1) := by decide +kernel
theorem dX8_arrangements_11 : decode cX8_arrangements 11 = .ok (.iconst 0, 1) := by decide +kernel
theorem dX8_arrangements_12 : decode cX8_arrangements 12 = .ok (.istore_n 3, 1) := by decide +kernel
theorem dX8_arrangements_13 : decode cX8_arrangements 13 = .ok (.iload_n 3, 1) := by decide +kernel
theorem dX8_arrangements_14 : decode cX8_arrangements 14 = .ok (.aload_n 0, 1) := by decide +kernel
theorem dX8_arrangements_15 : decode cX8_arrangements 15 = .ok (.getfield 42, 3) := by decide +kernel
theorem dX8_arrangements_18 : decode cX8_arrangements 18 = .ok (.invokevirtual 305, 3) := by decide +kernel
theorem dX8_arrangements_21 : decode cX8_arrangements 21 = .ok (.if_icmp .ge 34, 3) := by decide +kernel
theorem dX8_arrangements_24 : decode cX8_arrangements 24 = .ok (.aload_n 0, 1) := by decide +kernel
theorem dX8_arrangements_25 : decode cX8_arrangements 25 = .ok (.getfield 42, 3) := by decide +kernel
theorem dX8_arrangements_28 : decode cX8_arrangements 28 = .ok (.iload_n 3, 1) := by decide +kernel
theorem dX8_arrangements_29 : decode cX8_arrangements 29 = .ok (.invokevirtual 276, 3) := by decide +kernel
theorem dX8_arrangements_32 : decode cX8_arrangements 32 = .ok (.invokestatic 360, 3) := by decide +kernel
theorem dX8_arrangements_35 : decode cX8_arrangements 35 = .ok (.lstore 4, 2) := by decide +kernel
theorem dX8_arrangements_37 : decode cX8_arrangements 37 = .ok (.lload 4, 2) := by decide +kernel
theorem dX8_arrangements_39 : decode cX8_arrangements 39 = .ok (.lconst 1, 1) := by decide +kernel
theorem dX8_arrangements_40 : decode cX8_arrangements 40 = .ok (.lcmp, 1) := by decide +kernel
theorem dX8_arrangements_41 : decode cX8_arrangements 41 = .ok (.ifCond .le 8, 3) := by decide +kernel
theorem dX8_arrangements_44 : decode cX8_arrangements 44 = .ok (.lload_n 1, 1) := by decide +kernel
theorem dX8_arrangements_45 : decode cX8_arrangements 45 = .ok (.lload 4, 2) := by decide +kernel
theorem dX8_arrangements_47 : decode cX8_arrangements 47 = .ok (.ldiv, 1) := by decide +kernel
theorem dX8_arrangements_48 : decode cX8_arrangements 48 = .ok (.lstore_n 1, 1) := by decide +kernel
theorem dX8_arrangements_49 : decode cX8_arrangements 49 = .ok (.iinc 3 1, 3) := by decide +kernel
theorem dX8_arrangements_52 : decode cX8_arrangements 52 = .ok (.goto (-39), 3) := by decide +kernel
theorem dX8_arrangements_55 : decode cX8_arrangements 55 = .ok (.lload_n 1, 1) := by decide +kernel
theorem dX8_arrangements_56 : decode cX8_arrangements 56 = .ok (.lreturn, 1) := by decide +kernel
theorem dX8_bestBack_0 : decode cX8_bestBack 0 = .ok (.iconst 0, 1) := by decide +kernel
theorem dX8_bestBack_1 : decode cX8_bestBack 1 = .ok (.istore_n 1, 1) := by decide +kernel
theorem dX8_bestBack_2 : decode cX8_bestBack 2 = .ok (.aload_n 0, 1) := by decide +kernel
theorem dX8_bestBack_3 : decode cX8_bestBack 3 = .ok (.iconst 0, 1) := by decide +kernel
theorem dX8_bestBack_4 : decode cX8_bestBack 4 = .ok (.invokevirtual 422, 3) := by decide +kernel
theorem dX8_bestBack_7 : decode cX8_bestBack 7 = .ok (.istore_n 2, 1) := by decide +kernel
theorem dX8_bestBack_8 : decode cX8_bestBack 8 = .ok (.iconst 1, 1) := by decide +kernel
theorem dX8_bestBack_9 : decode cX8_bestBack 9 = .ok (.istore_n 3, 1) := by decide +kernel
theorem dX8_bestBack_10 : decode cX8_bestBack 10 = .ok (.iload_n 3, 1) := by decide +kernel
theorem dX8_bestBack_11 : decode cX8_bestBack 11 = .ok (.iconst 5, 1) := by decide +kernel
theorem dX8_bestBack_12 : decode cX8_bestBack 12 = .ok (.if_icmp .gt 27, 3) := by decide +kernel
theorem dX8_bestBack_15 : decode cX8_bestBack 15 = .ok (.aload_n 0, 1) := by decide +kernel
theorem dX8_bestBack_16 : decode cX8_bestBack 16 = .ok (.iload_n 3, 1) := by decide +kernel
theorem dX8_bestBack_17 : decode cX8_bestBack 17 = .ok (.invokevirtual 422, 3) := by decide +kernel
theorem dX8_bestBack_20 : decode cX8_bestBack 20 = .ok (.istore 4, 2) := by decide +kernel
theorem dX8_bestBack_22 : decode cX8_bestBack 22 = .ok (.iload 4, 2) := by decide +kernel
theorem dX8_bestBack_24 : decode cX8_bestBack 24 = .ok (.iload_n 2, 1) := by decide +kernel
theorem dX8_bestBack_25 : decode cX8_bestBack 25 = .ok (.if_icmp .ge 8, 3) := by decide +kernel
theorem dX8_bestBack_28 : decode cX8_bestBack 28 = .ok (.iload 4, 2) := by decide +kernel
theorem dX8_bestBack_30 : decode cX8_bestBack 30 = .ok (.istore_n 2, 1) := by decide +kernel
theorem dX8_bestBack_31 : decode cX8_bestBack 31 = .ok (.iload_n 3, 1) := by decide +kernel
theorem dX8_bestBack_32 : decode cX8_bestBack 32 = .ok (.istore_n 1, 1) := by decide +kernel
theorem dX8_bestBack_33 : decode cX8_bestBack 33 = .ok (.iinc 3 1, 3) := by decide +kernel
theorem dX8_bestBack_36 : decode cX8_bestBack 36 = .ok (.goto (-26), 3) := by decide +kernel
theorem dX8_bestBack_39 : decode cX8_bestBack 39 = .ok (.iload_n 1, 1) := by decide +kernel
theorem dX8_bestBack_40 : decode cX8_bestBack 40 = .ok (.ireturn, 1) := by decide +kernel
theorem dX8_bestFor_0 : decode cX8_bestFor 0 = .ok (.aload_n 0, 1) := by decide +kernel
theorem dX8_bestFor_1 : decode cX8_bestFor 1 = .ok (.iload_n 1, 1) := by decide +kernel
theorem dX8_bestFor_2 : decode cX8_bestFor 2 = .ok (.invokevirtual 234, 3) := by decide +kernel
theorem dX8_bestFor_5 : decode cX8_bestFor 5 = .ok (.iconst (-1), 1) := by decide +kernel
theorem dX8_bestFor_6 : decode cX8_bestFor 6 = .ok (.istore_n 2, 1) := by decide +kernel
theorem dX8_bestFor_7 : decode cX8_bestFor 7 = .ok (.iconst (-1), 1) := by decide +kernel
theorem dX8_bestFor_8 : decode cX8_bestFor 8 = .ok (.istore_n 3, 1) := by decide +kernel
theorem dX8_bestFor_9 : decode cX8_bestFor 9 = .ok (.iconst 0, 1) := by decide +kernel
theorem dX8_bestFor_10 : decode cX8_bestFor 10 = .ok (.istore 4, 2) := by decide +kernel
theorem dX8_bestFor_12 : decode cX8_bestFor 12 = .ok (.iload 4, 2) := by decide +kernel
theorem dX8_bestFor_14 : decode cX8_bestFor 14 = .ok (.aload_n 0, 1) := by decide +kernel
theorem dX8_bestFor_15 : decode cX8_bestFor 15 = .ok (.getfield 42, 3) := by decide +kernel
theorem dX8_bestFor_18 : decode cX8_bestFor 18 = .ok (.invokevirtual 305, 3) := by decide +kernel
theorem dX8_bestFor_21 : decode cX8_bestFor 21 = .ok (.if_icmp .ge 33, 3) := by decide +kernel
theorem dX8_bestFor_24 : decode cX8_bestFor 24 = .ok (.aload_n 0, 1) := by decide +kernel
theorem dX8_bestFor_25 : decode cX8_bestFor 25 = .ok (.iload_n 1, 1) := by decide +kernel
theorem dX8_bestFor_26 : decode cX8_bestFor 26 = .ok (.iload 4, 2) := by decide +kernel
theorem dX8_bestFor_28 : decode cX8_bestFor 28 = .ok (.invokevirtual 408, 3) := by decide +kernel
theorem dX8_bestFor_31 : decode cX8_bestFor 31 = .ok (.invokevirtual 317, 3) := by decide +kernel
theorem dX8_bestFor_34 : decode cX8_bestFor 34 = .ok (.istore 5, 2) := by decide +kernel
theorem dX8_bestFor_36 : decode cX8_bestFor 36 = .ok (.iload 5, 2) := by decide +kernel
theorem dX8_bestFor_38 : decode cX8_bestFor 38 = .ok (.iload_n 3, 1) := by decide +kernel
theorem dX8_bestFor_39 : decode cX8_bestFor 39 = .ok (.if_icmp .le 9, 3) := by decide +kernel
theorem dX8_bestFor_42 : decode cX8_bestFor 42 = .ok (.iload 5, 2) := by decide +kernel
theorem dX8_bestFor_44 : decode cX8_bestFor 44 = .ok (.istore_n 3, 1) := by decide +kernel
theorem dX8_bestFor_45 : decode cX8_bestFor 45 = .ok (.iload 4, 2) := by decide +kernel
theorem dX8_bestFor_47 : decode cX8_bestFor 47 = .ok (.istore_n 2, 1) := by decide +kernel
theorem dX8_bestFor_48 : decode cX8_bestFor 48 = .ok (.iinc 4 1, 3) := by decide +kernel
theorem dX8_bestFor_51 : decode cX8_bestFor 51 = .ok (.goto (-39), 3) := by decide +kernel
theorem dX8_bestFor_54 : decode cX8_bestFor 54 = .ok (.iload_n 2, 1) := by decide +kernel
theorem dX8_bestFor_55 : decode cX8_bestFor 55 = .ok (.ireturn, 1) := by decide +kernel
theorem dX8_breakAt_0 : decode cX8_breakAt 0 = .ok (.aload_n 0, 1) := by decide +kernel
theorem dX8_breakAt_1 : decode cX8_breakAt 1 = .ok (.invokevirtual 245, 3) := by decide +kernel
theorem dX8_breakAt_4 : decode cX8_breakAt 4 = .ok (.astore_n 2, 1) := by decide +kernel
theorem dX8_breakAt_5 : decode cX8_breakAt 5 = .ok (.iconst 0, 1) := by decide +kernel
theorem dX8_breakAt_6 : decode cX8_breakAt 6 = .ok (.istore_n 3, 1) := by decide +kernel
theorem dX8_breakAt_7 : decode cX8_breakAt 7 = .ok (.iconst 1, 1) := by decide +kernel
theorem dX8_breakAt_8 : decode cX8_breakAt 8 = .ok (.istore 4, 2) := by decide +kernel
theorem dX8_breakAt_10 : decode cX8_breakAt 10 = .ok (.iload 4, 2) := by decide +kernel
theorem dX8_breakAt_12 : decode cX8_breakAt 12 = .ok (.aload_n 0, 1) := by decide +kernel
theorem dX8_breakAt_13 : decode cX8_breakAt 13 = .ok (.getfield 42, 3) := by decide +kernel
theorem dX8_breakAt_16 : decode cX8_breakAt 16 = .ok (.invokevirtual 138, 3) := by decide +kernel
theorem dX8_breakAt_19 : decode cX8_breakAt 19 = .ok (.if_icmp .gt 29, 3) := by decide +kernel
theorem dX8_breakAt_22 : decode cX8_breakAt 22 = .ok (.aload_n 2, 1) := by decide +kernel
theorem dX8_breakAt_23 : decode cX8_breakAt 23 = .ok (.iload 4, 2) := by decide +kernel
theorem dX8_breakAt_25 : decode cX8_breakAt 25 = .ok (.invokevirtual 298, 3) := by decide +kernel
theorem dX8_breakAt_28 : decode cX8_breakAt 28 = .ok (.ifCond .eq 14, 3) := by decide +kernel
theorem dX8_breakAt_31 : decode cX8_breakAt 31 = .ok (.iload_n 3, 1) := by decide +kernel
theorem dX8_breakAt_32 : decode cX8_breakAt 32 = .ok (.iload_n 1, 1) := by decide +kernel
theorem dX8_breakAt_33 : decode cX8_breakAt 33 = .ok (.if_icmp .ne 6, 3) := by decide +kernel
theorem dX8_breakAt_36 : decode cX8_breakAt 36 = .ok (.iload 4, 2) := by decide +kernel
theorem dX8_breakAt_38 : decode cX8_breakAt 38 = .ok (.ireturn, 1) := by decide +kernel
theorem dX8_breakAt_39 : decode cX8_breakAt 39 = .ok (.iinc 3 1, 3) := by decide +kernel
theorem dX8_breakAt_42 : decode cX8_breakAt 42 = .ok (.iinc 4 1, 3) := by decide +kernel
theorem dX8_breakAt_45 : decode cX8_breakAt 45 = .ok (.goto (-35), 3) := by decide +kernel
theorem dX8_breakAt_48 : decode cX8_breakAt 48 = .ok (.iconst (-1), 1) := by decide +kernel
theorem dX8_breakAt_49 : decode cX8_breakAt 49 = .ok (.ireturn, 1) := by decide +kernel
theorem dX8_canComeTo_0 : decode cX8_canComeTo 0 = .ok (.iload_n 1, 1) := by decide +kernel
theorem dX8_canComeTo_1 : decode cX8_canComeTo 1 = .ok (.ifCond .lt 18, 3) := by decide +kernel
theorem dX8_canComeTo_4 : decode cX8_canComeTo 4 = .ok (.iload_n 1, 1) := by decide +kernel
theorem dX8_canComeTo_5 : decode cX8_canComeTo 5 = .ok (.aload_n 0, 1) := by decide +kernel
theorem dX8_canComeTo_6 : decode cX8_canComeTo 6 = .ok (.getfield 42, 3) := by decide +kernel
theorem dX8_canComeTo_9 : decode cX8_canComeTo 9 = .ok (.invokevirtual 305, 3) := by decide +kernel
theorem dX8_canComeTo_12 : decode cX8_canComeTo 12 = .ok (.if_icmp .gt 7, 3) := by decide +kernel
theorem dX8_canComeTo_15 : decode cX8_canComeTo 15 = .ok (.iconst 1, 1) := by decide +kernel
theorem dX8_canComeTo_16 : decode cX8_canComeTo 16 = .ok (.goto 4, 3) := by decide +kernel
theorem dX8_canComeTo_19 : decode cX8_canComeTo 19 = .ok (.iconst 0, 1) := by decide +kernel
theorem dX8_canComeTo_20 : decode cX8_canComeTo 20 = .ok (.ireturn, 1) := by decide +kernel
theorem dX8_car_0 : decode cX8_car 0 = .ok (.aload_n 0, 1) := by decide +kernel
theorem dX8_car_1 : decode cX8_car 1 = .ok (.iload_n 1, 1) := by decide +kernel
theorem dX8_car_2 : decode cX8_car 2 = .ok (.invokevirtual 234, 3) := by decide +kernel
theorem dX8_car_5 : decode cX8_car 5 = .ok (.aload_n 0, 1) := by decide +kernel
theorem dX8_car_6 : decode cX8_car 6 = .ok (.invokevirtual 245, 3) := by decide +kernel
theorem dX8_car_9 : decode cX8_car 9 = .ok (.astore_n 3, 1) := by decide +kernel
theorem dX8_car_10 : decode cX8_car 10 = .ok (.iload_n 2, 1) := by decide +kernel
theorem dX8_car_11 : decode cX8_car 11 = .ok (.tableswitch 84 0 5 #[37, 46, 52, 58, 72, 78], 37) := by decide +kernel
theorem dX8_car_48 : decode cX8_car 48 = .ok (.aload_n 0, 1) := by decide +kernel
theorem dX8_car_49 : decode cX8_car 49 = .ok (.getfield 42, 3) := by decide +kernel
theorem dX8_car_52 : decode cX8_car 52 = .ok (.iload_n 1, 1) := by decide +kernel
theorem dX8_car_53 : decode cX8_car 53 = .ok (.invokevirtual 249, 3) := by decide +kernel
theorem dX8_car_56 : decode cX8_car 56 = .ok (.ireturn, 1) := by decide +kernel
theorem dX8_car_57 : decode cX8_car 57 = .ok (.aload_n 3, 1) := by decide +kernel
theorem dX8_car_58 : decode cX8_car 58 = .ok (.iload_n 1, 1) := by decide +kernel
theorem dX8_car_59 : decode cX8_car 59 = .ok (.invokevirtual 253, 3) := by decide +kernel
theorem dX8_car_62 : decode cX8_car 62 = .ok (.ireturn, 1) := by decide +kernel
theorem dX8_car_63 : decode cX8_car 63 = .ok (.aload_n 3, 1) := by decide +kernel
theorem dX8_car_64 : decode cX8_car 64 = .ok (.iload_n 1, 1) := by decide +kernel
theorem dX8_car_65 : decode cX8_car 65 = .ok (.invokevirtual 256, 3) := by decide +kernel
theorem dX8_car_68 : decode cX8_car 68 = .ok (.ireturn, 1) := by decide +kernel
theorem dX8_car_69 : decode cX8_car 69 = .ok (.aload_n 3, 1) := by decide +kernel
theorem dX8_car_70 : decode cX8_car 70 = .ok (.iload_n 1, 1) := by decide +kernel
theorem dX8_car_71 : decode cX8_car 71 = .ok (.invokevirtual 259, 3) := by decide +kernel
theorem dX8_car_74 : decode cX8_car 74 = .ok (.ifCond .eq 7, 3) := by decide +kernel
theorem dX8_car_77 : decode cX8_car 77 = .ok (.iconst 1, 1) := by decide +kernel
theorem dX8_car_78 : decode cX8_car 78 = .ok (.goto 4, 3) := by decide +kernel
theorem dX8_car_81 : decode cX8_car 81 = .ok (.iconst 0, 1) := by decide +kernel
theorem dX8_car_82 : decode cX8_car 82 = .ok (.ireturn, 1) := by decide +kernel
theorem dX8_car_83 : decode cX8_car 83 = .ok (.aload_n 3, 1) := by decide +kernel
theorem dX8_car_84 : decode cX8_car 84 = .ok (.iload_n 1, 1) := by decide +kernel
theorem dX8_car_85 : decode cX8_car 85 = .ok (.invokevirtual 262, 3) := by decide +kernel
theorem dX8_car_88 : decode cX8_car 88 = .ok (.ireturn, 1) := by decide +kernel
theorem dX8_car_89 : decode cX8_car 89 = .ok (.aload_n 3, 1) := by decide +kernel
theorem dX8_car_90 : decode cX8_car 90 = .ok (.iload_n 1, 1) := by decide +kernel
theorem dX8_car_91 : decode cX8_car 91 = .ok (.invokevirtual 265, 3) := by decide +kernel
theorem dX8_car_94 : decode cX8_car 94 = .ok (.ireturn, 1) := by decide +kernel
theorem dX8_car_95 : decode cX8_car 95 = .ok (.new 114, 3) := by decide +kernel
theorem dX8_car_98 : decode cX8_car 98 = .ok (.dup, 1) := by decide +kernel
theorem dX8_car_99 : decode cX8_car 99 = .ok (.ldc_w 268, 3) := by decide +kernel
theorem dX8_car_102 : decode cX8_car 102 = .ok (.invokespecial 118, 3) := by decide +kernel
theorem dX8_car_105 : decode cX8_car 105 = .ok (.athrow, 1) := by decide +kernel
theorem dX8_code_0 : decode cX8_code 0 = .ok (.aload_n 0, 1) := by decide +kernel
theorem dX8_code_1 : decode cX8_code 1 = .ok (.invokevirtual 366, 3) := by decide +kernel
theorem dX8_code_4 : decode cX8_code 4 = .ok (.iload_n 1, 1) := by decide +kernel
theorem dX8_code_5 : decode cX8_code 5 = .ok (.invokevirtual 370, 3) := by decide +kernel
theorem dX8_code_8 : decode cX8_code 8 = .ok (.ireturn, 1) := by decide +kernel
theorem dX8_codeGap_0 : decode cX8_codeGap 0 = .ok (.aload_n 0, 1) := by decide +kernel
theorem dX8_codeGap_1 : decode cX8_codeGap 1 = .ok (.invokevirtual 366, 3) := by decide +kernel
theorem dX8_codeGap_4 : decode cX8_codeGap 4 = .ok (.invokevirtual 394, 3) := by decide +kernel
theorem dX8_codeGap_7 : decode cX8_codeGap 7 = .ok (.ireturn, 1) := by decide +kernel
theorem dX8_come_0 : decode cX8_come 0 = .ok (.aload_n 0, 1) := by decide +kernel
theorem dX8_come_1 : decode cX8_come 1 = .ok (.iload_n 1, 1) := by decide +kernel
theorem dX8_come_2 : decode cX8_come 2 = .ok (.invokevirtual 446, 3) := by decide +kernel
theorem dX8_come_5 : decode cX8_come 5 = .ok (.ifCond .ne 14, 3) := by decide +kernel
theorem dX8_come_8 : decode cX8_come 8 = .ok (.new 114, 3) := by decide +kernel
theorem dX8_come_11 : decode cX8_come 11 = .ok (.dup, 1) := by decide +kernel
theorem dX8_come_12 : decode cX8_come 12 = .ok (.ldc_w 449, 3) := by decide +kernel
theorem dX8_come_15 : decode cX8_come 15 = .ok (.invokespecial 118, 3) := by decide +kernel
theorem dX8_come_18 : decode cX8_come 18 = .ok (.athrow, 1) := by decide +kernel
theorem dX8_come_19 : decode cX8_come 19 = .ok (.aload_n 0, 1) := by decide +kernel
theorem dX8_come_20 : decode cX8_come 20 = .ok (.invokevirtual 147, 3) := by decide +kernel
theorem dX8_come_23 : decode cX8_come 23 = .ok (.aload_n 0, 1) := by decide +kernel
theorem dX8_come_24 : decode cX8_come 24 = .ok (.aload_n 0, 1) := by decide +kernel
theorem dX8_come_25 : decode cX8_come 25 = .ok (.aload_n 0, 1) := by decide +kernel
theorem dX8_come_26 : decode cX8_come 26 = .ok (.getfield 20, 3) := by decide +kernel
theorem dX8_come_29 : decode cX8_come 29 = .ok (.invokevirtual 451, 3) := by decide +kernel
theorem dX8_come_32 : decode cX8_come 32 = .ok (.iload_n 1, 1) := by decide +kernel
theorem dX8_come_33 : decode cX8_come 33 = .ok (.invokevirtual 454, 3) := by decide +kernel
theorem dX8_come_36 : decode cX8_come 36 = .ok (.invokevirtual 431, 3) := by decide +kernel
theorem dX8_come_39 : decode cX8_come 39 = .ok (.istore_n 2, 1) := by decide +kernel
theorem dX8_come_40 : decode cX8_come 40 = .ok (.iload_n 2, 1) := by decide +kernel
theorem dX8_come_41 : decode cX8_come 41 = .ok (.ifCond .eq 11, 3) := by decide +kernel
theorem dX8_come_44 : decode cX8_come 44 = .ok (.aload_n 0, 1) := by decide +kernel
theorem dX8_come_45 : decode cX8_come 45 = .ok (.getfield 20, 3) := by decide +kernel
theorem dX8_come_48 : decode cX8_come 48 = .ok (.iconst 0, 1) := by decide +kernel
theorem dX8_come_49 : decode cX8_come 49 = .ok (.invokevirtual 119, 3) := by decide +kernel
theorem dX8_come_52 : decode cX8_come 52 = .ok (.iload_n 2, 1) := by decide +kernel
theorem dX8_come_53 : decode cX8_come 53 = .ok (.ireturn, 1) := by decide +kernel
theorem dX8_degree_0 : decode cX8_degree 0 = .ok (.aload_n 0, 1) := by decide +kernel
theorem dX8_degree_1 : decode cX8_degree 1 = .ok (.iload_n 1, 1) := by decide +kernel
theorem dX8_degree_2 : decode cX8_degree 2 = .ok (.invokevirtual 376, 3) := by decide +kernel
theorem dX8_degree_5 : decode cX8_degree 5 = .ok (.aload_n 0, 1) := by decide +kernel
theorem dX8_degree_6 : decode cX8_degree 6 = .ok (.invokevirtual 366, 3) := by decide +kernel
theorem dX8_degree_9 : decode cX8_degree 9 = .ok (.iload_n 1, 1) := by decide +kernel
theorem dX8_degree_10 : decode cX8_degree 10 = .ok (.invokevirtual 379, 3) := by decide +kernel
theorem dX8_degree_13 : decode cX8_degree 13 = .ok (.ireturn, 1) := by decide +kernel
theorem dX8_descents_0 : decode cX8_descents 0 = .ok (.iconst 0, 1) := by decide +kernel
theorem dX8_descents_1 : decode cX8_descents 1 = .ok (.istore_n 1, 1) := by decide +kernel
theorem dX8_descents_2 : decode cX8_descents 2 = .ok (.iconst 1, 1) := by decide +kernel
theorem dX8_descents_3 : decode cX8_descents 3 = .ok (.istore_n 2, 1) := by decide +kernel
theorem dX8_descents_4 : decode cX8_descents 4 = .ok (.iload_n 2, 1) := by decide +kernel
theorem dX8_descents_5 : decode cX8_descents 5 = .ok (.aload_n 0, 1) := by decide +kernel
theorem dX8_descents_6 : decode cX8_descents 6 = .ok (.getfield 42, 3) := by decide +kernel
theorem dX8_descents_9 : decode cX8_descents 9 = .ok (.invokevirtual 138, 3) := by decide +kernel
theorem dX8_descents_12 : decode cX8_descents 12 = .ok (.if_icmp .ge 33, 3) := by decide +kernel
theorem dX8_descents_15 : decode cX8_descents 15 = .ok (.aload_n 0, 1) := by decide +kernel
theorem dX8_descents_16 : decode cX8_descents 16 = .ok (.getfield 42, 3) := by decide +kernel
theorem dX8_descents_19 : decode cX8_descents 19 = .ok (.iload_n 2, 1) := by decide +kernel
theorem dX8_descents_20 : decode cX8_descents 20 = .ok (.invokevirtual 249, 3) := by decide +kernel
theorem dX8_descents_23 : decode cX8_descents 23 = .ok (.aload_n 0, 1) := by decide +kernel
theorem dX8_descents_24 : decode cX8_descents 24 = .ok (.getfield 42, 3) := by decide +kernel
theorem dX8_descents_27 : decode cX8_descents 27 = .ok (.iload_n 2, 1) := by decide +kernel
theorem dX8_descents_28 : decode cX8_descents 28 = .ok (.iconst 1, 1) := by decide +kernel
theorem dX8_descents_29 : decode cX8_descents 29 = .ok (.isub, 1) := by decide +kernel
theorem dX8_descents_30 : decode cX8_descents 30 = .ok (.invokevirtual 249, 3) := by decide +kernel
theorem dX8_descents_33 : decode cX8_descents 33 = .ok (.if_icmp .ge 6, 3) := by decide +kernel
theorem dX8_descents_36 : decode cX8_descents 36 = .ok (.iinc 1 1, 3) := by decide +kernel
theorem dX8_descents_39 : decode cX8_descents 39 = .ok (.iinc 2 1, 3) := by decide +kernel
theorem dX8_descents_42 : decode cX8_descents 42 = .ok (.goto (-38), 3) := by decide +kernel
theorem dX8_descents_45 : decode cX8_descents 45 = .ok (.iload_n 1, 1) := by decide +kernel
theorem dX8_descents_46 : decode cX8_descents 46 = .ok (.ireturn, 1) := by decide +kernel
theorem dX8_doCome_0 : decode cX8_doCome 0 = .ok (.aload_n 0, 1) := by decide +kernel
theorem dX8_doCome_1 : decode cX8_doCome 1 = .ok (.getfield 42, 3) := by decide +kernel
theorem dX8_doCome_4 : decode cX8_doCome 4 = .ok (.invokevirtual 138, 3) := by decide +kernel
theorem dX8_doCome_7 : decode cX8_doCome 7 = .ok (.bipush 11, 2) := by decide +kernel
theorem dX8_doCome_9 : decode cX8_doCome 9 = .ok (.if_icmp .lt 9, 3) := by decide +kernel
theorem dX8_doCome_12 : decode cX8_doCome 12 = .ok (.aload_n 0, 1) := by decide +kernel
theorem dX8_doCome_13 : decode cX8_doCome 13 = .ok (.iconst 1, 1) := by decide +kernel
theorem dX8_doCome_14 : decode cX8_doCome 14 = .ok (.invokevirtual 467, 3) := by decide +kernel
theorem dX8_doCome_17 : decode cX8_doCome 17 = .ok (.ireturn, 1) := by decide +kernel
theorem dX8_doCome_18 : decode cX8_doCome 18 = .ok (.lload_n 1, 1) := by decide +kernel
theorem dX8_doCome_19 : decode cX8_doCome 19 = .ok (.lconst 0, 1) := by decide +kernel
theorem dX8_doCome_20 : decode cX8_doCome 20 = .ok (.lcmp, 1) := by decide +kernel
theorem dX8_doCome_21 : decode cX8_doCome 21 = .ok (.ifCond .eq 15, 3) := by decide +kernel
theorem dX8_doCome_24 : decode cX8_doCome 24 = .ok (.aload_n 0, 1) := by decide +kernel
theorem dX8_doCome_25 : decode cX8_doCome 25 = .ok (.getfield 42, 3) := by decide +kernel
theorem dX8_doCome_28 : decode cX8_doCome 28 = .ok (.lload_n 1, 1) := by decide +kernel
theorem dX8_doCome_29 : decode cX8_doCome 29 = .ok (.invokevirtual 219, 3) := by decide +kernel
theorem dX8_doCome_32 : decode cX8_doCome 32 = .ok (.iconst (-1), 1) := by decide +kernel
theorem dX8_doCome_33 : decode cX8_doCome 33 = .ok (.if_icmp .eq 9, 3) := by decide +kernel
theorem dX8_doCome_36 : decode cX8_doCome 36 = .ok (.aload_n 0, 1) := by decide +kernel
theorem dX8_doCome_37 : decode cX8_doCome 37 = .ok (.iconst 2, 1) := by decide +kernel
theorem dX8_doCome_38 : decode cX8_doCome 38 = .ok (.invokevirtual 467, 3) := by decide +kernel
theorem dX8_doCome_41 : decode cX8_doCome 41 = .ok (.ireturn, 1) := by decide +kernel
theorem dX8_doCome_42 : decode cX8_doCome 42 = .ok (.aload_n 0, 1) := by decide +kernel
theorem dX8_doCome_43 : decode cX8_doCome 43 = .ok (.getfield 76, 3) := by decide +kernel
theorem dX8_doCome_46 : decode cX8_doCome 46 = .ok (.iconst 0, 1) := by decide +kernel
theorem dX8_doCome_47 : decode cX8_doCome 47 = .ok (.dup2, 1) := by decide +kernel
theorem dX8_doCome_48 : decode cX8_doCome 48 = .ok (.iaload, 1) := by decide +kernel
theorem dX8_doCome_49 : decode cX8_doCome 49 = .ok (.iconst 1, 1) := by decide +kernel
theorem dX8_doCome_50 : decode cX8_doCome 50 = .ok (.iadd, 1) := by decide +kernel
theorem dX8_doCome_51 : decode cX8_doCome 51 = .ok (.iastore, 1) := by decide +kernel
theorem dX8_doCome_52 : decode cX8_doCome 52 = .ok (.aload_n 0, 1) := by decide +kernel
theorem dX8_doCome_53 : decode cX8_doCome 53 = .ok (.getfield 42, 3) := by decide +kernel
theorem dX8_doCome_56 : decode cX8_doCome 56 = .ok (.lload_n 1, 1) := by decide +kernel
theorem dX8_doCome_57 : decode cX8_doCome 57 = .ok (.iload_n 3, 1) := by decide +kernel
theorem dX8_doCome_58 : decode cX8_doCome 58 = .ok (.invokevirtual 223, 3) := by decide +kernel
theorem dX8_doCome_61 : decode cX8_doCome 61 = .ok (.aload_n 0, 1) := by decide +kernel
theorem dX8_doCome_62 : decode cX8_doCome 62 = .ok (.getfield 76, 3) := by decide +kernel
theorem dX8_doCome_65 : decode cX8_doCome 65 = .ok (.iconst 2, 1) := by decide +kernel
theorem dX8_doCome_66 : decode cX8_doCome 66 = .ok (.dup2, 1) := by decide +kernel
theorem dX8_doCome_67 : decode cX8_doCome 67 = .ok (.iaload, 1) := by decide +kernel
theorem dX8_doCome_68 : decode cX8_doCome 68 = .ok (.iconst 1, 1) := by decide +kernel
theorem dX8_doCome_69 : decode cX8_doCome 69 = .ok (.iadd, 1) := by decide +kernel
theorem dX8_doCome_70 : decode cX8_doCome 70 = .ok (.iastore, 1) := by decide +kernel
theorem dX8_doCome_71 : decode cX8_doCome 71 = .ok (.iconst 1, 1) := by decide +kernel
theorem dX8_doCome_72 : decode cX8_doCome 72 = .ok (.ireturn, 1) := by decide +kernel
theorem dX8_doGo_0 : decode cX8_doGo 0 = .ok (.aload_n 0, 1) := by decide +kernel
theorem dX8_doGo_1 : decode cX8_doGo 1 = .ok (.getfield 42, 3) := by decide +kernel
theorem dX8_doGo_4 : decode cX8_doGo 4 = .ok (.invokevirtual 305, 3) := by decide +kernel
theorem dX8_doGo_7 : decode cX8_doGo 7 = .ok (.iconst 1, 1) := by decide +kernel
theorem dX8_doGo_8 : decode cX8_doGo 8 = .ok (.isub, 1) := by decide +kernel
theorem dX8_doGo_9 : decode cX8_doGo 9 = .ok (.istore_n 2, 1) := by decide +kernel
theorem dX8_doGo_10 : decode cX8_doGo 10 = .ok (.aload_n 0, 1) := by decide +kernel
theorem dX8_doGo_11 : decode cX8_doGo 11 = .ok (.getfield 42, 3) := by decide +kernel
theorem dX8_doGo_14 : decode cX8_doGo 14 = .ok (.iload_n 1, 1) := by decide +kernel
theorem dX8_doGo_15 : decode cX8_doGo 15 = .ok (.invokevirtual 249, 3) := by decide +kernel
theorem dX8_doGo_18 : decode cX8_doGo 18 = .ok (.iload_n 2, 1) := by decide +kernel
theorem dX8_doGo_19 : decode cX8_doGo 19 = .ok (.if_icmp .ne 7, 3) := by decide +kernel
theorem dX8_doGo_22 : decode cX8_doGo 22 = .ok (.iconst 1, 1) := by decide +kernel
theorem dX8_doGo_23 : decode cX8_doGo 23 = .ok (.goto 4, 3) := by decide +kernel
theorem dX8_doGo_26 : decode cX8_doGo 26 = .ok (.iconst 0, 1) := by decide +kernel
theorem dX8_doGo_27 : decode cX8_doGo 27 = .ok (.istore_n 3, 1) := by decide +kernel
theorem dX8_doGo_28 : decode cX8_doGo 28 = .ok (.aload_n 0, 1) := by decide +kernel
theorem dX8_doGo_29 : decode cX8_doGo 29 = .ok (.getfield 42, 3) := by decide +kernel
theorem dX8_doGo_32 : decode cX8_doGo 32 = .ok (.iload_n 2, 1) := by decide +kernel
theorem dX8_doGo_33 : decode cX8_doGo 33 = .ok (.invokevirtual 276, 3) := by decide +kernel
theorem dX8_doGo_36 : decode cX8_doGo 36 = .ok (.iload_n 3, 1) := by decide +kernel
theorem dX8_doGo_37 : decode cX8_doGo 37 = .ok (.if_icmp .le 9, 3) := by decide +kernel
theorem dX8_doGo_40 : decode cX8_doGo 40 = .ok (.aload_n 0, 1) := by decide +kernel
theorem dX8_doGo_41 : decode cX8_doGo 41 = .ok (.iconst 4, 1) := by decide +kernel
theorem dX8_doGo_42 : decode cX8_doGo 42 = .ok (.invokevirtual 467, 3) := by decide +kernel
theorem dX8_doGo_45 : decode cX8_doGo 45 = .ok (.ireturn, 1) := by decide +kernel
theorem dX8_doGo_46 : decode cX8_doGo 46 = .ok (.aload_n 0, 1) := by decide +kernel
theorem dX8_doGo_47 : decode cX8_doGo 47 = .ok (.getfield 76, 3) := by decide +kernel
theorem dX8_doGo_50 : decode cX8_doGo 50 = .ok (.iconst 0, 1) := by decide +kernel
theorem dX8_doGo_51 : decode cX8_doGo 51 = .ok (.dup2, 1) := by decide +kernel
theorem dX8_doGo_52 : decode cX8_doGo 52 = .ok (.iaload, 1) := by decide +kernel
theorem dX8_doGo_53 : decode cX8_doGo 53 = .ok (.iconst 1, 1) := by decide +kernel
theorem dX8_doGo_54 : decode cX8_doGo 54 = .ok (.iadd, 1) := by decide +kernel
theorem dX8_doGo_55 : decode cX8_doGo 55 = .ok (.iastore, 1) := by decide +kernel
theorem dX8_doGo_56 : decode cX8_doGo 56 = .ok (.aload_n 0, 1) := by decide +kernel
theorem dX8_doGo_57 : decode cX8_doGo 57 = .ok (.getfield 42, 3) := by decide +kernel
theorem dX8_doGo_60 : decode cX8_doGo 60 = .ok (.iload_n 1, 1) := by decide +kernel
theorem dX8_doGo_61 : decode cX8_doGo 61 = .ok (.invokevirtual 473, 3) := by decide +kernel
theorem dX8_doGo_64 : decode cX8_doGo 64 = .ok (.aload_n 0, 1) := by decide +kernel
theorem dX8_doGo_65 : decode cX8_doGo 65 = .ok (.getfield 76, 3) := by decide +kernel
theorem dX8_doGo_68 : decode cX8_doGo 68 = .ok (.iconst 3, 1) := by decide +kernel
theorem dX8_doGo_69 : decode cX8_doGo 69 = .ok (.dup2, 1) := by decide +kernel
theorem dX8_doGo_70 : decode cX8_doGo 70 = .ok (.iaload, 1) := by decide +kernel
theorem dX8_doGo_71 : decode cX8_doGo 71 = .ok (.iconst 1, 1) := by decide +kernel
theorem dX8_doGo_72 : decode cX8_doGo 72 = .ok (.iadd, 1) := by decide +kernel
theorem dX8_doGo_73 : decode cX8_doGo 73 = .ok (.iastore, 1) := by decide +kernel
theorem dX8_doGo_74 : decode cX8_doGo 74 = .ok (.iconst 1, 1) := by decide +kernel
theorem dX8_doGo_75 : decode cX8_doGo 75 = .ok (.ireturn, 1) := by decide +kernel
theorem dX8_doPrefer_0 : decode cX8_doPrefer 0 = .ok (.aload_n 0, 1) := by decide +kernel
theorem dX8_doPrefer_1 : decode cX8_doPrefer 1 = .ok (.getfield 76, 3) := by decide +kernel
theorem dX8_doPrefer_4 : decode cX8_doPrefer 4 = .ok (.iconst 0, 1) := by decide +kernel
theorem dX8_doPrefer_5 : decode cX8_doPrefer 5 = .ok (.dup2, 1) := by decide +kernel
theorem dX8_doPrefer_6 : decode cX8_doPrefer 6 = .ok (.iaload, 1) := by decide +kernel
theorem dX8_doPrefer_7 : decode cX8_doPrefer 7 = .ok (.iconst 1, 1) := by decide +kernel
theorem dX8_doPrefer_8 : decode cX8_doPrefer 8 = .ok (.iadd, 1) := by decide +kernel
theorem dX8_doPrefer_9 : decode cX8_doPrefer 9 = .ok (.iastore, 1) := by decide +kernel
theorem dX8_doPrefer_10 : decode cX8_doPrefer 10 = .ok (.aload_n 0, 1) := by decide +kernel
theorem dX8_doPrefer_11 : decode cX8_doPrefer 11 = .ok (.getfield 42, 3) := by decide +kernel
theorem dX8_doPrefer_14 : decode cX8_doPrefer 14 = .ok (.iload_n 1, 1) := by decide +kernel
theorem dX8_doPrefer_15 : decode cX8_doPrefer 15 = .ok (.iload_n 2, 1) := by decide +kernel
theorem dX8_doPrefer_16 : decode cX8_doPrefer 16 = .ok (.invokevirtual 412, 3) := by decide +kernel
theorem dX8_doPrefer_19 : decode cX8_doPrefer 19 = .ok (.iconst 1, 1) := by decide +kernel
theorem dX8_doPrefer_20 : decode cX8_doPrefer 20 = .ok (.ireturn, 1) := by decide +kernel
theorem dX8_doReverse_0 : decode cX8_doReverse 0 = .ok (.aload_n 0, 1) := by decide +kernel
theorem dX8_doReverse_1 : decode cX8_doReverse 1 = .ok (.getfield 76, 3) := by decide +kernel
theorem dX8_doReverse_4 : decode cX8_doReverse 4 = .ok (.iconst 0, 1) := by decide +kernel
theorem dX8_doReverse_5 : decode cX8_doReverse 5 = .ok (.dup2, 1) := by decide +kernel
theorem dX8_doReverse_6 : decode cX8_doReverse 6 = .ok (.iaload, 1) := by decide +kernel
theorem dX8_doReverse_7 : decode cX8_doReverse 7 = .ok (.iconst 1, 1) := by decide +kernel
theorem dX8_doReverse_8 : decode cX8_doReverse 8 = .ok (.iadd, 1) := by decide +kernel
theorem dX8_doReverse_9 : decode cX8_doReverse 9 = .ok (.iastore, 1) := by decide +kernel
theorem dX8_doReverse_10 : decode cX8_doReverse 10 = .ok (.aload_n 0, 1) := by decide +kernel
theorem dX8_doReverse_11 : decode cX8_doReverse 11 = .ok (.getfield 42, 3) := by decide +kernel
theorem dX8_doReverse_14 : decode cX8_doReverse 14 = .ok (.invokevirtual 138, 3) := by decide +kernel
theorem dX8_doReverse_17 : decode cX8_doReverse 17 = .ok (.istore_n 1, 1) := by decide +kernel
theorem dX8_doReverse_18 : decode cX8_doReverse 18 = .ok (.iconst 0, 1) := by decide +kernel
theorem dX8_doReverse_19 : decode cX8_doReverse 19 = .ok (.istore_n 2, 1) := by decide +kernel
theorem dX8_doReverse_20 : decode cX8_doReverse 20 = .ok (.iload_n 2, 1) := by decide +kernel
theorem dX8_doReverse_21 : decode cX8_doReverse 21 = .ok (.iload_n 1, 1) := by decide +kernel
theorem dX8_doReverse_22 : decode cX8_doReverse 22 = .ok (.iconst 1, 1) := by decide +kernel
theorem dX8_doReverse_23 : decode cX8_doReverse 23 = .ok (.isub, 1) := by decide +kernel
theorem dX8_doReverse_24 : decode cX8_doReverse 24 = .ok (.iload_n 2, 1) := by decide +kernel
theorem dX8_doReverse_25 : decode cX8_doReverse 25 = .ok (.isub, 1) := by decide +kernel
theorem dX8_doReverse_26 : decode cX8_doReverse 26 = .ok (.if_icmp .ge 22, 3) := by decide +kernel
theorem dX8_doReverse_29 : decode cX8_doReverse 29 = .ok (.aload_n 0, 1) := by decide +kernel
theorem dX8_doReverse_30 : decode cX8_doReverse 30 = .ok (.getfield 42, 3) := by decide +kernel
theorem dX8_doReverse_33 : decode cX8_doReverse 33 = .ok (.iload_n 2, 1) := by decide +kernel
theorem dX8_doReverse_34 : decode cX8_doReverse 34 = .ok (.iload_n 1, 1) := by decide +kernel
theorem dX8_doReverse_35 : decode cX8_doReverse 35 = .ok (.iconst 1, 1) := by decide +kernel
theorem dX8_doReverse_36 : decode cX8_doReverse 36 = .ok (.isub, 1) := by decide +kernel
theorem dX8_doReverse_37 : decode cX8_doReverse 37 = .ok (.iload_n 2, 1) := by decide +kernel
theorem dX8_doReverse_38 : decode cX8_doReverse 38 = .ok (.isub, 1) := by decide +kernel
theorem dX8_doReverse_39 : decode cX8_doReverse 39 = .ok (.invokevirtual 416, 3) := by decide +kernel
theorem dX8_doReverse_42 : decode cX8_doReverse 42 = .ok (.iinc 2 1, 3) := by decide +kernel
theorem dX8_doReverse_45 : decode cX8_doReverse 45 = .ok (.goto (-25), 3) := by decide +kernel
theorem dX8_doReverse_48 : decode cX8_doReverse 48 = .ok (.iconst 1, 1) := by decide +kernel
theorem dX8_doReverse_49 : decode cX8_doReverse 49 = .ok (.ireturn, 1) := by decide +kernel
theorem dX8_doSetBack_0 : decode cX8_doSetBack 0 = .ok (.aload_n 0, 1) := by decide +kernel
theorem dX8_doSetBack_1 : decode cX8_doSetBack 1 = .ok (.getfield 76, 3) := by decide +kernel
theorem dX8_doSetBack_4 : decode cX8_doSetBack 4 = .ok (.iconst 0, 1) := by decide +kernel
theorem dX8_doSetBack_5 : decode cX8_doSetBack 5 = .ok (.dup2, 1) := by decide +kernel
theorem dX8_doSetBack_6 : decode cX8_doSetBack 6 = .ok (.iaload, 1) := by decide +kernel
theorem dX8_doSetBack_7 : decode cX8_doSetBack 7 = .ok (.iconst 1, 1) := by decide +kernel
theorem dX8_doSetBack_8 : decode cX8_doSetBack 8 = .ok (.iadd, 1) := by decide +kernel
theorem dX8_doSetBack_9 : decode cX8_doSetBack 9 = .ok (.iastore, 1) := by decide +kernel
theorem dX8_doSetBack_10 : decode cX8_doSetBack 10 = .ok (.aload_n 0, 1) := by decide +kernel
theorem dX8_doSetBack_11 : decode cX8_doSetBack 11 = .ok (.getfield 42, 3) := by decide +kernel
theorem dX8_doSetBack_14 : decode cX8_doSetBack 14 = .ok (.iload_n 1, 1) := by decide +kernel
theorem dX8_doSetBack_15 : decode cX8_doSetBack 15 = .ok (.invokevirtual 209, 3) := by decide +kernel
theorem dX8_doSetBack_18 : decode cX8_doSetBack 18 = .ok (.iconst 1, 1) := by decide +kernel
theorem dX8_doSetBack_19 : decode cX8_doSetBack 19 = .ok (.ireturn, 1) := by decide +kernel
theorem dX8_doSort_0 : decode cX8_doSort 0 = .ok (.aload_n 0, 1) := by decide +kernel
theorem dX8_doSort_1 : decode cX8_doSort 1 = .ok (.getfield 76, 3) := by decide +kernel
theorem dX8_doSort_4 : decode cX8_doSort 4 = .ok (.iconst 0, 1) := by decide +kernel
theorem dX8_doSort_5 : decode cX8_doSort 5 = .ok (.dup2, 1) := by decide +kernel
theorem dX8_doSort_6 : decode cX8_doSort 6 = .ok (.iaload, 1) := by decide +kernel
theorem dX8_doSort_7 : decode cX8_doSort 7 = .ok (.iconst 1, 1) := by decide +kernel
theorem dX8_doSort_8 : decode cX8_doSort 8 = .ok (.iadd, 1) := by decide +kernel
theorem dX8_doSort_9 : decode cX8_doSort 9 = .ok (.iastore, 1) := by decide +kernel
theorem dX8_doSort_10 : decode cX8_doSort 10 = .ok (.aload_n 0, 1) := by decide +kernel
theorem dX8_doSort_11 : decode cX8_doSort 11 = .ok (.getfield 46, 3) := by decide +kernel
theorem dX8_doSort_14 : decode cX8_doSort 14 = .ok (.aload_n 0, 1) := by decide +kernel
theorem dX8_doSort_15 : decode cX8_doSort 15 = .ok (.getfield 42, 3) := by decide +kernel
theorem dX8_doSort_18 : decode cX8_doSort 18 = .ok (.invokevirtual 134, 3) := by decide +kernel
theorem dX8_doSort_21 : decode cX8_doSort 21 = .ok (.aload_n 0, 1) := by decide +kernel
theorem dX8_doSort_22 : decode cX8_doSort 22 = .ok (.getfield 42, 3) := by decide +kernel
theorem dX8_doSort_25 : decode cX8_doSort 25 = .ok (.aload_n 0, 1) := by decide +kernel
theorem dX8_doSort_26 : decode cX8_doSort 26 = .ok (.getfield 46, 3) := by decide +kernel
theorem dX8_doSort_29 : decode cX8_doSort 29 = .ok (.invokevirtual 476, 3) := by decide +kernel
theorem dX8_doSort_32 : decode cX8_doSort 32 = .ok (.ireturn, 1) := by decide +kernel
theorem dX8_doSwap_0 : decode cX8_doSwap 0 = .ok (.aload_n 0, 1) := by decide +kernel
theorem dX8_doSwap_1 : decode cX8_doSwap 1 = .ok (.getfield 42, 3) := by decide +kernel
theorem dX8_doSwap_4 : decode cX8_doSwap 4 = .ok (.iload_n 1, 1) := by decide +kernel
theorem dX8_doSwap_5 : decode cX8_doSwap 5 = .ok (.iconst 1, 1) := by decide +kernel
theorem dX8_doSwap_6 : decode cX8_doSwap 6 = .ok (.iadd, 1) := by decide +kernel
theorem dX8_doSwap_7 : decode cX8_doSwap 7 = .ok (.invokevirtual 331, 3) := by decide +kernel
theorem dX8_doSwap_10 : decode cX8_doSwap 10 = .ok (.ifCond .ne 9, 3) := by decide +kernel
theorem dX8_doSwap_13 : decode cX8_doSwap 13 = .ok (.aload_n 0, 1) := by decide +kernel
theorem dX8_doSwap_14 : decode cX8_doSwap 14 = .ok (.iconst 3, 1) := by decide +kernel
theorem dX8_doSwap_15 : decode cX8_doSwap 15 = .ok (.invokevirtual 467, 3) := by decide +kernel
theorem dX8_doSwap_18 : decode cX8_doSwap 18 = .ok (.ireturn, 1) := by decide +kernel
theorem dX8_doSwap_19 : decode cX8_doSwap 19 = .ok (.aload_n 0, 1) := by decide +kernel
theorem dX8_doSwap_20 : decode cX8_doSwap 20 = .ok (.getfield 76, 3) := by decide +kernel
theorem dX8_doSwap_23 : decode cX8_doSwap 23 = .ok (.iconst 0, 1) := by decide +kernel
theorem dX8_doSwap_24 : decode cX8_doSwap 24 = .ok (.dup2, 1) := by decide +kernel
theorem dX8_doSwap_25 : decode cX8_doSwap 25 = .ok (.iaload, 1) := by decide +kernel
theorem dX8_doSwap_26 : decode cX8_doSwap 26 = .ok (.iconst 1, 1) := by decide +kernel
theorem dX8_doSwap_27 : decode cX8_doSwap 27 = .ok (.iadd, 1) := by decide +kernel
theorem dX8_doSwap_28 : decode cX8_doSwap 28 = .ok (.iastore, 1) := by decide +kernel
theorem dX8_doSwap_29 : decode cX8_doSwap 29 = .ok (.aload_n 0, 1) := by decide +kernel
theorem dX8_doSwap_30 : decode cX8_doSwap 30 = .ok (.getfield 42, 3) := by decide +kernel
theorem dX8_doSwap_33 : decode cX8_doSwap 33 = .ok (.iload_n 1, 1) := by decide +kernel
theorem dX8_doSwap_34 : decode cX8_doSwap 34 = .ok (.iload_n 1, 1) := by decide +kernel
theorem dX8_doSwap_35 : decode cX8_doSwap 35 = .ok (.iconst 1, 1) := by decide +kernel
theorem dX8_doSwap_36 : decode cX8_doSwap 36 = .ok (.iadd, 1) := by decide +kernel
theorem dX8_doSwap_37 : decode cX8_doSwap 37 = .ok (.invokevirtual 416, 3) := by decide +kernel
theorem dX8_doSwap_40 : decode cX8_doSwap 40 = .ok (.iconst 1, 1) := by decide +kernel
theorem dX8_doSwap_41 : decode cX8_doSwap 41 = .ok (.ireturn, 1) := by decide +kernel
theorem dX8_doTurn_0 : decode cX8_doTurn 0 = .ok (.aload_n 0, 1) := by decide +kernel
theorem dX8_doTurn_1 : decode cX8_doTurn 1 = .ok (.getfield 76, 3) := by decide +kernel
theorem dX8_doTurn_4 : decode cX8_doTurn 4 = .ok (.iconst 0, 1) := by decide +kernel
theorem dX8_doTurn_5 : decode cX8_doTurn 5 = .ok (.dup2, 1) := by decide +kernel
theorem dX8_doTurn_6 : decode cX8_doTurn 6 = .ok (.iaload, 1) := by decide +kernel
theorem dX8_doTurn_7 : decode cX8_doTurn 7 = .ok (.iconst 1, 1) := by decide +kernel
theorem dX8_doTurn_8 : decode cX8_doTurn 8 = .ok (.iadd, 1) := by decide +kernel
theorem dX8_doTurn_9 : decode cX8_doTurn 9 = .ok (.iastore, 1) := by decide +kernel
theorem dX8_doTurn_10 : decode cX8_doTurn 10 = .ok (.aload_n 0, 1) := by decide +kernel
theorem dX8_doTurn_11 : decode cX8_doTurn 11 = .ok (.getfield 42, 3) := by decide +kernel
theorem dX8_doTurn_14 : decode cX8_doTurn 14 = .ok (.iload_n 1, 1) := by decide +kernel
theorem dX8_doTurn_15 : decode cX8_doTurn 15 = .ok (.invokevirtual 470, 3) := by decide +kernel
theorem dX8_doTurn_18 : decode cX8_doTurn 18 = .ok (.iconst 1, 1) := by decide +kernel
theorem dX8_doTurn_19 : decode cX8_doTurn 19 = .ok (.ireturn, 1) := by decide +kernel
theorem dX8_edge_0 : decode cX8_edge 0 = .ok (.aload_n 0, 1) := by decide +kernel
theorem dX8_edge_1 : decode cX8_edge 1 = .ok (.invokevirtual 366, 3) := by decide +kernel
theorem dX8_edge_4 : decode cX8_edge 4 = .ok (.iload_n 1, 1) := by decide +kernel
theorem dX8_edge_5 : decode cX8_edge 5 = .ok (.invokevirtual 373, 3) := by decide +kernel
theorem dX8_edge_8 : decode cX8_edge 8 = .ok (.ireturn, 1) := by decide +kernel
theorem dX8_endReading_0 : decode cX8_endReading 0 = .ok (.aload_n 0, 1) := by decide +kernel
