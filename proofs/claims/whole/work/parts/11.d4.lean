theorem dX9_undo_36 : decode cX9_undo 36 = .ok (.getfield 20, 3) := by decide +kernel
theorem dX9_undo_39 : decode cX9_undo 39 = .ok (.iconst 0, 1) := by decide +kernel
theorem dX9_undo_40 : decode cX9_undo 40 = .ok (.invokestatic 191, 3) := by decide +kernel
theorem dX9_undo_43 : decode cX9_undo 43 = .ok (.aload_n 0, 1) := by decide +kernel
theorem dX9_undo_44 : decode cX9_undo 44 = .ok (.getfield 48, 3) := by decide +kernel
theorem dX9_undo_47 : decode cX9_undo 47 = .ok (.bipush 11, 2) := by decide +kernel
theorem dX9_undo_49 : decode cX9_undo 49 = .ok (.aload_n 0, 1) := by decide +kernel
theorem dX9_undo_50 : decode cX9_undo 50 = .ok (.getfield 199, 3) := by decide +kernel
theorem dX9_undo_53 : decode cX9_undo 53 = .ok (.imul, 1) := by decide +kernel
theorem dX9_undo_54 : decode cX9_undo 54 = .ok (.aload_n 0, 1) := by decide +kernel
theorem dX9_undo_55 : decode cX9_undo 55 = .ok (.getfield 35, 3) := by decide +kernel
theorem dX9_undo_58 : decode cX9_undo 58 = .ok (.iconst 0, 1) := by decide +kernel
theorem dX9_undo_59 : decode cX9_undo 59 = .ok (.invokestatic 195, 3) := by decide +kernel
theorem dX9_undo_62 : decode cX9_undo 62 = .ok (.aload_n 0, 1) := by decide +kernel
theorem dX9_undo_63 : decode cX9_undo 63 = .ok (.getfield 51, 3) := by decide +kernel
theorem dX9_undo_66 : decode cX9_undo 66 = .ok (.iconst 4, 1) := by decide +kernel
theorem dX9_undo_67 : decode cX9_undo 67 = .ok (.dup2, 1) := by decide +kernel
theorem dX9_undo_68 : decode cX9_undo 68 = .ok (.iaload, 1) := by decide +kernel
theorem dX9_undo_69 : decode cX9_undo 69 = .ok (.iconst 1, 1) := by decide +kernel
theorem dX9_undo_70 : decode cX9_undo 70 = .ok (.iadd, 1) := by decide +kernel
theorem dX9_undo_71 : decode cX9_undo 71 = .ok (.iastore, 1) := by decide +kernel
theorem dX9_undo_72 : decode cX9_undo 72 = .ok (.aload_n 0, 1) := by decide +kernel
theorem dX9_undo_73 : decode cX9_undo 73 = .ok (.getfield 199, 3) := by decide +kernel
theorem dX9_undo_76 : decode cX9_undo 76 = .ok (.ireturn, 1) := by decide +kernel
theorem dX9_walks_0 : decode cX9_walks 0 = .ok (.iconst 0, 1) := by decide +kernel
theorem dX9_walks_1 : decode cX9_walks 1 = .ok (.istore_n 2, 1) := by decide +kernel
theorem dX9_walks_2 : decode cX9_walks 2 = .ok (.iload_n 2, 1) := by decide +kernel
theorem dX9_walks_3 : decode cX9_walks 3 = .ok (.aload_n 0, 1) := by decide +kernel
theorem dX9_walks_4 : decode cX9_walks 4 = .ok (.invokevirtual 214, 3) := by decide +kernel
theorem dX9_walks_7 : decode cX9_walks 7 = .ok (.if_icmp .ge 19, 3) := by decide +kernel
theorem dX9_walks_10 : decode cX9_walks 10 = .ok (.aload_n 0, 1) := by decide +kernel
theorem dX9_walks_11 : decode cX9_walks 11 = .ok (.getfield 78, 3) := by decide +kernel
theorem dX9_walks_14 : decode cX9_walks 14 = .ok (.iload_n 2, 1) := by decide +kernel
theorem dX9_walks_15 : decode cX9_walks 15 = .ok (.aload_n 0, 1) := by decide +kernel
theorem dX9_walks_16 : decode cX9_walks 16 = .ok (.invokevirtual 214, 3) := by decide +kernel
theorem dX9_walks_19 : decode cX9_walks 19 = .ok (.iastore, 1) := by decide +kernel
theorem dX9_walks_20 : decode cX9_walks 20 = .ok (.iinc 2 1, 3) := by decide +kernel
theorem dX9_walks_23 : decode cX9_walks 23 = .ok (.goto (-21), 3) := by decide +kernel
theorem dX9_walks_26 : decode cX9_walks 26 = .ok (.aload_n 0, 1) := by decide +kernel
theorem dX9_walks_27 : decode cX9_walks 27 = .ok (.getfield 78, 3) := by decide +kernel
theorem dX9_walks_30 : decode cX9_walks 30 = .ok (.iload_n 1, 1) := by decide +kernel
theorem dX9_walks_31 : decode cX9_walks 31 = .ok (.iconst 0, 1) := by decide +kernel
theorem dX9_walks_32 : decode cX9_walks 32 = .ok (.iastore, 1) := by decide +kernel
theorem dX9_walks_33 : decode cX9_walks 33 = .ok (.iconst 0, 1) := by decide +kernel
theorem dX9_walks_34 : decode cX9_walks 34 = .ok (.istore_n 2, 1) := by decide +kernel
theorem dX9_walks_35 : decode cX9_walks 35 = .ok (.iload_n 2, 1) := by decide +kernel
theorem dX9_walks_36 : decode cX9_walks 36 = .ok (.aload_n 0, 1) := by decide +kernel
theorem dX9_walks_37 : decode cX9_walks 37 = .ok (.invokevirtual 214, 3) := by decide +kernel
theorem dX9_walks_40 : decode cX9_walks 40 = .ok (.if_icmp .ge 101, 3) := by decide +kernel
theorem dX9_walks_43 : decode cX9_walks 43 = .ok (.iconst 0, 1) := by decide +kernel
theorem dX9_walks_44 : decode cX9_walks 44 = .ok (.istore_n 3, 1) := by decide +kernel
theorem dX9_walks_45 : decode cX9_walks 45 = .ok (.iload_n 3, 1) := by decide +kernel
theorem dX9_walks_46 : decode cX9_walks 46 = .ok (.aload_n 0, 1) := by decide +kernel
theorem dX9_walks_47 : decode cX9_walks 47 = .ok (.getfield 363, 3) := by decide +kernel
theorem dX9_walks_50 : decode cX9_walks 50 = .ok (.if_icmp .ge 85, 3) := by decide +kernel
theorem dX9_walks_53 : decode cX9_walks 53 = .ok (.aload_n 0, 1) := by decide +kernel
theorem dX9_walks_54 : decode cX9_walks 54 = .ok (.getfield 78, 3) := by decide +kernel
theorem dX9_walks_57 : decode cX9_walks 57 = .ok (.aload_n 0, 1) := by decide +kernel
theorem dX9_walks_58 : decode cX9_walks 58 = .ok (.getfield 72, 3) := by decide +kernel
theorem dX9_walks_61 : decode cX9_walks 61 = .ok (.iload_n 3, 1) := by decide +kernel
theorem dX9_walks_62 : decode cX9_walks 62 = .ok (.iaload, 1) := by decide +kernel
theorem dX9_walks_63 : decode cX9_walks 63 = .ok (.aload_n 0, 1) := by decide +kernel
theorem dX9_walks_64 : decode cX9_walks 64 = .ok (.getfield 78, 3) := by decide +kernel
theorem dX9_walks_67 : decode cX9_walks 67 = .ok (.aload_n 0, 1) := by decide +kernel
theorem dX9_walks_68 : decode cX9_walks 68 = .ok (.getfield 72, 3) := by decide +kernel
theorem dX9_walks_71 : decode cX9_walks 71 = .ok (.iload_n 3, 1) := by decide +kernel
theorem dX9_walks_72 : decode cX9_walks 72 = .ok (.iaload, 1) := by decide +kernel
theorem dX9_walks_73 : decode cX9_walks 73 = .ok (.iaload, 1) := by decide +kernel
theorem dX9_walks_74 : decode cX9_walks 74 = .ok (.aload_n 0, 1) := by decide +kernel
theorem dX9_walks_75 : decode cX9_walks 75 = .ok (.getfield 78, 3) := by decide +kernel
theorem dX9_walks_78 : decode cX9_walks 78 = .ok (.aload_n 0, 1) := by decide +kernel
theorem dX9_walks_79 : decode cX9_walks 79 = .ok (.getfield 75, 3) := by decide +kernel
theorem dX9_walks_82 : decode cX9_walks 82 = .ok (.iload_n 3, 1) := by decide +kernel
theorem dX9_walks_83 : decode cX9_walks 83 = .ok (.iaload, 1) := by decide +kernel
theorem dX9_walks_84 : decode cX9_walks 84 = .ok (.iaload, 1) := by decide +kernel
theorem dX9_walks_85 : decode cX9_walks 85 = .ok (.iconst 1, 1) := by decide +kernel
theorem dX9_walks_86 : decode cX9_walks 86 = .ok (.iadd, 1) := by decide +kernel
theorem dX9_walks_87 : decode cX9_walks 87 = .ok (.invokestatic 366, 3) := by decide +kernel
theorem dX9_walks_90 : decode cX9_walks 90 = .ok (.iastore, 1) := by decide +kernel
theorem dX9_walks_91 : decode cX9_walks 91 = .ok (.aload_n 0, 1) := by decide +kernel
theorem dX9_walks_92 : decode cX9_walks 92 = .ok (.getfield 78, 3) := by decide +kernel
theorem dX9_walks_95 : decode cX9_walks 95 = .ok (.aload_n 0, 1) := by decide +kernel
theorem dX9_walks_96 : decode cX9_walks 96 = .ok (.getfield 75, 3) := by decide +kernel
theorem dX9_walks_99 : decode cX9_walks 99 = .ok (.iload_n 3, 1) := by decide +kernel
theorem dX9_walks_100 : decode cX9_walks 100 = .ok (.iaload, 1) := by decide +kernel
theorem dX9_walks_101 : decode cX9_walks 101 = .ok (.aload_n 0, 1) := by decide +kernel
theorem dX9_walks_102 : decode cX9_walks 102 = .ok (.getfield 78, 3) := by decide +kernel
theorem dX9_walks_105 : decode cX9_walks 105 = .ok (.aload_n 0, 1) := by decide +kernel
theorem dX9_walks_106 : decode cX9_walks 106 = .ok (.getfield 75, 3) := by decide +kernel
theorem dX9_walks_109 : decode cX9_walks 109 = .ok (.iload_n 3, 1) := by decide +kernel
theorem dX9_walks_110 : decode cX9_walks 110 = .ok (.iaload, 1) := by decide +kernel
theorem dX9_walks_111 : decode cX9_walks 111 = .ok (.iaload, 1) := by decide +kernel
theorem dX9_walks_112 : decode cX9_walks 112 = .ok (.aload_n 0, 1) := by decide +kernel
theorem dX9_walks_113 : decode cX9_walks 113 = .ok (.getfield 78, 3) := by decide +kernel
theorem dX9_walks_116 : decode cX9_walks 116 = .ok (.aload_n 0, 1) := by decide +kernel
theorem dX9_walks_117 : decode cX9_walks 117 = .ok (.getfield 72, 3) := by decide +kernel
theorem dX9_walks_120 : decode cX9_walks 120 = .ok (.iload_n 3, 1) := by decide +kernel
theorem dX9_walks_121 : decode cX9_walks 121 = .ok (.iaload, 1) := by decide +kernel
theorem dX9_walks_122 : decode cX9_walks 122 = .ok (.iaload, 1) := by decide +kernel
theorem dX9_walks_123 : decode cX9_walks 123 = .ok (.iconst 1, 1) := by decide +kernel
theorem dX9_walks_124 : decode cX9_walks 124 = .ok (.iadd, 1) := by decide +kernel
theorem dX9_walks_125 : decode cX9_walks 125 = .ok (.invokestatic 366, 3) := by decide +kernel
theorem dX9_walks_128 : decode cX9_walks 128 = .ok (.iastore, 1) := by decide +kernel
theorem dX9_walks_129 : decode cX9_walks 129 = .ok (.iinc 3 1, 3) := by decide +kernel
theorem dX9_walks_132 : decode cX9_walks 132 = .ok (.goto (-87), 3) := by decide +kernel
theorem dX9_walks_135 : decode cX9_walks 135 = .ok (.iinc 2 1, 3) := by decide +kernel
theorem dX9_walks_138 : decode cX9_walks 138 = .ok (.goto (-103), 3) := by decide +kernel
theorem dX9_walks_141 : decode cX9_walks 141 = .ok (.return_, 1) := by decide +kernel
theorem dX9_wanted_0 : decode cX9_wanted 0 = .ok (.aload_n 0, 1) := by decide +kernel
theorem dX9_wanted_1 : decode cX9_wanted 1 = .ok (.aload_n 0, 1) := by decide +kernel
theorem dX9_wanted_2 : decode cX9_wanted 2 = .ok (.iload_n 1, 1) := by decide +kernel
theorem dX9_wanted_3 : decode cX9_wanted 3 = .ok (.invokevirtual 341, 3) := by decide +kernel
theorem dX9_wanted_6 : decode cX9_wanted 6 = .ok (.invokevirtual 122, 3) := by decide +kernel
theorem dX9_wanted_9 : decode cX9_wanted 9 = .ok (.ifCond .eq 11, 3) := by decide +kernel
theorem dX9_wanted_12 : decode cX9_wanted 12 = .ok (.aload_n 0, 1) := by decide +kernel
theorem dX9_wanted_13 : decode cX9_wanted 13 = .ok (.iload_n 1, 1) := by decide +kernel
theorem dX9_wanted_14 : decode cX9_wanted 14 = .ok (.invokevirtual 248, 3) := by decide +kernel
theorem dX9_wanted_17 : decode cX9_wanted 17 = .ok (.goto 4, 3) := by decide +kernel
theorem dX9_wanted_20 : decode cX9_wanted 20 = .ok (.iconst 0, 1) := by decide +kernel
theorem dX9_wanted_21 : decode cX9_wanted 21 = .ok (.ireturn, 1) := by decide +kernel
theorem dX9_wants_0 : decode cX9_wants 0 = .ok (.iconst 0, 1) := by decide +kernel
theorem dX9_wants_1 : decode cX9_wants 1 = .ok (.istore_n 2, 1) := by decide +kernel
theorem dX9_wants_2 : decode cX9_wants 2 = .ok (.iconst 0, 1) := by decide +kernel
theorem dX9_wants_3 : decode cX9_wants 3 = .ok (.istore_n 3, 1) := by decide +kernel
theorem dX9_wants_4 : decode cX9_wants 4 = .ok (.iload_n 3, 1) := by decide +kernel
theorem dX9_wants_5 : decode cX9_wants 5 = .ok (.aload_n 0, 1) := by decide +kernel
theorem dX9_wants_6 : decode cX9_wants 6 = .ok (.getfield 20, 3) := by decide +kernel
theorem dX9_wants_9 : decode cX9_wants 9 = .ok (.iconst 0, 1) := by decide +kernel
theorem dX9_wants_10 : decode cX9_wants 10 = .ok (.iaload, 1) := by decide +kernel
theorem dX9_wants_11 : decode cX9_wants 11 = .ok (.if_icmp .ge 29, 3) := by decide +kernel
theorem dX9_wants_14 : decode cX9_wants 14 = .ok (.iload_n 2, 1) := by decide +kernel
theorem dX9_wants_15 : decode cX9_wants 15 = .ok (.aload_n 0, 1) := by decide +kernel
theorem dX9_wants_16 : decode cX9_wants 16 = .ok (.iload_n 3, 1) := by decide +kernel
theorem dX9_wants_17 : decode cX9_wants 17 = .ok (.invokevirtual 221, 3) := by decide +kernel
theorem dX9_wants_20 : decode cX9_wants 20 = .ok (.iload_n 1, 1) := by decide +kernel
theorem dX9_wants_21 : decode cX9_wants 21 = .ok (.if_icmp .ne 7, 3) := by decide +kernel
theorem dX9_wants_24 : decode cX9_wants 24 = .ok (.iconst 1, 1) := by decide +kernel
theorem dX9_wants_25 : decode cX9_wants 25 = .ok (.goto 4, 3) := by decide +kernel
theorem dX9_wants_28 : decode cX9_wants 28 = .ok (.iconst 0, 1) := by decide +kernel
theorem dX9_wants_29 : decode cX9_wants 29 = .ok (.invokestatic 115, 3) := by decide +kernel
theorem dX9_wants_32 : decode cX9_wants 32 = .ok (.iadd, 1) := by decide +kernel
theorem dX9_wants_33 : decode cX9_wants 33 = .ok (.istore_n 2, 1) := by decide +kernel
theorem dX9_wants_34 : decode cX9_wants 34 = .ok (.iinc 3 1, 3) := by decide +kernel
theorem dX9_wants_37 : decode cX9_wants 37 = .ok (.goto (-33), 3) := by decide +kernel
theorem dX9_wants_40 : decode cX9_wants 40 = .ok (.iload_n 2, 1) := by decide +kernel
theorem dX9_wants_41 : decode cX9_wants 41 = .ok (.ireturn, 1) := by decide +kernel
theorem dX9_way_0 : decode cX9_way 0 = .ok (.iconst 0, 1) := by decide +kernel
theorem dX9_way_1 : decode cX9_way 1 = .ok (.istore_n 1, 1) := by decide +kernel
theorem dX9_way_2 : decode cX9_way 2 = .ok (.iconst 0, 1) := by decide +kernel
theorem dX9_way_3 : decode cX9_way 3 = .ok (.istore_n 2, 1) := by decide +kernel
theorem dX9_way_4 : decode cX9_way 4 = .ok (.iload_n 2, 1) := by decide +kernel
theorem dX9_way_5 : decode cX9_way 5 = .ok (.aload_n 0, 1) := by decide +kernel
theorem dX9_way_6 : decode cX9_way 6 = .ok (.getfield 20, 3) := by decide +kernel
theorem dX9_way_9 : decode cX9_way 9 = .ok (.iconst 0, 1) := by decide +kernel
theorem dX9_way_10 : decode cX9_way 10 = .ok (.iaload, 1) := by decide +kernel
theorem dX9_way_11 : decode cX9_way 11 = .ok (.if_icmp .ge 21, 3) := by decide +kernel
theorem dX9_way_14 : decode cX9_way 14 = .ok (.iload_n 1, 1) := by decide +kernel
theorem dX9_way_15 : decode cX9_way 15 = .ok (.aload_n 0, 1) := by decide +kernel
theorem dX9_way_16 : decode cX9_way 16 = .ok (.getfield 60, 3) := by decide +kernel
theorem dX9_way_19 : decode cX9_way 19 = .ok (.iload_n 2, 1) := by decide +kernel
theorem dX9_way_20 : decode cX9_way 20 = .ok (.iaload, 1) := by decide +kernel
theorem dX9_way_21 : decode cX9_way 21 = .ok (.invokestatic 242, 3) := by decide +kernel
theorem dX9_way_24 : decode cX9_way 24 = .ok (.iadd, 1) := by decide +kernel
theorem dX9_way_25 : decode cX9_way 25 = .ok (.istore_n 1, 1) := by decide +kernel
theorem dX9_way_26 : decode cX9_way 26 = .ok (.iinc 2 1, 3) := by decide +kernel
theorem dX9_way_29 : decode cX9_way 29 = .ok (.goto (-25), 3) := by decide +kernel
theorem dX9_way_32 : decode cX9_way 32 = .ok (.iload_n 1, 1) := by decide +kernel
theorem dX9_way_33 : decode cX9_way 33 = .ok (.ireturn, 1) := by decide +kernel
theorem dX9_wayBy_0 : decode cX9_wayBy 0 = .ok (.aload_n 0, 1) := by decide +kernel
theorem dX9_wayBy_1 : decode cX9_wayBy 1 = .ok (.iload_n 1, 1) := by decide +kernel
theorem dX9_wayBy_2 : decode cX9_wayBy 2 = .ok (.invokestatic 415, 3) := by decide +kernel
theorem dX9_wayBy_5 : decode cX9_wayBy 5 = .ok (.invokevirtual 122, 3) := by decide +kernel
theorem dX9_wayBy_8 : decode cX9_wayBy 8 = .ok (.ifCond .eq 11, 3) := by decide +kernel
theorem dX9_wayBy_11 : decode cX9_wayBy 11 = .ok (.aload_n 0, 1) := by decide +kernel
theorem dX9_wayBy_12 : decode cX9_wayBy 12 = .ok (.iload_n 1, 1) := by decide +kernel
theorem dX9_wayBy_13 : decode cX9_wayBy 13 = .ok (.invokevirtual 418, 3) := by decide +kernel
theorem dX9_wayBy_16 : decode cX9_wayBy 16 = .ok (.goto 4, 3) := by decide +kernel
theorem dX9_wayBy_19 : decode cX9_wayBy 19 = .ok (.iconst 0, 1) := by decide +kernel
theorem dX9_wayBy_20 : decode cX9_wayBy 20 = .ok (.ireturn, 1) := by decide +kernel
theorem dX9_wayWith_0 : decode cX9_wayWith 0 = .ok (.aload_n 0, 1) := by decide +kernel
theorem dX9_wayWith_1 : decode cX9_wayWith 1 = .ok (.invokevirtual 403, 3) := by decide +kernel
theorem dX9_wayWith_4 : decode cX9_wayWith 4 = .ok (.aload_n 0, 1) := by decide +kernel
theorem dX9_wayWith_5 : decode cX9_wayWith 5 = .ok (.getfield 20, 3) := by decide +kernel
theorem dX9_wayWith_8 : decode cX9_wayWith 8 = .ok (.iconst 1, 1) := by decide +kernel
theorem dX9_wayWith_9 : decode cX9_wayWith 9 = .ok (.iload_n 1, 1) := by decide +kernel
theorem dX9_wayWith_10 : decode cX9_wayWith 10 = .ok (.iastore, 1) := by decide +kernel
theorem dX9_wayWith_11 : decode cX9_wayWith 11 = .ok (.aload_n 0, 1) := by decide +kernel
theorem dX9_wayWith_12 : decode cX9_wayWith 12 = .ok (.aload_n 0, 1) := by decide +kernel
theorem dX9_wayWith_13 : decode cX9_wayWith 13 = .ok (.getfield 20, 3) := by decide +kernel
theorem dX9_wayWith_16 : decode cX9_wayWith 16 = .ok (.iconst 0, 1) := by decide +kernel
theorem dX9_wayWith_17 : decode cX9_wayWith 17 = .ok (.iaload, 1) := by decide +kernel
theorem dX9_wayWith_18 : decode cX9_wayWith 18 = .ok (.invokevirtual 230, 3) := by decide +kernel
theorem dX9_wayWith_21 : decode cX9_wayWith 21 = .ok (.aload_n 0, 1) := by decide +kernel
theorem dX9_wayWith_22 : decode cX9_wayWith 22 = .ok (.aload_n 0, 1) := by decide +kernel
theorem dX9_wayWith_23 : decode cX9_wayWith 23 = .ok (.invokevirtual 303, 3) := by decide +kernel
theorem dX9_wayWith_26 : decode cX9_wayWith 26 = .ok (.invokevirtual 406, 3) := by decide +kernel
theorem dX9_wayWith_29 : decode cX9_wayWith 29 = .ok (.ireturn, 1) := by decide +kernel
theorem dX9_who_0 : decode cX9_who 0 = .ok (.aload_n 0, 1) := by decide +kernel
theorem dX9_who_1 : decode cX9_who 1 = .ok (.aload_n 0, 1) := by decide +kernel
theorem dX9_who_2 : decode cX9_who 2 = .ok (.iload_n 1, 1) := by decide +kernel
theorem dX9_who_3 : decode cX9_who 3 = .ok (.invokevirtual 341, 3) := by decide +kernel
theorem dX9_who_6 : decode cX9_who 6 = .ok (.invokevirtual 122, 3) := by decide +kernel
theorem dX9_who_9 : decode cX9_who 9 = .ok (.ifCond .ne 5, 3) := by decide +kernel
theorem dX9_who_12 : decode cX9_who 12 = .ok (.iconst 0, 1) := by decide +kernel
theorem dX9_who_13 : decode cX9_who 13 = .ok (.ireturn, 1) := by decide +kernel
theorem dX9_who_14 : decode cX9_who 14 = .ok (.aload_n 0, 1) := by decide +kernel
theorem dX9_who_15 : decode cX9_who 15 = .ok (.aload_n 0, 1) := by decide +kernel
theorem dX9_who_16 : decode cX9_who 16 = .ok (.getfield 20, 3) := by decide +kernel
theorem dX9_who_19 : decode cX9_who 19 = .ok (.iconst 0, 1) := by decide +kernel
theorem dX9_who_20 : decode cX9_who 20 = .ok (.iaload, 1) := by decide +kernel
theorem dX9_who_21 : decode cX9_who 21 = .ok (.invokevirtual 230, 3) := by decide +kernel
theorem dX9_who_24 : decode cX9_who 24 = .ok (.aload_n 0, 1) := by decide +kernel
theorem dX9_who_25 : decode cX9_who 25 = .ok (.getfield 54, 3) := by decide +kernel
theorem dX9_who_28 : decode cX9_who 28 = .ok (.iload_n 1, 1) := by decide +kernel
theorem dX9_who_29 : decode cX9_who 29 = .ok (.iaload, 1) := by decide +kernel
theorem dX9_who_30 : decode cX9_who 30 = .ok (.ireturn, 1) := by decide +kernel
theorem dX9_whoAfter_0 : decode cX9_whoAfter 0 = .ok (.aload_n 0, 1) := by decide +kernel
theorem dX9_whoAfter_1 : decode cX9_whoAfter 1 = .ok (.aload_n 0, 1) := by decide +kernel
theorem dX9_whoAfter_2 : decode cX9_whoAfter 2 = .ok (.iload_n 2, 1) := by decide +kernel
theorem dX9_whoAfter_3 : decode cX9_whoAfter 3 = .ok (.invokevirtual 341, 3) := by decide +kernel
theorem dX9_whoAfter_6 : decode cX9_whoAfter 6 = .ok (.aload_n 0, 1) := by decide +kernel
theorem dX9_whoAfter_7 : decode cX9_whoAfter 7 = .ok (.iload_n 1, 1) := by decide +kernel
theorem dX9_whoAfter_8 : decode cX9_whoAfter 8 = .ok (.invokevirtual 353, 3) := by decide +kernel
theorem dX9_whoAfter_11 : decode cX9_whoAfter 11 = .ok (.invokevirtual 334, 3) := by decide +kernel
theorem dX9_whoAfter_14 : decode cX9_whoAfter 14 = .ok (.ifCond .ne 5, 3) := by decide +kernel
theorem dX9_whoAfter_17 : decode cX9_whoAfter 17 = .ok (.iconst 0, 1) := by decide +kernel
theorem dX9_whoAfter_18 : decode cX9_whoAfter 18 = .ok (.ireturn, 1) := by decide +kernel
theorem dX9_whoAfter_19 : decode cX9_whoAfter 19 = .ok (.aload_n 0, 1) := by decide +kernel
theorem dX9_whoAfter_20 : decode cX9_whoAfter 20 = .ok (.iload_n 1, 1) := by decide +kernel
theorem dX9_whoAfter_21 : decode cX9_whoAfter 21 = .ok (.invokevirtual 230, 3) := by decide +kernel
theorem dX9_whoAfter_24 : decode cX9_whoAfter 24 = .ok (.aload_n 0, 1) := by decide +kernel
theorem dX9_whoAfter_25 : decode cX9_whoAfter 25 = .ok (.getfield 54, 3) := by decide +kernel
theorem dX9_whoAfter_28 : decode cX9_whoAfter 28 = .ok (.iload_n 2, 1) := by decide +kernel
theorem dX9_whoAfter_29 : decode cX9_whoAfter 29 = .ok (.iaload, 1) := by decide +kernel
theorem dX9_whoAfter_30 : decode cX9_whoAfter 30 = .ok (.ireturn, 1) := by decide +kernel
theorem dX9_whyNoCar_0 : decode cX9_whyNoCar 0 = .ok (.aload_n 0, 1) := by decide +kernel
theorem dX9_whyNoCar_1 : decode cX9_whyNoCar 1 = .ok (.getfield 20, 3) := by decide +kernel
theorem dX9_whyNoCar_4 : decode cX9_whyNoCar 4 = .ok (.iconst 0, 1) := by decide +kernel
theorem dX9_whyNoCar_5 : decode cX9_whyNoCar 5 = .ok (.iaload, 1) := by decide +kernel
theorem dX9_whyNoCar_6 : decode cX9_whyNoCar 6 = .ok (.bipush 11, 2) := by decide +kernel
theorem dX9_whyNoCar_8 : decode cX9_whyNoCar 8 = .ok (.if_icmp .ne 5, 3) := by decide +kernel
theorem dX9_whyNoCar_11 : decode cX9_whyNoCar 11 = .ok (.iconst 1, 1) := by decide +kernel
theorem dX9_whyNoCar_12 : decode cX9_whyNoCar 12 = .ok (.ireturn, 1) := by decide +kernel
theorem dX9_whyNoCar_13 : decode cX9_whyNoCar 13 = .ok (.lload_n 1, 1) := by decide +kernel
theorem dX9_whyNoCar_14 : decode cX9_whyNoCar 14 = .ok (.lconst 0, 1) := by decide +kernel
theorem dX9_whyNoCar_15 : decode cX9_whyNoCar 15 = .ok (.lcmp, 1) := by decide +kernel
theorem dX9_whyNoCar_16 : decode cX9_whyNoCar 16 = .ok (.ifCond .eq 12, 3) := by decide +kernel
theorem dX9_whyNoCar_19 : decode cX9_whyNoCar 19 = .ok (.aload_n 0, 1) := by decide +kernel
theorem dX9_whyNoCar_20 : decode cX9_whyNoCar 20 = .ok (.lload_n 1, 1) := by decide +kernel
theorem dX9_whyNoCar_21 : decode cX9_whyNoCar 21 = .ok (.invokevirtual 260, 3) := by decide +kernel
theorem dX9_whyNoCar_24 : decode cX9_whyNoCar 24 = .ok (.iconst (-1), 1) := by decide +kernel
theorem dX9_whyNoCar_25 : decode cX9_whyNoCar 25 = .ok (.if_icmp .eq 7, 3) := by decide +kernel
theorem dX9_whyNoCar_28 : decode cX9_whyNoCar 28 = .ok (.iconst 2, 1) := by decide +kernel
theorem dX9_whyNoCar_29 : decode cX9_whyNoCar 29 = .ok (.goto 4, 3) := by decide +kernel
theorem dX9_whyNoCar_32 : decode cX9_whyNoCar 32 = .ok (.iconst 0, 1) := by decide +kernel
theorem dX9_whyNoCar_33 : decode cX9_whyNoCar 33 = .ok (.ireturn, 1) := by decide +kernel
theorem dX9_whyNoGo_0 : decode cX9_whyNoGo 0 = .ok (.iconst 0, 1) := by decide +kernel
theorem dX9_whyNoGo_1 : decode cX9_whyNoGo 1 = .ok (.istore_n 2, 1) := by decide +kernel
theorem dX9_whyNoGo_2 : decode cX9_whyNoGo 2 = .ok (.iload_n 2, 1) := by decide +kernel
theorem dX9_whyNoGo_3 : decode cX9_whyNoGo 3 = .ok (.aload_n 0, 1) := by decide +kernel
theorem dX9_whyNoGo_4 : decode cX9_whyNoGo 4 = .ok (.getfield 20, 3) := by decide +kernel
theorem dX9_whyNoGo_7 : decode cX9_whyNoGo 7 = .ok (.iconst 0, 1) := by decide +kernel
theorem dX9_whyNoGo_8 : decode cX9_whyNoGo 8 = .ok (.iaload, 1) := by decide +kernel
theorem dX9_whyNoGo_9 : decode cX9_whyNoGo 9 = .ok (.if_icmp .ge 30, 3) := by decide +kernel
theorem dX9_whyNoGo_12 : decode cX9_whyNoGo 12 = .ok (.iload_n 2, 1) := by decide +kernel
theorem dX9_whyNoGo_13 : decode cX9_whyNoGo 13 = .ok (.iload_n 1, 1) := by decide +kernel
theorem dX9_whyNoGo_14 : decode cX9_whyNoGo 14 = .ok (.if_icmp .eq 19, 3) := by decide +kernel
theorem dX9_whyNoGo_17 : decode cX9_whyNoGo 17 = .ok (.aload_n 0, 1) := by decide +kernel
theorem dX9_whyNoGo_18 : decode cX9_whyNoGo 18 = .ok (.iload_n 2, 1) := by decide +kernel
theorem dX9_whyNoGo_19 : decode cX9_whyNoGo 19 = .ok (.invokevirtual 221, 3) := by decide +kernel
theorem dX9_whyNoGo_22 : decode cX9_whyNoGo 22 = .ok (.aload_n 0, 1) := by decide +kernel
theorem dX9_whyNoGo_23 : decode cX9_whyNoGo 23 = .ok (.getfield 20, 3) := by decide +kernel
theorem dX9_whyNoGo_26 : decode cX9_whyNoGo 26 = .ok (.iconst 0, 1) := by decide +kernel
theorem dX9_whyNoGo_27 : decode cX9_whyNoGo 27 = .ok (.iaload, 1) := by decide +kernel
theorem dX9_whyNoGo_28 : decode cX9_whyNoGo 28 = .ok (.if_icmp .ne 5, 3) := by decide +kernel
theorem dX9_whyNoGo_31 : decode cX9_whyNoGo 31 = .ok (.iconst 4, 1) := by decide +kernel
theorem dX9_whyNoGo_32 : decode cX9_whyNoGo 32 = .ok (.ireturn, 1) := by decide +kernel
theorem dX9_whyNoGo_33 : decode cX9_whyNoGo 33 = .ok (.iinc 2 1, 3) := by decide +kernel
theorem dX9_whyNoGo_36 : decode cX9_whyNoGo 36 = .ok (.goto (-34), 3) := by decide +kernel
theorem dX9_whyNoGo_39 : decode cX9_whyNoGo 39 = .ok (.iconst 0, 1) := by decide +kernel
theorem dX9_whyNoGo_40 : decode cX9_whyNoGo 40 = .ok (.ireturn, 1) := by decide +kernel
theorem dX9_whyNoSwap_0 : decode cX9_whyNoSwap 0 = .ok (.iload_n 1, 1) := by decide +kernel
theorem dX9_whyNoSwap_1 : decode cX9_whyNoSwap 1 = .ok (.aload_n 0, 1) := by decide +kernel
theorem dX9_whyNoSwap_2 : decode cX9_whyNoSwap 2 = .ok (.getfield 20, 3) := by decide +kernel
theorem dX9_whyNoSwap_5 : decode cX9_whyNoSwap 5 = .ok (.iconst 0, 1) := by decide +kernel
theorem dX9_whyNoSwap_6 : decode cX9_whyNoSwap 6 = .ok (.iaload, 1) := by decide +kernel
theorem dX9_whyNoSwap_7 : decode cX9_whyNoSwap 7 = .ok (.iconst 1, 1) := by decide +kernel
theorem dX9_whyNoSwap_8 : decode cX9_whyNoSwap 8 = .ok (.isub, 1) := by decide +kernel
theorem dX9_whyNoSwap_9 : decode cX9_whyNoSwap 9 = .ok (.if_icmp .ne 7, 3) := by decide +kernel
theorem dX9_whyNoSwap_12 : decode cX9_whyNoSwap 12 = .ok (.iconst 3, 1) := by decide +kernel
theorem dX9_whyNoSwap_13 : decode cX9_whyNoSwap 13 = .ok (.goto 4, 3) := by decide +kernel
theorem dX9_whyNoSwap_16 : decode cX9_whyNoSwap 16 = .ok (.iconst 0, 1) := by decide +kernel
theorem dX9_whyNoSwap_17 : decode cX9_whyNoSwap 17 = .ok (.ireturn, 1) := by decide +kernel
theorem dX9_wide_0 : decode cX9_wide 0 = .ok (.aload_n 0, 1) := by decide +kernel
theorem dX9_wide_1 : decode cX9_wide 1 = .ok (.iconst 0, 1) := by decide +kernel
theorem dX9_wide_2 : decode cX9_wide 2 = .ok (.putfield 112, 3) := by decide +kernel
theorem dX9_wide_5 : decode cX9_wide 5 = .ok (.aload_n 0, 1) := by decide +kernel
theorem dX9_wide_6 : decode cX9_wide 6 = .ok (.invokevirtual 382, 3) := by decide +kernel
theorem dX9_wide_9 : decode cX9_wide 9 = .ok (.iconst 0, 1) := by decide +kernel
theorem dX9_wide_10 : decode cX9_wide 10 = .ok (.istore_n 1, 1) := by decide +kernel
theorem dX9_wide_11 : decode cX9_wide 11 = .ok (.iconst 0, 1) := by decide +kernel
theorem dX9_wide_12 : decode cX9_wide 12 = .ok (.istore_n 2, 1) := by decide +kernel
theorem dX9_wide_13 : decode cX9_wide 13 = .ok (.iload_n 2, 1) := by decide +kernel
theorem dX9_wide_14 : decode cX9_wide 14 = .ok (.aload_n 0, 1) := by decide +kernel
theorem dX9_wide_15 : decode cX9_wide 15 = .ok (.invokevirtual 214, 3) := by decide +kernel
theorem dX9_wide_18 : decode cX9_wide 18 = .ok (.if_icmp .ge 47, 3) := by decide +kernel
theorem dX9_wide_21 : decode cX9_wide 21 = .ok (.aload_n 0, 1) := by decide +kernel
theorem dX9_wide_22 : decode cX9_wide 22 = .ok (.iload_n 2, 1) := by decide +kernel
theorem dX9_wide_23 : decode cX9_wide 23 = .ok (.invokevirtual 391, 3) := by decide +kernel
theorem dX9_wide_26 : decode cX9_wide 26 = .ok (.iconst 0, 1) := by decide +kernel
theorem dX9_wide_27 : decode cX9_wide 27 = .ok (.istore_n 3, 1) := by decide +kernel
theorem dX9_wide_28 : decode cX9_wide 28 = .ok (.iload_n 3, 1) := by decide +kernel
theorem dX9_wide_29 : decode cX9_wide 29 = .ok (.aload_n 0, 1) := by decide +kernel
theorem dX9_wide_30 : decode cX9_wide 30 = .ok (.invokevirtual 214, 3) := by decide +kernel
theorem dX9_wide_33 : decode cX9_wide 33 = .ok (.if_icmp .ge 26, 3) := by decide +kernel
theorem dX9_wide_36 : decode cX9_wide 36 = .ok (.aload_n 0, 1) := by decide +kernel
theorem dX9_wide_37 : decode cX9_wide 37 = .ok (.getfield 78, 3) := by decide +kernel
theorem dX9_wide_40 : decode cX9_wide 40 = .ok (.iload_n 3, 1) := by decide +kernel
theorem dX9_wide_41 : decode cX9_wide 41 = .ok (.iaload, 1) := by decide +kernel
theorem dX9_wide_42 : decode cX9_wide 42 = .ok (.iload_n 1, 1) := by decide +kernel
theorem dX9_wide_43 : decode cX9_wide 43 = .ok (.if_icmp .le 10, 3) := by decide +kernel
theorem dX9_wide_46 : decode cX9_wide 46 = .ok (.aload_n 0, 1) := by decide +kernel
theorem dX9_wide_47 : decode cX9_wide 47 = .ok (.getfield 78, 3) := by decide +kernel
theorem dX9_wide_50 : decode cX9_wide 50 = .ok (.iload_n 3, 1) := by decide +kernel
theorem dX9_wide_51 : decode cX9_wide 51 = .ok (.iaload, 1) := by decide +kernel
theorem dX9_wide_52 : decode cX9_wide 52 = .ok (.istore_n 1, 1) := by decide +kernel
theorem dX9_wide_53 : decode cX9_wide 53 = .ok (.iinc 3 1, 3) := by decide +kernel
theorem dX9_wide_56 : decode cX9_wide 56 = .ok (.goto (-28), 3) := by decide +kernel
theorem dX9_wide_59 : decode cX9_wide 59 = .ok (.iinc 2 1, 3) := by decide +kernel
theorem dX9_wide_62 : decode cX9_wide 62 = .ok (.goto (-49), 3) := by decide +kernel
theorem dX9_wide_65 : decode cX9_wide 65 = .ok (.iload_n 1, 1) := by decide +kernel
theorem dX9_wide_66 : decode cX9_wide 66 = .ok (.ireturn, 1) := by decide +kernel
theorem dX9_wishOf_0 : decode cX9_wishOf 0 = .ok (.aload_n 0, 1) := by decide +kernel
theorem dX9_wishOf_1 : decode cX9_wishOf 1 = .ok (.getfield 20, 3) := by decide +kernel
theorem dX9_wishOf_4 : decode cX9_wishOf 4 = .ok (.iconst 2, 1) := by decide +kernel
theorem dX9_wishOf_5 : decode cX9_wishOf 5 = .ok (.iload_n 1, 1) := by decide +kernel
theorem dX9_wishOf_6 : decode cX9_wishOf 6 = .ok (.iadd, 1) := by decide +kernel
theorem dX9_wishOf_7 : decode cX9_wishOf 7 = .ok (.iaload, 1) := by decide +kernel
theorem dX9_wishOf_8 : decode cX9_wishOf 8 = .ok (.ireturn, 1) := by decide +kernel
theorem dX9_wishes_0 : decode cX9_wishes 0 = .ok (.aload_n 0, 1) := by decide +kernel
theorem dX9_wishes_1 : decode cX9_wishes 1 = .ok (.iload_n 1, 1) := by decide +kernel
theorem dX9_wishes_2 : decode cX9_wishes 2 = .ok (.invokevirtual 221, 3) := by decide +kernel
theorem dX9_wishes_5 : decode cX9_wishes 5 = .ok (.istore_n 3, 1) := by decide +kernel
theorem dX9_wishes_6 : decode cX9_wishes 6 = .ok (.aload_n 0, 1) := by decide +kernel
theorem dX9_wishes_7 : decode cX9_wishes 7 = .ok (.getfield 20, 3) := by decide +kernel
theorem dX9_wishes_10 : decode cX9_wishes 10 = .ok (.iconst 2, 1) := by decide +kernel
theorem dX9_wishes_11 : decode cX9_wishes 11 = .ok (.iload_n 1, 1) := by decide +kernel
theorem dX9_wishes_12 : decode cX9_wishes 12 = .ok (.iadd, 1) := by decide +kernel
theorem dX9_wishes_13 : decode cX9_wishes 13 = .ok (.iload_n 2, 1) := by decide +kernel
theorem dX9_wishes_14 : decode cX9_wishes 14 = .ok (.iastore, 1) := by decide +kernel
theorem dX9_wishes_15 : decode cX9_wishes 15 = .ok (.aload_n 0, 1) := by decide +kernel
theorem dX9_wishes_16 : decode cX9_wishes 16 = .ok (.iload_n 3, 1) := by decide +kernel
theorem dX9_wishes_17 : decode cX9_wishes 17 = .ok (.invokevirtual 421, 3) := by decide +kernel
theorem dX9_wishes_20 : decode cX9_wishes 20 = .ok (.ireturn, 1) := by decide +kernel
theorem dX9_wrong_0 : decode cX9_wrong 0 = .ok (.aload_n 0, 1) := by decide +kernel
theorem dX9_wrong_1 : decode cX9_wrong 1 = .ok (.getfield 164, 3) := by decide +kernel
theorem dX9_wrong_4 : decode cX9_wrong 4 = .ok (.ifCond .le 4, 3) := by decide +kernel
theorem dX9_wrong_7 : decode cX9_wrong 7 = .ok (.return_, 1) := by decide +kernel
theorem dX9_wrong_8 : decode cX9_wrong 8 = .ok (.aload_n 0, 1) := by decide +kernel
theorem dX9_wrong_9 : decode cX9_wrong 9 = .ok (.aload_n 0, 1) := by decide +kernel
theorem dX9_wrong_10 : decode cX9_wrong 10 = .ok (.getfield 154, 3) := by decide +kernel
theorem dX9_wrong_13 : decode cX9_wrong 13 = .ok (.iconst 4, 1) := by decide +kernel
theorem dX9_wrong_14 : decode cX9_wrong 14 = .ok (.if_icmp .ne 7, 3) := by decide +kernel
theorem dX9_wrong_17 : decode cX9_wrong 17 = .ok (.iconst 1, 1) := by decide +kernel
theorem dX9_wrong_18 : decode cX9_wrong 18 = .ok (.goto 4, 3) := by decide +kernel
theorem dX9_wrong_21 : decode cX9_wrong 21 = .ok (.iload_n 1, 1) := by decide +kernel
theorem dX9_wrong_22 : decode cX9_wrong 22 = .ok (.putfield 164, 3) := by decide +kernel
theorem dX9_wrong_25 : decode cX9_wrong 25 = .ok (.aload_n 0, 1) := by decide +kernel
theorem dX9_wrong_26 : decode cX9_wrong 26 = .ok (.aload_n 0, 1) := by decide +kernel
theorem dX9_wrong_27 : decode cX9_wrong 27 = .ok (.getfield 144, 3) := by decide +kernel
theorem dX9_wrong_30 : decode cX9_wrong 30 = .ok (.putfield 13, 3) := by decide +kernel
theorem dX9_wrong_33 : decode cX9_wrong 33 = .ok (.return_, 1) := by decide +kernel
