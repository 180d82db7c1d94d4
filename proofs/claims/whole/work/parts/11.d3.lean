theorem dX9_go_24 : decode cX9_go 24 = .ok (.iconst 0, 1) := by decide +kernel
theorem dX9_go_25 : decode cX9_go 25 = .ok (.ireturn, 1) := by decide +kernel
theorem dX9_go_26 : decode cX9_go 26 = .ok (.aload_n 0, 1) := by decide +kernel
theorem dX9_go_27 : decode cX9_go 27 = .ok (.invokevirtual 271, 3) := by decide +kernel
theorem dX9_go_30 : decode cX9_go 30 = .ok (.aload_n 0, 1) := by decide +kernel
theorem dX9_go_31 : decode cX9_go 31 = .ok (.aload_n 0, 1) := by decide +kernel
theorem dX9_go_32 : decode cX9_go 32 = .ok (.iload_n 1, 1) := by decide +kernel
theorem dX9_go_33 : decode cX9_go 33 = .ok (.invokevirtual 475, 3) := by decide +kernel
theorem dX9_go_36 : decode cX9_go 36 = .ok (.invokevirtual 427, 3) := by decide +kernel
theorem dX9_go_39 : decode cX9_go 39 = .ok (.ifCond .lt 7, 3) := by decide +kernel
theorem dX9_go_42 : decode cX9_go 42 = .ok (.iconst 1, 1) := by decide +kernel
theorem dX9_go_43 : decode cX9_go 43 = .ok (.goto 4, 3) := by decide +kernel
theorem dX9_go_46 : decode cX9_go 46 = .ok (.iconst 0, 1) := by decide +kernel
theorem dX9_go_47 : decode cX9_go 47 = .ok (.ireturn, 1) := by decide +kernel
theorem dX9_goOnRead_0 : decode cX9_goOnRead 0 = .ok (.aload_n 0, 1) := by decide +kernel
theorem dX9_goOnRead_1 : decode cX9_goOnRead 1 = .ok (.iconst 0, 1) := by decide +kernel
theorem dX9_goOnRead_2 : decode cX9_goOnRead 2 = .ok (.invokevirtual 140, 3) := by decide +kernel
theorem dX9_goOnRead_5 : decode cX9_goOnRead 5 = .ok (.bipush 32, 2) := by decide +kernel
theorem dX9_goOnRead_7 : decode cX9_goOnRead 7 = .ok (.if_icmp .eq 13, 3) := by decide +kernel
theorem dX9_goOnRead_10 : decode cX9_goOnRead 10 = .ok (.aload_n 0, 1) := by decide +kernel
theorem dX9_goOnRead_11 : decode cX9_goOnRead 11 = .ok (.iconst 0, 1) := by decide +kernel
theorem dX9_goOnRead_12 : decode cX9_goOnRead 12 = .ok (.invokevirtual 140, 3) := by decide +kernel
theorem dX9_goOnRead_15 : decode cX9_goOnRead 15 = .ok (.bipush 10, 2) := by decide +kernel
theorem dX9_goOnRead_17 : decode cX9_goOnRead 17 = .ok (.if_icmp .ne 16, 3) := by decide +kernel
theorem dX9_goOnRead_20 : decode cX9_goOnRead 20 = .ok (.aload_n 0, 1) := by decide +kernel
theorem dX9_goOnRead_21 : decode cX9_goOnRead 21 = .ok (.dup, 1) := by decide +kernel
theorem dX9_goOnRead_22 : decode cX9_goOnRead 22 = .ok (.getfield 134, 3) := by decide +kernel
theorem dX9_goOnRead_25 : decode cX9_goOnRead 25 = .ok (.iconst 1, 1) := by decide +kernel
theorem dX9_goOnRead_26 : decode cX9_goOnRead 26 = .ok (.iadd, 1) := by decide +kernel
theorem dX9_goOnRead_27 : decode cX9_goOnRead 27 = .ok (.putfield 134, 3) := by decide +kernel
theorem dX9_goOnRead_30 : decode cX9_goOnRead 30 = .ok (.goto (-30), 3) := by decide +kernel
theorem dX9_goOnRead_33 : decode cX9_goOnRead 33 = .ok (.aload_n 0, 1) := by decide +kernel
theorem dX9_goOnRead_34 : decode cX9_goOnRead 34 = .ok (.aload_n 0, 1) := by decide +kernel
theorem dX9_goOnRead_35 : decode cX9_goOnRead 35 = .ok (.getfield 134, 3) := by decide +kernel
theorem dX9_goOnRead_38 : decode cX9_goOnRead 38 = .ok (.putfield 144, 3) := by decide +kernel
theorem dX9_goOnRead_41 : decode cX9_goOnRead 41 = .ok (.aload_n 0, 1) := by decide +kernel
theorem dX9_goOnRead_42 : decode cX9_goOnRead 42 = .ok (.lconst 0, 1) := by decide +kernel
theorem dX9_goOnRead_43 : decode cX9_goOnRead 43 = .ok (.putfield 147, 3) := by decide +kernel
theorem dX9_goOnRead_46 : decode cX9_goOnRead 46 = .ok (.aload_n 0, 1) := by decide +kernel
theorem dX9_goOnRead_47 : decode cX9_goOnRead 47 = .ok (.iconst 0, 1) := by decide +kernel
theorem dX9_goOnRead_48 : decode cX9_goOnRead 48 = .ok (.putfield 151, 3) := by decide +kernel
theorem dX9_goOnRead_51 : decode cX9_goOnRead 51 = .ok (.aload_n 0, 1) := by decide +kernel
theorem dX9_goOnRead_52 : decode cX9_goOnRead 52 = .ok (.iconst 0, 1) := by decide +kernel
theorem dX9_goOnRead_53 : decode cX9_goOnRead 53 = .ok (.invokevirtual 140, 3) := by decide +kernel
theorem dX9_goOnRead_56 : decode cX9_goOnRead 56 = .ok (.istore_n 1, 1) := by decide +kernel
theorem dX9_goOnRead_57 : decode cX9_goOnRead 57 = .ok (.iconst 0, 1) := by decide +kernel
theorem dX9_goOnRead_58 : decode cX9_goOnRead 58 = .ok (.istore_n 2, 1) := by decide +kernel
theorem dX9_goOnRead_59 : decode cX9_goOnRead 59 = .ok (.iload_n 1, 1) := by decide +kernel
theorem dX9_goOnRead_60 : decode cX9_goOnRead 60 = .ok (.ifCond .ge 9, 3) := by decide +kernel
theorem dX9_goOnRead_63 : decode cX9_goOnRead 63 = .ok (.aload_n 0, 1) := by decide +kernel
theorem dX9_goOnRead_64 : decode cX9_goOnRead 64 = .ok (.iconst 0, 1) := by decide +kernel
theorem dX9_goOnRead_65 : decode cX9_goOnRead 65 = .ok (.putfield 154, 3) := by decide +kernel
theorem dX9_goOnRead_68 : decode cX9_goOnRead 68 = .ok (.return_, 1) := by decide +kernel
theorem dX9_goOnRead_69 : decode cX9_goOnRead 69 = .ok (.iload_n 1, 1) := by decide +kernel
theorem dX9_goOnRead_70 : decode cX9_goOnRead 70 = .ok (.invokestatic 157, 3) := by decide +kernel
theorem dX9_goOnRead_73 : decode cX9_goOnRead 73 = .ok (.ifCond .eq 66, 3) := by decide +kernel
theorem dX9_goOnRead_76 : decode cX9_goOnRead 76 = .ok (.aload_n 0, 1) := by decide +kernel
theorem dX9_goOnRead_77 : decode cX9_goOnRead 77 = .ok (.iload_n 2, 1) := by decide +kernel
theorem dX9_goOnRead_78 : decode cX9_goOnRead 78 = .ok (.invokevirtual 140, 3) := by decide +kernel
theorem dX9_goOnRead_81 : decode cX9_goOnRead 81 = .ok (.invokestatic 157, 3) := by decide +kernel
theorem dX9_goOnRead_84 : decode cX9_goOnRead 84 = .ok (.ifCond .eq 37, 3) := by decide +kernel
theorem dX9_goOnRead_87 : decode cX9_goOnRead 87 = .ok (.iload_n 2, 1) := by decide +kernel
theorem dX9_goOnRead_88 : decode cX9_goOnRead 88 = .ok (.bipush 8, 2) := by decide +kernel
theorem dX9_goOnRead_90 : decode cX9_goOnRead 90 = .ok (.if_icmp .ge 25, 3) := by decide +kernel
theorem dX9_goOnRead_93 : decode cX9_goOnRead 93 = .ok (.aload_n 0, 1) := by decide +kernel
theorem dX9_goOnRead_94 : decode cX9_goOnRead 94 = .ok (.aload_n 0, 1) := by decide +kernel
theorem dX9_goOnRead_95 : decode cX9_goOnRead 95 = .ok (.getfield 147, 3) := by decide +kernel
theorem dX9_goOnRead_98 : decode cX9_goOnRead 98 = .ok (.iconst 5, 1) := by decide +kernel
theorem dX9_goOnRead_99 : decode cX9_goOnRead 99 = .ok (.lshl, 1) := by decide +kernel
theorem dX9_goOnRead_100 : decode cX9_goOnRead 100 = .ok (.aload_n 0, 1) := by decide +kernel
theorem dX9_goOnRead_101 : decode cX9_goOnRead 101 = .ok (.iload_n 2, 1) := by decide +kernel
theorem dX9_goOnRead_102 : decode cX9_goOnRead 102 = .ok (.invokevirtual 140, 3) := by decide +kernel
theorem dX9_goOnRead_105 : decode cX9_goOnRead 105 = .ok (.bipush 97, 2) := by decide +kernel
theorem dX9_goOnRead_107 : decode cX9_goOnRead 107 = .ok (.isub, 1) := by decide +kernel
theorem dX9_goOnRead_108 : decode cX9_goOnRead 108 = .ok (.iconst 1, 1) := by decide +kernel
theorem dX9_goOnRead_109 : decode cX9_goOnRead 109 = .ok (.iadd, 1) := by decide +kernel
theorem dX9_goOnRead_110 : decode cX9_goOnRead 110 = .ok (.i2l, 1) := by decide +kernel
theorem dX9_goOnRead_111 : decode cX9_goOnRead 111 = .ok (.lor, 1) := by decide +kernel
theorem dX9_goOnRead_112 : decode cX9_goOnRead 112 = .ok (.putfield 147, 3) := by decide +kernel
theorem dX9_goOnRead_115 : decode cX9_goOnRead 115 = .ok (.iinc 2 1, 3) := by decide +kernel
theorem dX9_goOnRead_118 : decode cX9_goOnRead 118 = .ok (.goto (-42), 3) := by decide +kernel
theorem dX9_goOnRead_121 : decode cX9_goOnRead 121 = .ok (.aload_n 0, 1) := by decide +kernel
theorem dX9_goOnRead_122 : decode cX9_goOnRead 122 = .ok (.iload_n 2, 1) := by decide +kernel
theorem dX9_goOnRead_123 : decode cX9_goOnRead 123 = .ok (.bipush 8, 2) := by decide +kernel
theorem dX9_goOnRead_125 : decode cX9_goOnRead 125 = .ok (.if_icmp .le 7, 3) := by decide +kernel
theorem dX9_goOnRead_128 : decode cX9_goOnRead 128 = .ok (.iconst 4, 1) := by decide +kernel
theorem dX9_goOnRead_129 : decode cX9_goOnRead 129 = .ok (.goto 4, 3) := by decide +kernel
theorem dX9_goOnRead_132 : decode cX9_goOnRead 132 = .ok (.iconst 1, 1) := by decide +kernel
theorem dX9_goOnRead_133 : decode cX9_goOnRead 133 = .ok (.putfield 154, 3) := by decide +kernel
theorem dX9_goOnRead_136 : decode cX9_goOnRead 136 = .ok (.goto 103, 3) := by decide +kernel
theorem dX9_goOnRead_139 : decode cX9_goOnRead 139 = .ok (.iload_n 1, 1) := by decide +kernel
theorem dX9_goOnRead_140 : decode cX9_goOnRead 140 = .ok (.invokestatic 161, 3) := by decide +kernel
theorem dX9_goOnRead_143 : decode cX9_goOnRead 143 = .ok (.ifCond .eq 62, 3) := by decide +kernel
theorem dX9_goOnRead_146 : decode cX9_goOnRead 146 = .ok (.aload_n 0, 1) := by decide +kernel
theorem dX9_goOnRead_147 : decode cX9_goOnRead 147 = .ok (.iload_n 2, 1) := by decide +kernel
theorem dX9_goOnRead_148 : decode cX9_goOnRead 148 = .ok (.invokevirtual 140, 3) := by decide +kernel
theorem dX9_goOnRead_151 : decode cX9_goOnRead 151 = .ok (.invokestatic 161, 3) := by decide +kernel
theorem dX9_goOnRead_154 : decode cX9_goOnRead 154 = .ok (.ifCond .eq 34, 3) := by decide +kernel
theorem dX9_goOnRead_157 : decode cX9_goOnRead 157 = .ok (.iload_n 2, 1) := by decide +kernel
theorem dX9_goOnRead_158 : decode cX9_goOnRead 158 = .ok (.iconst 3, 1) := by decide +kernel
theorem dX9_goOnRead_159 : decode cX9_goOnRead 159 = .ok (.if_icmp .ge 23, 3) := by decide +kernel
theorem dX9_goOnRead_162 : decode cX9_goOnRead 162 = .ok (.aload_n 0, 1) := by decide +kernel
theorem dX9_goOnRead_163 : decode cX9_goOnRead 163 = .ok (.bipush 10, 2) := by decide +kernel
theorem dX9_goOnRead_165 : decode cX9_goOnRead 165 = .ok (.aload_n 0, 1) := by decide +kernel
theorem dX9_goOnRead_166 : decode cX9_goOnRead 166 = .ok (.getfield 151, 3) := by decide +kernel
theorem dX9_goOnRead_169 : decode cX9_goOnRead 169 = .ok (.imul, 1) := by decide +kernel
theorem dX9_goOnRead_170 : decode cX9_goOnRead 170 = .ok (.aload_n 0, 1) := by decide +kernel
theorem dX9_goOnRead_171 : decode cX9_goOnRead 171 = .ok (.iload_n 2, 1) := by decide +kernel
theorem dX9_goOnRead_172 : decode cX9_goOnRead 172 = .ok (.invokevirtual 140, 3) := by decide +kernel
theorem dX9_goOnRead_175 : decode cX9_goOnRead 175 = .ok (.iadd, 1) := by decide +kernel
theorem dX9_goOnRead_176 : decode cX9_goOnRead 176 = .ok (.bipush 48, 2) := by decide +kernel
theorem dX9_goOnRead_178 : decode cX9_goOnRead 178 = .ok (.isub, 1) := by decide +kernel
theorem dX9_goOnRead_179 : decode cX9_goOnRead 179 = .ok (.putfield 151, 3) := by decide +kernel
theorem dX9_goOnRead_182 : decode cX9_goOnRead 182 = .ok (.iinc 2 1, 3) := by decide +kernel
theorem dX9_goOnRead_185 : decode cX9_goOnRead 185 = .ok (.goto (-39), 3) := by decide +kernel
theorem dX9_goOnRead_188 : decode cX9_goOnRead 188 = .ok (.aload_n 0, 1) := by decide +kernel
theorem dX9_goOnRead_189 : decode cX9_goOnRead 189 = .ok (.iload_n 2, 1) := by decide +kernel
theorem dX9_goOnRead_190 : decode cX9_goOnRead 190 = .ok (.iconst 3, 1) := by decide +kernel
theorem dX9_goOnRead_191 : decode cX9_goOnRead 191 = .ok (.if_icmp .le 7, 3) := by decide +kernel
theorem dX9_goOnRead_194 : decode cX9_goOnRead 194 = .ok (.iconst 4, 1) := by decide +kernel
theorem dX9_goOnRead_195 : decode cX9_goOnRead 195 = .ok (.goto 4, 3) := by decide +kernel
theorem dX9_goOnRead_198 : decode cX9_goOnRead 198 = .ok (.iconst 2, 1) := by decide +kernel
theorem dX9_goOnRead_199 : decode cX9_goOnRead 199 = .ok (.putfield 154, 3) := by decide +kernel
theorem dX9_goOnRead_202 : decode cX9_goOnRead 202 = .ok (.goto 37, 3) := by decide +kernel
theorem dX9_goOnRead_205 : decode cX9_goOnRead 205 = .ok (.aload_n 0, 1) := by decide +kernel
theorem dX9_goOnRead_206 : decode cX9_goOnRead 206 = .ok (.iload_n 1, 1) := by decide +kernel
theorem dX9_goOnRead_207 : decode cX9_goOnRead 207 = .ok (.bipush 59, 2) := by decide +kernel
theorem dX9_goOnRead_209 : decode cX9_goOnRead 209 = .ok (.if_icmp .eq 15, 3) := by decide +kernel
theorem dX9_goOnRead_212 : decode cX9_goOnRead 212 = .ok (.iload_n 1, 1) := by decide +kernel
theorem dX9_goOnRead_213 : decode cX9_goOnRead 213 = .ok (.bipush 40, 2) := by decide +kernel
theorem dX9_goOnRead_215 : decode cX9_goOnRead 215 = .ok (.if_icmp .eq 9, 3) := by decide +kernel
theorem dX9_goOnRead_218 : decode cX9_goOnRead 218 = .ok (.iload_n 1, 1) := by decide +kernel
theorem dX9_goOnRead_219 : decode cX9_goOnRead 219 = .ok (.bipush 41, 2) := by decide +kernel
theorem dX9_goOnRead_221 : decode cX9_goOnRead 221 = .ok (.if_icmp .ne 7, 3) := by decide +kernel
theorem dX9_goOnRead_224 : decode cX9_goOnRead 224 = .ok (.iconst 3, 1) := by decide +kernel
theorem dX9_goOnRead_225 : decode cX9_goOnRead 225 = .ok (.goto 4, 3) := by decide +kernel
theorem dX9_goOnRead_228 : decode cX9_goOnRead 228 = .ok (.iconst 4, 1) := by decide +kernel
theorem dX9_goOnRead_229 : decode cX9_goOnRead 229 = .ok (.putfield 154, 3) := by decide +kernel
theorem dX9_goOnRead_232 : decode cX9_goOnRead 232 = .ok (.aload_n 0, 1) := by decide +kernel
theorem dX9_goOnRead_233 : decode cX9_goOnRead 233 = .ok (.iload_n 1, 1) := by decide +kernel
theorem dX9_goOnRead_234 : decode cX9_goOnRead 234 = .ok (.putfield 151, 3) := by decide +kernel
theorem dX9_goOnRead_237 : decode cX9_goOnRead 237 = .ok (.iconst 1, 1) := by decide +kernel
theorem dX9_goOnRead_238 : decode cX9_goOnRead 238 = .ok (.istore_n 2, 1) := by decide +kernel
theorem dX9_goOnRead_239 : decode cX9_goOnRead 239 = .ok (.aload_n 0, 1) := by decide +kernel
theorem dX9_goOnRead_240 : decode cX9_goOnRead 240 = .ok (.dup, 1) := by decide +kernel
theorem dX9_goOnRead_241 : decode cX9_goOnRead 241 = .ok (.getfield 134, 3) := by decide +kernel
theorem dX9_goOnRead_244 : decode cX9_goOnRead 244 = .ok (.iload_n 2, 1) := by decide +kernel
theorem dX9_goOnRead_245 : decode cX9_goOnRead 245 = .ok (.iadd, 1) := by decide +kernel
theorem dX9_goOnRead_246 : decode cX9_goOnRead 246 = .ok (.putfield 134, 3) := by decide +kernel
theorem dX9_goOnRead_249 : decode cX9_goOnRead 249 = .ok (.return_, 1) := by decide +kernel
theorem dX9_goes_0 : decode cX9_goes 0 = .ok (.aload_n 0, 1) := by decide +kernel
theorem dX9_goes_1 : decode cX9_goes 1 = .ok (.iload_n 1, 1) := by decide +kernel
theorem dX9_goes_2 : decode cX9_goes 2 = .ok (.ifCond .ne 7, 3) := by decide +kernel
theorem dX9_goes_5 : decode cX9_goes 5 = .ok (.iconst 1, 1) := by decide +kernel
theorem dX9_goes_6 : decode cX9_goes 6 = .ok (.goto 4, 3) := by decide +kernel
theorem dX9_goes_9 : decode cX9_goes 9 = .ok (.iconst 0, 1) := by decide +kernel
theorem dX9_goes_10 : decode cX9_goes 10 = .ok (.invokestatic 115, 3) := by decide +kernel
theorem dX9_goes_13 : decode cX9_goes 13 = .ok (.putfield 112, 3) := by decide +kernel
theorem dX9_goes_16 : decode cX9_goes 16 = .ok (.iload_n 1, 1) := by decide +kernel
theorem dX9_goes_17 : decode cX9_goes 17 = .ok (.ireturn, 1) := by decide +kernel
theorem dX9_goesBack_0 : decode cX9_goesBack 0 = .ok (.aload_n 0, 1) := by decide +kernel
theorem dX9_goesBack_1 : decode cX9_goesBack 1 = .ok (.getfield 26, 3) := by decide +kernel
theorem dX9_goesBack_4 : decode cX9_goesBack 4 = .ok (.iconst 0, 1) := by decide +kernel
theorem dX9_goesBack_5 : decode cX9_goesBack 5 = .ok (.aload_n 0, 1) := by decide +kernel
theorem dX9_goesBack_6 : decode cX9_goesBack 6 = .ok (.getfield 20, 3) := by decide +kernel
theorem dX9_goesBack_9 : decode cX9_goesBack 9 = .ok (.iconst 0, 1) := by decide +kernel
theorem dX9_goesBack_10 : decode cX9_goesBack 10 = .ok (.invokestatic 191, 3) := by decide +kernel
theorem dX9_goesBack_13 : decode cX9_goesBack 13 = .ok (.aload_n 0, 1) := by decide +kernel
theorem dX9_goesBack_14 : decode cX9_goesBack 14 = .ok (.getfield 42, 3) := by decide +kernel
theorem dX9_goesBack_17 : decode cX9_goesBack 17 = .ok (.iconst 0, 1) := by decide +kernel
theorem dX9_goesBack_18 : decode cX9_goesBack 18 = .ok (.aload_n 0, 1) := by decide +kernel
theorem dX9_goesBack_19 : decode cX9_goesBack 19 = .ok (.getfield 35, 3) := by decide +kernel
theorem dX9_goesBack_22 : decode cX9_goesBack 22 = .ok (.iconst 0, 1) := by decide +kernel
theorem dX9_goesBack_23 : decode cX9_goesBack 23 = .ok (.invokestatic 195, 3) := by decide +kernel
theorem dX9_goesBack_26 : decode cX9_goesBack 26 = .ok (.return_, 1) := by decide +kernel
theorem dX9_goesBoth_0 : decode cX9_goesBoth 0 = .ok (.aload_n 0, 1) := by decide +kernel
theorem dX9_goesBoth_1 : decode cX9_goesBoth 1 = .ok (.iload_n 1, 1) := by decide +kernel
theorem dX9_goesBoth_2 : decode cX9_goesBoth 2 = .ok (.ifCond .ne 7, 3) := by decide +kernel
theorem dX9_goesBoth_5 : decode cX9_goesBoth 5 = .ok (.iconst 1, 1) := by decide +kernel
theorem dX9_goesBoth_6 : decode cX9_goesBoth 6 = .ok (.goto 12, 3) := by decide +kernel
theorem dX9_goesBoth_9 : decode cX9_goesBoth 9 = .ok (.iload_n 2, 1) := by decide +kernel
theorem dX9_goesBoth_10 : decode cX9_goesBoth 10 = .ok (.ifCond .ne 7, 3) := by decide +kernel
theorem dX9_goesBoth_13 : decode cX9_goesBoth 13 = .ok (.iconst 2, 1) := by decide +kernel
theorem dX9_goesBoth_14 : decode cX9_goesBoth 14 = .ok (.goto 4, 3) := by decide +kernel
theorem dX9_goesBoth_17 : decode cX9_goesBoth 17 = .ok (.iconst 0, 1) := by decide +kernel
theorem dX9_goesBoth_18 : decode cX9_goesBoth 18 = .ok (.putfield 112, 3) := by decide +kernel
theorem dX9_goesBoth_21 : decode cX9_goesBoth 21 = .ok (.aload_n 0, 1) := by decide +kernel
theorem dX9_goesBoth_22 : decode cX9_goesBoth 22 = .ok (.getfield 112, 3) := by decide +kernel
theorem dX9_goesBoth_25 : decode cX9_goesBoth 25 = .ok (.ifCond .ne 7, 3) := by decide +kernel
theorem dX9_goesBoth_28 : decode cX9_goesBoth 28 = .ok (.iconst 1, 1) := by decide +kernel
theorem dX9_goesBoth_29 : decode cX9_goesBoth 29 = .ok (.goto 4, 3) := by decide +kernel
theorem dX9_goesBoth_32 : decode cX9_goesBoth 32 = .ok (.iconst 0, 1) := by decide +kernel
theorem dX9_goesBoth_33 : decode cX9_goesBoth 33 = .ok (.ireturn, 1) := by decide +kernel
theorem dX9_grows_0 : decode cX9_grows 0 = .ok (.aload_n 0, 1) := by decide +kernel
theorem dX9_grows_1 : decode cX9_grows 1 = .ok (.iconst 0, 1) := by decide +kernel
theorem dX9_grows_2 : decode cX9_grows 2 = .ok (.putfield 363, 3) := by decide +kernel
theorem dX9_grows_5 : decode cX9_grows 5 = .ok (.iconst 0, 1) := by decide +kernel
theorem dX9_grows_6 : decode cX9_grows 6 = .ok (.istore_n 1, 1) := by decide +kernel
theorem dX9_grows_7 : decode cX9_grows 7 = .ok (.iload_n 1, 1) := by decide +kernel
theorem dX9_grows_8 : decode cX9_grows 8 = .ok (.aload_n 0, 1) := by decide +kernel
theorem dX9_grows_9 : decode cX9_grows 9 = .ok (.invokevirtual 214, 3) := by decide +kernel
theorem dX9_grows_12 : decode cX9_grows 12 = .ok (.if_icmp .ge 23, 3) := by decide +kernel
theorem dX9_grows_15 : decode cX9_grows 15 = .ok (.aload_n 0, 1) := by decide +kernel
theorem dX9_grows_16 : decode cX9_grows 16 = .ok (.getfield 69, 3) := by decide +kernel
theorem dX9_grows_19 : decode cX9_grows 19 = .ok (.iload_n 1, 1) := by decide +kernel
theorem dX9_grows_20 : decode cX9_grows 20 = .ok (.iconst 1, 1) := by decide +kernel
theorem dX9_grows_21 : decode cX9_grows 21 = .ok (.iastore, 1) := by decide +kernel
theorem dX9_grows_22 : decode cX9_grows 22 = .ok (.aload_n 0, 1) := by decide +kernel
theorem dX9_grows_23 : decode cX9_grows 23 = .ok (.getfield 84, 3) := by decide +kernel
theorem dX9_grows_26 : decode cX9_grows 26 = .ok (.iload_n 1, 1) := by decide +kernel
theorem dX9_grows_27 : decode cX9_grows 27 = .ok (.iconst 0, 1) := by decide +kernel
theorem dX9_grows_28 : decode cX9_grows 28 = .ok (.bastore, 1) := by decide +kernel
theorem dX9_grows_29 : decode cX9_grows 29 = .ok (.iinc 1 1, 3) := by decide +kernel
theorem dX9_grows_32 : decode cX9_grows 32 = .ok (.goto (-25), 3) := by decide +kernel
theorem dX9_grows_35 : decode cX9_grows 35 = .ok (.iconst 0, 1) := by decide +kernel
theorem dX9_grows_36 : decode cX9_grows 36 = .ok (.istore_n 1, 1) := by decide +kernel
theorem dX9_grows_37 : decode cX9_grows 37 = .ok (.iload_n 1, 1) := by decide +kernel
theorem dX9_grows_38 : decode cX9_grows 38 = .ok (.aload_n 0, 1) := by decide +kernel
theorem dX9_grows_39 : decode cX9_grows 39 = .ok (.invokevirtual 369, 3) := by decide +kernel
theorem dX9_grows_42 : decode cX9_grows 42 = .ok (.if_icmp .ge 23, 3) := by decide +kernel
theorem dX9_grows_45 : decode cX9_grows 45 = .ok (.aload_n 0, 1) := by decide +kernel
theorem dX9_grows_46 : decode cX9_grows 46 = .ok (.getfield 69, 3) := by decide +kernel
theorem dX9_grows_49 : decode cX9_grows 49 = .ok (.aload_n 0, 1) := by decide +kernel
theorem dX9_grows_50 : decode cX9_grows 50 = .ok (.iload_n 1, 1) := by decide +kernel
theorem dX9_grows_51 : decode cX9_grows 51 = .ok (.invokevirtual 372, 3) := by decide +kernel
theorem dX9_grows_54 : decode cX9_grows 54 = .ok (.dup2, 1) := by decide +kernel
theorem dX9_grows_55 : decode cX9_grows 55 = .ok (.iaload, 1) := by decide +kernel
theorem dX9_grows_56 : decode cX9_grows 56 = .ok (.iconst 1, 1) := by decide +kernel
theorem dX9_grows_57 : decode cX9_grows 57 = .ok (.iadd, 1) := by decide +kernel
theorem dX9_grows_58 : decode cX9_grows 58 = .ok (.iastore, 1) := by decide +kernel
theorem dX9_grows_59 : decode cX9_grows 59 = .ok (.iinc 1 1, 3) := by decide +kernel
theorem dX9_grows_62 : decode cX9_grows 62 = .ok (.goto (-25), 3) := by decide +kernel
theorem dX9_grows_65 : decode cX9_grows 65 = .ok (.iconst 0, 1) := by decide +kernel
theorem dX9_grows_66 : decode cX9_grows 66 = .ok (.istore_n 1, 1) := by decide +kernel
theorem dX9_grows_67 : decode cX9_grows 67 = .ok (.iload_n 1, 1) := by decide +kernel
theorem dX9_grows_68 : decode cX9_grows 68 = .ok (.aload_n 0, 1) := by decide +kernel
theorem dX9_grows_69 : decode cX9_grows 69 = .ok (.invokevirtual 369, 3) := by decide +kernel
theorem dX9_grows_72 : decode cX9_grows 72 = .ok (.if_icmp .ge 45, 3) := by decide +kernel
theorem dX9_grows_75 : decode cX9_grows 75 = .ok (.aload_n 0, 1) := by decide +kernel
theorem dX9_grows_76 : decode cX9_grows 76 = .ok (.invokevirtual 375, 3) := by decide +kernel
theorem dX9_grows_79 : decode cX9_grows 79 = .ok (.istore_n 2, 1) := by decide +kernel
theorem dX9_grows_80 : decode cX9_grows 80 = .ok (.aload_n 0, 1) := by decide +kernel
theorem dX9_grows_81 : decode cX9_grows 81 = .ok (.iload_n 2, 1) := by decide +kernel
theorem dX9_grows_82 : decode cX9_grows 82 = .ok (.aload_n 0, 1) := by decide +kernel
theorem dX9_grows_83 : decode cX9_grows 83 = .ok (.iload_n 1, 1) := by decide +kernel
theorem dX9_grows_84 : decode cX9_grows 84 = .ok (.invokevirtual 372, 3) := by decide +kernel
theorem dX9_grows_87 : decode cX9_grows 87 = .ok (.invokevirtual 378, 3) := by decide +kernel
theorem dX9_grows_90 : decode cX9_grows 90 = .ok (.aload_n 0, 1) := by decide +kernel
theorem dX9_grows_91 : decode cX9_grows 91 = .ok (.getfield 84, 3) := by decide +kernel
theorem dX9_grows_94 : decode cX9_grows 94 = .ok (.iload_n 2, 1) := by decide +kernel
theorem dX9_grows_95 : decode cX9_grows 95 = .ok (.iconst 1, 1) := by decide +kernel
theorem dX9_grows_96 : decode cX9_grows 96 = .ok (.bastore, 1) := by decide +kernel
theorem dX9_grows_97 : decode cX9_grows 97 = .ok (.aload_n 0, 1) := by decide +kernel
theorem dX9_grows_98 : decode cX9_grows 98 = .ok (.getfield 69, 3) := by decide +kernel
theorem dX9_grows_101 : decode cX9_grows 101 = .ok (.aload_n 0, 1) := by decide +kernel
theorem dX9_grows_102 : decode cX9_grows 102 = .ok (.iload_n 1, 1) := by decide +kernel
theorem dX9_grows_103 : decode cX9_grows 103 = .ok (.invokevirtual 372, 3) := by decide +kernel
theorem dX9_grows_106 : decode cX9_grows 106 = .ok (.dup2, 1) := by decide +kernel
theorem dX9_grows_107 : decode cX9_grows 107 = .ok (.iaload, 1) := by decide +kernel
theorem dX9_grows_108 : decode cX9_grows 108 = .ok (.iconst 1, 1) := by decide +kernel
theorem dX9_grows_109 : decode cX9_grows 109 = .ok (.isub, 1) := by decide +kernel
theorem dX9_grows_110 : decode cX9_grows 110 = .ok (.iastore, 1) := by decide +kernel
theorem dX9_grows_111 : decode cX9_grows 111 = .ok (.iinc 1 1, 3) := by decide +kernel
theorem dX9_grows_114 : decode cX9_grows 114 = .ok (.goto (-47), 3) := by decide +kernel
theorem dX9_grows_117 : decode cX9_grows 117 = .ok (.aload_n 0, 1) := by decide +kernel
theorem dX9_grows_118 : decode cX9_grows 118 = .ok (.getfield 20, 3) := by decide +kernel
theorem dX9_grows_121 : decode cX9_grows 121 = .ok (.iconst 0, 1) := by decide +kernel
theorem dX9_grows_122 : decode cX9_grows 122 = .ok (.iaload, 1) := by decide +kernel
theorem dX9_grows_123 : decode cX9_grows 123 = .ok (.ifCond .ne 4, 3) := by decide +kernel
theorem dX9_grows_126 : decode cX9_grows 126 = .ok (.return_, 1) := by decide +kernel
theorem dX9_grows_127 : decode cX9_grows 127 = .ok (.aload_n 0, 1) := by decide +kernel
theorem dX9_grows_128 : decode cX9_grows 128 = .ok (.invokevirtual 375, 3) := by decide +kernel
theorem dX9_grows_131 : decode cX9_grows 131 = .ok (.istore_n 1, 1) := by decide +kernel
theorem dX9_grows_132 : decode cX9_grows 132 = .ok (.aload_n 0, 1) := by decide +kernel
theorem dX9_grows_133 : decode cX9_grows 133 = .ok (.getfield 84, 3) := by decide +kernel
theorem dX9_grows_136 : decode cX9_grows 136 = .ok (.iload_n 1, 1) := by decide +kernel
theorem dX9_grows_137 : decode cX9_grows 137 = .ok (.iconst 1, 1) := by decide +kernel
theorem dX9_grows_138 : decode cX9_grows 138 = .ok (.bastore, 1) := by decide +kernel
theorem dX9_grows_139 : decode cX9_grows 139 = .ok (.aload_n 0, 1) := by decide +kernel
theorem dX9_grows_140 : decode cX9_grows 140 = .ok (.iload_n 1, 1) := by decide +kernel
theorem dX9_grows_141 : decode cX9_grows 141 = .ok (.aload_n 0, 1) := by decide +kernel
theorem dX9_grows_142 : decode cX9_grows 142 = .ok (.invokevirtual 375, 3) := by decide +kernel
theorem dX9_grows_145 : decode cX9_grows 145 = .ok (.invokevirtual 378, 3) := by decide +kernel
theorem dX9_grows_148 : decode cX9_grows 148 = .ok (.return_, 1) := by decide +kernel
theorem dX9_here_0 : decode cX9_here 0 = .ok (.aload_n 0, 1) := by decide +kernel
theorem dX9_here_1 : decode cX9_here 1 = .ok (.getfield 134, 3) := by decide +kernel
theorem dX9_here_4 : decode cX9_here 4 = .ok (.iload_n 1, 1) := by decide +kernel
theorem dX9_here_5 : decode cX9_here 5 = .ok (.iadd, 1) := by decide +kernel
theorem dX9_here_6 : decode cX9_here 6 = .ok (.aload_n 0, 1) := by decide +kernel
theorem dX9_here_7 : decode cX9_here 7 = .ok (.getfield 137, 3) := by decide +kernel
theorem dX9_here_10 : decode cX9_here 10 = .ok (.if_icmp .ge 17, 3) := by decide +kernel
theorem dX9_here_13 : decode cX9_here 13 = .ok (.aload_n 0, 1) := by decide +kernel
theorem dX9_here_14 : decode cX9_here 14 = .ok (.getfield 7, 3) := by decide +kernel
theorem dX9_here_17 : decode cX9_here 17 = .ok (.aload_n 0, 1) := by decide +kernel
theorem dX9_here_18 : decode cX9_here 18 = .ok (.getfield 134, 3) := by decide +kernel
theorem dX9_here_21 : decode cX9_here 21 = .ok (.iload_n 1, 1) := by decide +kernel
theorem dX9_here_22 : decode cX9_here 22 = .ok (.iadd, 1) := by decide +kernel
theorem dX9_here_23 : decode cX9_here 23 = .ok (.iaload, 1) := by decide +kernel
theorem dX9_here_24 : decode cX9_here 24 = .ok (.goto 4, 3) := by decide +kernel
theorem dX9_here_27 : decode cX9_here 27 = .ok (.iconst (-1), 1) := by decide +kernel
theorem dX9_here_28 : decode cX9_here 28 = .ok (.ireturn, 1) := by decide +kernel
theorem dX9_inWay_0 : decode cX9_inWay 0 = .ok (.aload_n 0, 1) := by decide +kernel
theorem dX9_inWay_1 : decode cX9_inWay 1 = .ok (.aload_n 0, 1) := by decide +kernel
theorem dX9_inWay_2 : decode cX9_inWay 2 = .ok (.iload_n 1, 1) := by decide +kernel
theorem dX9_inWay_3 : decode cX9_inWay 3 = .ok (.invokevirtual 353, 3) := by decide +kernel
theorem dX9_inWay_6 : decode cX9_inWay 6 = .ok (.invokevirtual 122, 3) := by decide +kernel
theorem dX9_inWay_9 : decode cX9_inWay 9 = .ok (.ifCond .ne 5, 3) := by decide +kernel
theorem dX9_inWay_12 : decode cX9_inWay 12 = .ok (.iconst 0, 1) := by decide +kernel
theorem dX9_inWay_13 : decode cX9_inWay 13 = .ok (.ireturn, 1) := by decide +kernel
theorem dX9_inWay_14 : decode cX9_inWay 14 = .ok (.iload_n 1, 1) := by decide +kernel
theorem dX9_inWay_15 : decode cX9_inWay 15 = .ok (.aload_n 0, 1) := by decide +kernel
theorem dX9_inWay_16 : decode cX9_inWay 16 = .ok (.getfield 20, 3) := by decide +kernel
theorem dX9_inWay_19 : decode cX9_inWay 19 = .ok (.iconst 0, 1) := by decide +kernel
theorem dX9_inWay_20 : decode cX9_inWay 20 = .ok (.iaload, 1) := by decide +kernel
theorem dX9_inWay_21 : decode cX9_inWay 21 = .ok (.if_icmp .ne 5, 3) := by decide +kernel
theorem dX9_inWay_24 : decode cX9_inWay 24 = .ok (.iconst (-1), 1) := by decide +kernel
theorem dX9_inWay_25 : decode cX9_inWay 25 = .ok (.ireturn, 1) := by decide +kernel
theorem dX9_inWay_26 : decode cX9_inWay 26 = .ok (.aload_n 0, 1) := by decide +kernel
theorem dX9_inWay_27 : decode cX9_inWay 27 = .ok (.iload_n 1, 1) := by decide +kernel
theorem dX9_inWay_28 : decode cX9_inWay 28 = .ok (.invokevirtual 230, 3) := by decide +kernel
theorem dX9_inWay_31 : decode cX9_inWay 31 = .ok (.aload_n 0, 1) := by decide +kernel
theorem dX9_inWay_32 : decode cX9_inWay 32 = .ok (.getfield 54, 3) := by decide +kernel
theorem dX9_inWay_35 : decode cX9_inWay 35 = .ok (.aload_n 0, 1) := by decide +kernel
theorem dX9_inWay_36 : decode cX9_inWay 36 = .ok (.iload_n 1, 1) := by decide +kernel
theorem dX9_inWay_37 : decode cX9_inWay 37 = .ok (.invokevirtual 221, 3) := by decide +kernel
theorem dX9_inWay_40 : decode cX9_inWay 40 = .ok (.iaload, 1) := by decide +kernel
theorem dX9_inWay_41 : decode cX9_inWay 41 = .ok (.ireturn, 1) := by decide +kernel
theorem dX9_inversions_0 : decode cX9_inversions 0 = .ok (.aload_n 0, 1) := by decide +kernel
theorem dX9_inversions_1 : decode cX9_inversions 1 = .ok (.iconst 0, 1) := by decide +kernel
theorem dX9_inversions_2 : decode cX9_inversions 2 = .ok (.putfield 112, 3) := by decide +kernel
theorem dX9_inversions_5 : decode cX9_inversions 5 = .ok (.aload_n 0, 1) := by decide +kernel
theorem dX9_inversions_6 : decode cX9_inversions 6 = .ok (.aload_n 0, 1) := by decide +kernel
theorem dX9_inversions_7 : decode cX9_inversions 7 = .ok (.getfield 20, 3) := by decide +kernel
theorem dX9_inversions_10 : decode cX9_inversions 10 = .ok (.iconst 0, 1) := by decide +kernel
theorem dX9_inversions_11 : decode cX9_inversions 11 = .ok (.iaload, 1) := by decide +kernel
theorem dX9_inversions_12 : decode cX9_inversions 12 = .ok (.invokevirtual 230, 3) := by decide +kernel
theorem dX9_inversions_15 : decode cX9_inversions 15 = .ok (.aload_n 0, 1) := by decide +kernel
theorem dX9_inversions_16 : decode cX9_inversions 16 = .ok (.invokevirtual 233, 3) := by decide +kernel
theorem dX9_inversions_19 : decode cX9_inversions 19 = .ok (.istore_n 1, 1) := by decide +kernel
theorem dX9_inversions_20 : decode cX9_inversions 20 = .ok (.iconst 0, 1) := by decide +kernel
theorem dX9_inversions_21 : decode cX9_inversions 21 = .ok (.istore_n 2, 1) := by decide +kernel
theorem dX9_inversions_22 : decode cX9_inversions 22 = .ok (.iconst 0, 1) := by decide +kernel
theorem dX9_inversions_23 : decode cX9_inversions 23 = .ok (.istore_n 3, 1) := by decide +kernel
theorem dX9_inversions_24 : decode cX9_inversions 24 = .ok (.iload_n 3, 1) := by decide +kernel
theorem dX9_inversions_25 : decode cX9_inversions 25 = .ok (.aload_n 0, 1) := by decide +kernel
theorem dX9_inversions_26 : decode cX9_inversions 26 = .ok (.getfield 20, 3) := by decide +kernel
theorem dX9_inversions_29 : decode cX9_inversions 29 = .ok (.iconst 0, 1) := by decide +kernel
theorem dX9_inversions_30 : decode cX9_inversions 30 = .ok (.iaload, 1) := by decide +kernel
theorem dX9_inversions_31 : decode cX9_inversions 31 = .ok (.if_icmp .ge 70, 3) := by decide +kernel
theorem dX9_inversions_34 : decode cX9_inversions 34 = .ok (.iload_n 3, 1) := by decide +kernel
theorem dX9_inversions_35 : decode cX9_inversions 35 = .ok (.iconst 1, 1) := by decide +kernel
theorem dX9_inversions_36 : decode cX9_inversions 36 = .ok (.iadd, 1) := by decide +kernel
theorem dX9_inversions_37 : decode cX9_inversions 37 = .ok (.istore 4, 2) := by decide +kernel
theorem dX9_inversions_39 : decode cX9_inversions 39 = .ok (.iload 4, 2) := by decide +kernel
theorem dX9_inversions_41 : decode cX9_inversions 41 = .ok (.aload_n 0, 1) := by decide +kernel
theorem dX9_inversions_42 : decode cX9_inversions 42 = .ok (.getfield 20, 3) := by decide +kernel
theorem dX9_inversions_45 : decode cX9_inversions 45 = .ok (.iconst 0, 1) := by decide +kernel
theorem dX9_inversions_46 : decode cX9_inversions 46 = .ok (.iaload, 1) := by decide +kernel
theorem dX9_inversions_47 : decode cX9_inversions 47 = .ok (.if_icmp .ge 48, 3) := by decide +kernel
theorem dX9_inversions_50 : decode cX9_inversions 50 = .ok (.iload_n 2, 1) := by decide +kernel
theorem dX9_inversions_51 : decode cX9_inversions 51 = .ok (.aload_n 0, 1) := by decide +kernel
theorem dX9_inversions_52 : decode cX9_inversions 52 = .ok (.aload_n 0, 1) := by decide +kernel
theorem dX9_inversions_53 : decode cX9_inversions 53 = .ok (.getfield 57, 3) := by decide +kernel
theorem dX9_inversions_56 : decode cX9_inversions 56 = .ok (.iload_n 3, 1) := by decide +kernel
theorem dX9_inversions_57 : decode cX9_inversions 57 = .ok (.iaload, 1) := by decide +kernel
theorem dX9_inversions_58 : decode cX9_inversions 58 = .ok (.iload_n 1, 1) := by decide +kernel
theorem dX9_inversions_59 : decode cX9_inversions 59 = .ok (.iadd, 1) := by decide +kernel
theorem dX9_inversions_60 : decode cX9_inversions 60 = .ok (.invokevirtual 218, 3) := by decide +kernel
theorem dX9_inversions_63 : decode cX9_inversions 63 = .ok (.aload_n 0, 1) := by decide +kernel
theorem dX9_inversions_64 : decode cX9_inversions 64 = .ok (.aload_n 0, 1) := by decide +kernel
theorem dX9_inversions_65 : decode cX9_inversions 65 = .ok (.getfield 57, 3) := by decide +kernel
theorem dX9_inversions_68 : decode cX9_inversions 68 = .ok (.iload 4, 2) := by decide +kernel
theorem dX9_inversions_70 : decode cX9_inversions 70 = .ok (.iaload, 1) := by decide +kernel
theorem dX9_inversions_71 : decode cX9_inversions 71 = .ok (.iload_n 1, 1) := by decide +kernel
theorem dX9_inversions_72 : decode cX9_inversions 72 = .ok (.iadd, 1) := by decide +kernel
theorem dX9_inversions_73 : decode cX9_inversions 73 = .ok (.invokevirtual 218, 3) := by decide +kernel
theorem dX9_inversions_76 : decode cX9_inversions 76 = .ok (.if_icmp .le 7, 3) := by decide +kernel
theorem dX9_inversions_79 : decode cX9_inversions 79 = .ok (.iconst 1, 1) := by decide +kernel
theorem dX9_inversions_80 : decode cX9_inversions 80 = .ok (.goto 4, 3) := by decide +kernel
theorem dX9_inversions_83 : decode cX9_inversions 83 = .ok (.iconst 0, 1) := by decide +kernel
theorem dX9_inversions_84 : decode cX9_inversions 84 = .ok (.invokestatic 115, 3) := by decide +kernel
theorem dX9_inversions_87 : decode cX9_inversions 87 = .ok (.iadd, 1) := by decide +kernel
theorem dX9_inversions_88 : decode cX9_inversions 88 = .ok (.istore_n 2, 1) := by decide +kernel
theorem dX9_inversions_89 : decode cX9_inversions 89 = .ok (.iinc 4 1, 3) := by decide +kernel
theorem dX9_inversions_92 : decode cX9_inversions 92 = .ok (.goto (-53), 3) := by decide +kernel
theorem dX9_inversions_95 : decode cX9_inversions 95 = .ok (.iinc 3 1, 3) := by decide +kernel
theorem dX9_inversions_98 : decode cX9_inversions 98 = .ok (.goto (-74), 3) := by decide +kernel
theorem dX9_inversions_101 : decode cX9_inversions 101 = .ok (.iload_n 2, 1) := by decide +kernel
theorem dX9_inversions_102 : decode cX9_inversions 102 = .ok (.ireturn, 1) := by decide +kernel
theorem dX9_isAt_0 : decode cX9_isAt 0 = .ok (.aload_n 0, 1) := by decide +kernel
theorem dX9_isAt_1 : decode cX9_isAt 1 = .ok (.getfield 72, 3) := by decide +kernel
theorem dX9_isAt_4 : decode cX9_isAt 4 = .ok (.iload_n 1, 1) := by decide +kernel
theorem dX9_isAt_5 : decode cX9_isAt 5 = .ok (.iaload, 1) := by decide +kernel
theorem dX9_isAt_6 : decode cX9_isAt 6 = .ok (.iload_n 2, 1) := by decide +kernel
theorem dX9_isAt_7 : decode cX9_isAt 7 = .ok (.if_icmp .eq 13, 3) := by decide +kernel
theorem dX9_isAt_10 : decode cX9_isAt 10 = .ok (.aload_n 0, 1) := by decide +kernel
theorem dX9_isAt_11 : decode cX9_isAt 11 = .ok (.getfield 75, 3) := by decide +kernel
theorem dX9_isAt_14 : decode cX9_isAt 14 = .ok (.iload_n 1, 1) := by decide +kernel
theorem dX9_isAt_15 : decode cX9_isAt 15 = .ok (.iaload, 1) := by decide +kernel
theorem dX9_isAt_16 : decode cX9_isAt 16 = .ok (.iload_n 2, 1) := by decide +kernel
theorem dX9_isAt_17 : decode cX9_isAt 17 = .ok (.if_icmp .ne 7, 3) := by decide +kernel
theorem dX9_isAt_20 : decode cX9_isAt 20 = .ok (.iconst 1, 1) := by decide +kernel
theorem dX9_isAt_21 : decode cX9_isAt 21 = .ok (.goto 4, 3) := by decide +kernel
theorem dX9_isAt_24 : decode cX9_isAt 24 = .ok (.iconst 0, 1) := by decide +kernel
theorem dX9_isAt_25 : decode cX9_isAt 25 = .ok (.ireturn, 1) := by decide +kernel
theorem dX9_isBack_0 : decode cX9_isBack 0 = .ok (.iload_n 0, 1) := by decide +kernel
theorem dX9_isBack_1 : decode cX9_isBack 1 = .ok (.i2l, 1) := by decide +kernel
theorem dX9_isBack_2 : decode cX9_isBack 2 = .ok (.lconst 0, 1) := by decide +kernel
theorem dX9_isBack_3 : decode cX9_isBack 3 = .ok (.ldc2_w 332, 3) := by decide +kernel
theorem dX9_isBack_6 : decode cX9_isBack 6 = .ok (.invokestatic 130, 3) := by decide +kernel
theorem dX9_isBack_9 : decode cX9_isBack 9 = .ok (.ireturn, 1) := by decide +kernel
theorem dX9_isBreak_0 : decode cX9_isBreak 0 = .ok (.aload_n 0, 1) := by decide +kernel
theorem dX9_isBreak_1 : decode cX9_isBreak 1 = .ok (.invokevirtual 233, 3) := by decide +kernel
theorem dX9_isBreak_4 : decode cX9_isBreak 4 = .ok (.istore_n 2, 1) := by decide +kernel
theorem dX9_isBreak_5 : decode cX9_isBreak 5 = .ok (.iconst 0, 1) := by decide +kernel
theorem dX9_isBreak_6 : decode cX9_isBreak 6 = .ok (.istore_n 3, 1) := by decide +kernel
theorem dX9_isBreak_7 : decode cX9_isBreak 7 = .ok (.iconst 0, 1) := by decide +kernel
theorem dX9_isBreak_8 : decode cX9_isBreak 8 = .ok (.istore 4, 2) := by decide +kernel
theorem dX9_isBreak_10 : decode cX9_isBreak 10 = .ok (.iload 4, 2) := by decide +kernel
theorem dX9_isBreak_12 : decode cX9_isBreak 12 = .ok (.aload_n 0, 1) := by decide +kernel
theorem dX9_isBreak_13 : decode cX9_isBreak 13 = .ok (.getfield 20, 3) := by decide +kernel
theorem dX9_isBreak_16 : decode cX9_isBreak 16 = .ok (.iconst 0, 1) := by decide +kernel
theorem dX9_isBreak_17 : decode cX9_isBreak 17 = .ok (.iaload, 1) := by decide +kernel
theorem dX9_isBreak_18 : decode cX9_isBreak 18 = .ok (.if_icmp .ge 31, 3) := by decide +kernel
theorem dX9_isBreak_21 : decode cX9_isBreak 21 = .ok (.iload_n 3, 1) := by decide +kernel
theorem dX9_isBreak_22 : decode cX9_isBreak 22 = .ok (.aload_n 0, 1) := by decide +kernel
theorem dX9_isBreak_23 : decode cX9_isBreak 23 = .ok (.iload 4, 2) := by decide +kernel
theorem dX9_isBreak_25 : decode cX9_isBreak 25 = .ok (.iload_n 2, 1) := by decide +kernel
theorem dX9_isBreak_26 : decode cX9_isBreak 26 = .ok (.invokevirtual 236, 3) := by decide +kernel
theorem dX9_isBreak_29 : decode cX9_isBreak 29 = .ok (.iload_n 1, 1) := by decide +kernel
theorem dX9_isBreak_30 : decode cX9_isBreak 30 = .ok (.if_icmp .ge 7, 3) := by decide +kernel
theorem dX9_isBreak_33 : decode cX9_isBreak 33 = .ok (.iconst 1, 1) := by decide +kernel
theorem dX9_isBreak_34 : decode cX9_isBreak 34 = .ok (.goto 4, 3) := by decide +kernel
theorem dX9_isBreak_37 : decode cX9_isBreak 37 = .ok (.iconst 0, 1) := by decide +kernel
theorem dX9_isBreak_38 : decode cX9_isBreak 38 = .ok (.invokestatic 115, 3) := by decide +kernel
theorem dX9_isBreak_41 : decode cX9_isBreak 41 = .ok (.iadd, 1) := by decide +kernel
theorem dX9_isBreak_42 : decode cX9_isBreak 42 = .ok (.istore_n 3, 1) := by decide +kernel
theorem dX9_isBreak_43 : decode cX9_isBreak 43 = .ok (.iinc 4 1, 3) := by decide +kernel
theorem dX9_isBreak_46 : decode cX9_isBreak 46 = .ok (.goto (-36), 3) := by decide +kernel
theorem dX9_isBreak_49 : decode cX9_isBreak 49 = .ok (.iload_n 3, 1) := by decide +kernel
theorem dX9_isBreak_50 : decode cX9_isBreak 50 = .ok (.iload_n 1, 1) := by decide +kernel
theorem dX9_isBreak_51 : decode cX9_isBreak 51 = .ok (.if_icmp .ne 7, 3) := by decide +kernel
theorem dX9_isBreak_54 : decode cX9_isBreak 54 = .ok (.iconst 1, 1) := by decide +kernel
theorem dX9_isBreak_55 : decode cX9_isBreak 55 = .ok (.goto 4, 3) := by decide +kernel
theorem dX9_isBreak_58 : decode cX9_isBreak 58 = .ok (.iconst 0, 1) := by decide +kernel
theorem dX9_isBreak_59 : decode cX9_isBreak 59 = .ok (.ireturn, 1) := by decide +kernel
theorem dX9_isCar_0 : decode cX9_isCar 0 = .ok (.iload_n 1, 1) := by decide +kernel
theorem dX9_isCar_1 : decode cX9_isCar 1 = .ok (.i2l, 1) := by decide +kernel
theorem dX9_isCar_2 : decode cX9_isCar 2 = .ok (.lconst 0, 1) := by decide +kernel
theorem dX9_isCar_3 : decode cX9_isCar 3 = .ok (.aload_n 0, 1) := by decide +kernel
theorem dX9_isCar_4 : decode cX9_isCar 4 = .ok (.getfield 20, 3) := by decide +kernel
theorem dX9_isCar_7 : decode cX9_isCar 7 = .ok (.iconst 0, 1) := by decide +kernel
theorem dX9_isCar_8 : decode cX9_isCar 8 = .ok (.iaload, 1) := by decide +kernel
theorem dX9_isCar_9 : decode cX9_isCar 9 = .ok (.iconst 1, 1) := by decide +kernel
theorem dX9_isCar_10 : decode cX9_isCar 10 = .ok (.isub, 1) := by decide +kernel
theorem dX9_isCar_11 : decode cX9_isCar 11 = .ok (.i2l, 1) := by decide +kernel
theorem dX9_isCar_12 : decode cX9_isCar 12 = .ok (.invokestatic 130, 3) := by decide +kernel
theorem dX9_isCar_15 : decode cX9_isCar 15 = .ok (.ireturn, 1) := by decide +kernel
theorem dX9_isDigit_0 : decode cX9_isDigit 0 = .ok (.iload_n 0, 1) := by decide +kernel
theorem dX9_isDigit_1 : decode cX9_isDigit 1 = .ok (.bipush 48, 2) := by decide +kernel
theorem dX9_isDigit_3 : decode cX9_isDigit 3 = .ok (.if_icmp .lt 13, 3) := by decide +kernel
theorem dX9_isDigit_6 : decode cX9_isDigit 6 = .ok (.iload_n 0, 1) := by decide +kernel
theorem dX9_isDigit_7 : decode cX9_isDigit 7 = .ok (.bipush 57, 2) := by decide +kernel
theorem dX9_isDigit_9 : decode cX9_isDigit 9 = .ok (.if_icmp .gt 7, 3) := by decide +kernel
theorem dX9_isDigit_12 : decode cX9_isDigit 12 = .ok (.iconst 1, 1) := by decide +kernel
theorem dX9_isDigit_13 : decode cX9_isDigit 13 = .ok (.goto 4, 3) := by decide +kernel
theorem dX9_isDigit_16 : decode cX9_isDigit 16 = .ok (.iconst 0, 1) := by decide +kernel
theorem dX9_isDigit_17 : decode cX9_isDigit 17 = .ok (.ireturn, 1) := by decide +kernel
theorem dX9_isGood_0 : decode cX9_isGood 0 = .ok (.aload_n 0, 1) := by decide +kernel
theorem dX9_isGood_1 : decode cX9_isGood 1 = .ok (.getfield 164, 3) := by decide +kernel
theorem dX9_isGood_4 : decode cX9_isGood 4 = .ok (.ifCond .ne 7, 3) := by decide +kernel
theorem dX9_isGood_7 : decode cX9_isGood 7 = .ok (.iconst 1, 1) := by decide +kernel
theorem dX9_isGood_8 : decode cX9_isGood 8 = .ok (.goto 4, 3) := by decide +kernel
theorem dX9_isGood_11 : decode cX9_isGood 11 = .ok (.iconst 0, 1) := by decide +kernel
theorem dX9_isGood_12 : decode cX9_isGood 12 = .ok (.ireturn, 1) := by decide +kernel
theorem dX9_isIn_0 : decode cX9_isIn 0 = .ok (.lload_n 0, 1) := by decide +kernel
theorem dX9_isIn_1 : decode cX9_isIn 1 = .ok (.lload_n 2, 1) := by decide +kernel
theorem dX9_isIn_2 : decode cX9_isIn 2 = .ok (.lcmp, 1) := by decide +kernel
theorem dX9_isIn_3 : decode cX9_isIn 3 = .ok (.ifCond .lt 14, 3) := by decide +kernel
theorem dX9_isIn_6 : decode cX9_isIn 6 = .ok (.lload_n 0, 1) := by decide +kernel
theorem dX9_isIn_7 : decode cX9_isIn 7 = .ok (.lload 4, 2) := by decide +kernel
theorem dX9_isIn_9 : decode cX9_isIn 9 = .ok (.lcmp, 1) := by decide +kernel
theorem dX9_isIn_10 : decode cX9_isIn 10 = .ok (.ifCond .gt 7, 3) := by decide +kernel
theorem dX9_isIn_13 : decode cX9_isIn 13 = .ok (.iconst 1, 1) := by decide +kernel
theorem dX9_isIn_14 : decode cX9_isIn 14 = .ok (.goto 4, 3) := by decide +kernel
theorem dX9_isIn_17 : decode cX9_isIn 17 = .ok (.iconst 0, 1) := by decide +kernel
theorem dX9_isIn_18 : decode cX9_isIn 18 = .ok (.ireturn, 1) := by decide +kernel
theorem dX9_isLetter_0 : decode cX9_isLetter 0 = .ok (.iload_n 0, 1) := by decide +kernel
theorem dX9_isLetter_1 : decode cX9_isLetter 1 = .ok (.bipush 97, 2) := by decide +kernel
theorem dX9_isLetter_3 : decode cX9_isLetter 3 = .ok (.if_icmp .lt 13, 3) := by decide +kernel
theorem dX9_isLetter_6 : decode cX9_isLetter 6 = .ok (.iload_n 0, 1) := by decide +kernel
theorem dX9_isLetter_7 : decode cX9_isLetter 7 = .ok (.bipush 122, 2) := by decide +kernel
theorem dX9_isLetter_9 : decode cX9_isLetter 9 = .ok (.if_icmp .gt 7, 3) := by decide +kernel
theorem dX9_isLetter_12 : decode cX9_isLetter 12 = .ok (.iconst 1, 1) := by decide +kernel
theorem dX9_isLetter_13 : decode cX9_isLetter 13 = .ok (.goto 4, 3) := by decide +kernel
theorem dX9_isLetter_16 : decode cX9_isLetter 16 = .ok (.iconst 0, 1) := by decide +kernel
theorem dX9_isLetter_17 : decode cX9_isLetter 17 = .ok (.ireturn, 1) := by decide +kernel
theorem dX9_isParking_0 : decode cX9_isParking 0 = .ok (.aload_n 0, 1) := by decide +kernel
theorem dX9_isParking_1 : decode cX9_isParking 1 = .ok (.iconst 0, 1) := by decide +kernel
theorem dX9_isParking_2 : decode cX9_isParking 2 = .ok (.putfield 112, 3) := by decide +kernel
theorem dX9_isParking_5 : decode cX9_isParking 5 = .ok (.aload_n 0, 1) := by decide +kernel
theorem dX9_isParking_6 : decode cX9_isParking 6 = .ok (.aload_n 0, 1) := by decide +kernel
theorem dX9_isParking_7 : decode cX9_isParking 7 = .ok (.getfield 20, 3) := by decide +kernel
theorem dX9_isParking_10 : decode cX9_isParking 10 = .ok (.iconst 0, 1) := by decide +kernel
theorem dX9_isParking_11 : decode cX9_isParking 11 = .ok (.iaload, 1) := by decide +kernel
theorem dX9_isParking_12 : decode cX9_isParking 12 = .ok (.invokevirtual 230, 3) := by decide +kernel
theorem dX9_isParking_15 : decode cX9_isParking 15 = .ok (.aload_n 0, 1) := by decide +kernel
theorem dX9_isParking_16 : decode cX9_isParking 16 = .ok (.invokevirtual 227, 3) := by decide +kernel
theorem dX9_isParking_19 : decode cX9_isParking 19 = .ok (.aload_n 0, 1) := by decide +kernel
theorem dX9_isParking_20 : decode cX9_isParking 20 = .ok (.getfield 20, 3) := by decide +kernel
theorem dX9_isParking_23 : decode cX9_isParking 23 = .ok (.iconst 0, 1) := by decide +kernel
theorem dX9_isParking_24 : decode cX9_isParking 24 = .ok (.iaload, 1) := by decide +kernel
theorem dX9_isParking_25 : decode cX9_isParking 25 = .ok (.if_icmp .ne 7, 3) := by decide +kernel
theorem dX9_isParking_28 : decode cX9_isParking 28 = .ok (.iconst 1, 1) := by decide +kernel
theorem dX9_isParking_29 : decode cX9_isParking 29 = .ok (.goto 4, 3) := by decide +kernel
theorem dX9_isParking_32 : decode cX9_isParking 32 = .ok (.iconst 0, 1) := by decide +kernel
theorem dX9_isParking_33 : decode cX9_isParking 33 = .ok (.ireturn, 1) := by decide +kernel
theorem dX9_isSetting_0 : decode cX9_isSetting 0 = .ok (.iload_n 0, 1) := by decide +kernel
theorem dX9_isSetting_1 : decode cX9_isSetting 1 = .ok (.i2l, 1) := by decide +kernel
theorem dX9_isSetting_2 : decode cX9_isSetting 2 = .ok (.lconst 0, 1) := by decide +kernel
theorem dX9_isSetting_3 : decode cX9_isSetting 3 = .ok (.ldc2_w 312, 3) := by decide +kernel
theorem dX9_isSetting_6 : decode cX9_isSetting 6 = .ok (.invokestatic 130, 3) := by decide +kernel
theorem dX9_isSetting_9 : decode cX9_isSetting 9 = .ok (.ireturn, 1) := by decide +kernel
theorem dX9_isSign_0 : decode cX9_isSign 0 = .ok (.aload_n 0, 1) := by decide +kernel
theorem dX9_isSign_1 : decode cX9_isSign 1 = .ok (.getfield 164, 3) := by decide +kernel
theorem dX9_isSign_4 : decode cX9_isSign 4 = .ok (.ifCond .ne 23, 3) := by decide +kernel
theorem dX9_isSign_7 : decode cX9_isSign 7 = .ok (.aload_n 0, 1) := by decide +kernel
theorem dX9_isSign_8 : decode cX9_isSign 8 = .ok (.getfield 154, 3) := by decide +kernel
theorem dX9_isSign_11 : decode cX9_isSign 11 = .ok (.iconst 3, 1) := by decide +kernel
theorem dX9_isSign_12 : decode cX9_isSign 12 = .ok (.if_icmp .ne 15, 3) := by decide +kernel
theorem dX9_isSign_15 : decode cX9_isSign 15 = .ok (.aload_n 0, 1) := by decide +kernel
theorem dX9_isSign_16 : decode cX9_isSign 16 = .ok (.getfield 151, 3) := by decide +kernel
theorem dX9_isSign_19 : decode cX9_isSign 19 = .ok (.iload_n 1, 1) := by decide +kernel
theorem dX9_isSign_20 : decode cX9_isSign 20 = .ok (.if_icmp .ne 7, 3) := by decide +kernel
theorem dX9_isSign_23 : decode cX9_isSign 23 = .ok (.iconst 1, 1) := by decide +kernel
theorem dX9_isSign_24 : decode cX9_isSign 24 = .ok (.goto 4, 3) := by decide +kernel
theorem dX9_isSign_27 : decode cX9_isSign 27 = .ok (.iconst 0, 1) := by decide +kernel
theorem dX9_isSign_28 : decode cX9_isSign 28 = .ok (.ireturn, 1) := by decide +kernel
theorem dX9_isSpot_0 : decode cX9_isSpot 0 = .ok (.iload_n 1, 1) := by decide +kernel
theorem dX9_isSpot_1 : decode cX9_isSpot 1 = .ok (.i2l, 1) := by decide +kernel
theorem dX9_isSpot_2 : decode cX9_isSpot 2 = .ok (.lconst 0, 1) := by decide +kernel
theorem dX9_isSpot_3 : decode cX9_isSpot 3 = .ok (.aload_n 0, 1) := by decide +kernel
theorem dX9_isSpot_4 : decode cX9_isSpot 4 = .ok (.getfield 20, 3) := by decide +kernel
theorem dX9_isSpot_7 : decode cX9_isSpot 7 = .ok (.iconst 0, 1) := by decide +kernel
theorem dX9_isSpot_8 : decode cX9_isSpot 8 = .ok (.iaload, 1) := by decide +kernel
theorem dX9_isSpot_9 : decode cX9_isSpot 9 = .ok (.i2l, 1) := by decide +kernel
theorem dX9_isSpot_10 : decode cX9_isSpot 10 = .ok (.invokestatic 130, 3) := by decide +kernel
theorem dX9_isSpot_13 : decode cX9_isSpot 13 = .ok (.ireturn, 1) := by decide +kernel
theorem dX9_isTakenBy_0 : decode cX9_isTakenBy 0 = .ok (.aload_n 0, 1) := by decide +kernel
theorem dX9_isTakenBy_1 : decode cX9_isTakenBy 1 = .ok (.getfield 54, 3) := by decide +kernel
theorem dX9_isTakenBy_4 : decode cX9_isTakenBy 4 = .ok (.iload_n 1, 1) := by decide +kernel
theorem dX9_isTakenBy_5 : decode cX9_isTakenBy 5 = .ok (.iaload, 1) := by decide +kernel
theorem dX9_isTakenBy_6 : decode cX9_isTakenBy 6 = .ok (.i2l, 1) := by decide +kernel
theorem dX9_isTakenBy_7 : decode cX9_isTakenBy 7 = .ok (.lconst 0, 1) := by decide +kernel
theorem dX9_isTakenBy_8 : decode cX9_isTakenBy 8 = .ok (.iload_n 2, 1) := by decide +kernel
theorem dX9_isTakenBy_9 : decode cX9_isTakenBy 9 = .ok (.i2l, 1) := by decide +kernel
theorem dX9_isTakenBy_10 : decode cX9_isTakenBy 10 = .ok (.invokestatic 130, 3) := by decide +kernel
theorem dX9_isTakenBy_13 : decode cX9_isTakenBy 13 = .ok (.ireturn, 1) := by decide +kernel
theorem dX9_isTurn_0 : decode cX9_isTurn 0 = .ok (.iload_n 0, 1) := by decide +kernel
theorem dX9_isTurn_1 : decode cX9_isTurn 1 = .ok (.i2l, 1) := by decide +kernel
theorem dX9_isTurn_2 : decode cX9_isTurn 2 = .ok (.lconst 0, 1) := by decide +kernel
theorem dX9_isTurn_3 : decode cX9_isTurn 3 = .ok (.ldc2_w 439, 3) := by decide +kernel
theorem dX9_isTurn_6 : decode cX9_isTurn 6 = .ok (.invokestatic 130, 3) := by decide +kernel
theorem dX9_isTurn_9 : decode cX9_isTurn 9 = .ok (.ireturn, 1) := by decide +kernel
theorem dX9_isWord_0 : decode cX9_isWord 0 = .ok (.aload_n 0, 1) := by decide +kernel
theorem dX9_isWord_1 : decode cX9_isWord 1 = .ok (.getfield 164, 3) := by decide +kernel
theorem dX9_isWord_4 : decode cX9_isWord 4 = .ok (.ifCond .ne 24, 3) := by decide +kernel
theorem dX9_isWord_7 : decode cX9_isWord 7 = .ok (.aload_n 0, 1) := by decide +kernel
theorem dX9_isWord_8 : decode cX9_isWord 8 = .ok (.getfield 154, 3) := by decide +kernel
theorem dX9_isWord_11 : decode cX9_isWord 11 = .ok (.iconst 1, 1) := by decide +kernel
theorem dX9_isWord_12 : decode cX9_isWord 12 = .ok (.if_icmp .ne 16, 3) := by decide +kernel
theorem dX9_isWord_15 : decode cX9_isWord 15 = .ok (.aload_n 0, 1) := by decide +kernel
theorem dX9_isWord_16 : decode cX9_isWord 16 = .ok (.getfield 147, 3) := by decide +kernel
theorem dX9_isWord_19 : decode cX9_isWord 19 = .ok (.lload_n 1, 1) := by decide +kernel
theorem dX9_isWord_20 : decode cX9_isWord 20 = .ok (.lcmp, 1) := by decide +kernel
theorem dX9_isWord_21 : decode cX9_isWord 21 = .ok (.ifCond .ne 7, 3) := by decide +kernel
theorem dX9_isWord_24 : decode cX9_isWord 24 = .ok (.iconst 1, 1) := by decide +kernel
theorem dX9_isWord_25 : decode cX9_isWord 25 = .ok (.goto 4, 3) := by decide +kernel
theorem dX9_isWord_28 : decode cX9_isWord 28 = .ok (.iconst 0, 1) := by decide +kernel
theorem dX9_isWord_29 : decode cX9_isWord 29 = .ok (.ireturn, 1) := by decide +kernel
theorem dX9_joins_0 : decode cX9_joins 0 = .ok (.aload_n 0, 1) := by decide +kernel
theorem dX9_joins_1 : decode cX9_joins 1 = .ok (.getfield 72, 3) := by decide +kernel
theorem dX9_joins_4 : decode cX9_joins 4 = .ok (.aload_n 0, 1) := by decide +kernel
theorem dX9_joins_5 : decode cX9_joins 5 = .ok (.getfield 363, 3) := by decide +kernel
theorem dX9_joins_8 : decode cX9_joins 8 = .ok (.iload_n 1, 1) := by decide +kernel
theorem dX9_joins_9 : decode cX9_joins 9 = .ok (.iload_n 2, 1) := by decide +kernel
theorem dX9_joins_10 : decode cX9_joins 10 = .ok (.invokestatic 366, 3) := by decide +kernel
theorem dX9_joins_13 : decode cX9_joins 13 = .ok (.iastore, 1) := by decide +kernel
theorem dX9_joins_14 : decode cX9_joins 14 = .ok (.aload_n 0, 1) := by decide +kernel
theorem dX9_joins_15 : decode cX9_joins 15 = .ok (.getfield 75, 3) := by decide +kernel
theorem dX9_joins_18 : decode cX9_joins 18 = .ok (.aload_n 0, 1) := by decide +kernel
theorem dX9_joins_19 : decode cX9_joins 19 = .ok (.getfield 363, 3) := by decide +kernel
theorem dX9_joins_22 : decode cX9_joins 22 = .ok (.iload_n 1, 1) := by decide +kernel
theorem dX9_joins_23 : decode cX9_joins 23 = .ok (.iload_n 2, 1) := by decide +kernel
theorem dX9_joins_24 : decode cX9_joins 24 = .ok (.iadd, 1) := by decide +kernel
theorem dX9_joins_25 : decode cX9_joins 25 = .ok (.iload_n 1, 1) := by decide +kernel
theorem dX9_joins_26 : decode cX9_joins 26 = .ok (.iload_n 2, 1) := by decide +kernel
theorem dX9_joins_27 : decode cX9_joins 27 = .ok (.invokestatic 366, 3) := by decide +kernel
theorem dX9_joins_30 : decode cX9_joins 30 = .ok (.isub, 1) := by decide +kernel
theorem dX9_joins_31 : decode cX9_joins 31 = .ok (.iastore, 1) := by decide +kernel
theorem dX9_joins_32 : decode cX9_joins 32 = .ok (.aload_n 0, 1) := by decide +kernel
theorem dX9_joins_33 : decode cX9_joins 33 = .ok (.dup, 1) := by decide +kernel
theorem dX9_joins_34 : decode cX9_joins 34 = .ok (.getfield 363, 3) := by decide +kernel
theorem dX9_joins_37 : decode cX9_joins 37 = .ok (.iconst 1, 1) := by decide +kernel
theorem dX9_joins_38 : decode cX9_joins 38 = .ok (.iadd, 1) := by decide +kernel
theorem dX9_joins_39 : decode cX9_joins 39 = .ok (.putfield 363, 3) := by decide +kernel
theorem dX9_joins_42 : decode cX9_joins 42 = .ok (.return_, 1) := by decide +kernel
theorem dX9_keeps_0 : decode cX9_keeps 0 = .ok (.aload_n 0, 1) := by decide +kernel
theorem dX9_keeps_1 : decode cX9_keeps 1 = .ok (.getfield 199, 3) := by decide +kernel
theorem dX9_keeps_4 : decode cX9_keeps 4 = .ok (.bipush 6, 2) := by decide +kernel
theorem dX9_keeps_6 : decode cX9_keeps 6 = .ok (.if_icmp .ne 81, 3) := by decide +kernel
theorem dX9_keeps_9 : decode cX9_keeps 9 = .ok (.aload_n 0, 1) := by decide +kernel
theorem dX9_keeps_10 : decode cX9_keeps 10 = .ok (.dup, 1) := by decide +kernel
theorem dX9_keeps_11 : decode cX9_keeps 11 = .ok (.getfield 199, 3) := by decide +kernel
theorem dX9_keeps_14 : decode cX9_keeps 14 = .ok (.iconst 1, 1) := by decide +kernel
theorem dX9_keeps_15 : decode cX9_keeps 15 = .ok (.isub, 1) := by decide +kernel
theorem dX9_keeps_16 : decode cX9_keeps 16 = .ok (.putfield 199, 3) := by decide +kernel
theorem dX9_keeps_19 : decode cX9_keeps 19 = .ok (.iconst 0, 1) := by decide +kernel
theorem dX9_keeps_20 : decode cX9_keeps 20 = .ok (.istore_n 1, 1) := by decide +kernel
theorem dX9_keeps_21 : decode cX9_keeps 21 = .ok (.iload_n 1, 1) := by decide +kernel
theorem dX9_keeps_22 : decode cX9_keeps 22 = .ok (.bipush 13, 2) := by decide +kernel
theorem dX9_keeps_24 : decode cX9_keeps 24 = .ok (.aload_n 0, 1) := by decide +kernel
theorem dX9_keeps_25 : decode cX9_keeps 25 = .ok (.getfield 199, 3) := by decide +kernel
theorem dX9_keeps_28 : decode cX9_keeps 28 = .ok (.imul, 1) := by decide +kernel
theorem dX9_keeps_29 : decode cX9_keeps 29 = .ok (.if_icmp .ge 24, 3) := by decide +kernel
theorem dX9_keeps_32 : decode cX9_keeps 32 = .ok (.aload_n 0, 1) := by decide +kernel
theorem dX9_keeps_33 : decode cX9_keeps 33 = .ok (.getfield 32, 3) := by decide +kernel
theorem dX9_keeps_36 : decode cX9_keeps 36 = .ok (.iload_n 1, 1) := by decide +kernel
theorem dX9_keeps_37 : decode cX9_keeps 37 = .ok (.aload_n 0, 1) := by decide +kernel
theorem dX9_keeps_38 : decode cX9_keeps 38 = .ok (.getfield 32, 3) := by decide +kernel
theorem dX9_keeps_41 : decode cX9_keeps 41 = .ok (.iload_n 1, 1) := by decide +kernel
theorem dX9_keeps_42 : decode cX9_keeps 42 = .ok (.bipush 13, 2) := by decide +kernel
theorem dX9_keeps_44 : decode cX9_keeps 44 = .ok (.iadd, 1) := by decide +kernel
theorem dX9_keeps_45 : decode cX9_keeps 45 = .ok (.iaload, 1) := by decide +kernel
theorem dX9_keeps_46 : decode cX9_keeps 46 = .ok (.iastore, 1) := by decide +kernel
theorem dX9_keeps_47 : decode cX9_keeps 47 = .ok (.iinc 1 1, 3) := by decide +kernel
theorem dX9_keeps_50 : decode cX9_keeps 50 = .ok (.goto (-29), 3) := by decide +kernel
theorem dX9_keeps_53 : decode cX9_keeps 53 = .ok (.iconst 0, 1) := by decide +kernel
theorem dX9_keeps_54 : decode cX9_keeps 54 = .ok (.istore_n 1, 1) := by decide +kernel
theorem dX9_keeps_55 : decode cX9_keeps 55 = .ok (.iload_n 1, 1) := by decide +kernel
theorem dX9_keeps_56 : decode cX9_keeps 56 = .ok (.bipush 11, 2) := by decide +kernel
theorem dX9_keeps_58 : decode cX9_keeps 58 = .ok (.aload_n 0, 1) := by decide +kernel
theorem dX9_keeps_59 : decode cX9_keeps 59 = .ok (.getfield 199, 3) := by decide +kernel
theorem dX9_keeps_62 : decode cX9_keeps 62 = .ok (.imul, 1) := by decide +kernel
theorem dX9_keeps_63 : decode cX9_keeps 63 = .ok (.if_icmp .ge 24, 3) := by decide +kernel
theorem dX9_keeps_66 : decode cX9_keeps 66 = .ok (.aload_n 0, 1) := by decide +kernel
theorem dX9_keeps_67 : decode cX9_keeps 67 = .ok (.getfield 48, 3) := by decide +kernel
theorem dX9_keeps_70 : decode cX9_keeps 70 = .ok (.iload_n 1, 1) := by decide +kernel
theorem dX9_keeps_71 : decode cX9_keeps 71 = .ok (.aload_n 0, 1) := by decide +kernel
theorem dX9_keeps_72 : decode cX9_keeps 72 = .ok (.getfield 48, 3) := by decide +kernel
theorem dX9_keeps_75 : decode cX9_keeps 75 = .ok (.iload_n 1, 1) := by decide +kernel
theorem dX9_keeps_76 : decode cX9_keeps 76 = .ok (.bipush 11, 2) := by decide +kernel
theorem dX9_keeps_78 : decode cX9_keeps 78 = .ok (.iadd, 1) := by decide +kernel
theorem dX9_keeps_79 : decode cX9_keeps 79 = .ok (.laload, 1) := by decide +kernel
theorem dX9_keeps_80 : decode cX9_keeps 80 = .ok (.lastore, 1) := by decide +kernel
theorem dX9_keeps_81 : decode cX9_keeps 81 = .ok (.iinc 1 1, 3) := by decide +kernel
theorem dX9_keeps_84 : decode cX9_keeps 84 = .ok (.goto (-29), 3) := by decide +kernel
theorem dX9_keeps_87 : decode cX9_keeps 87 = .ok (.aload_n 0, 1) := by decide +kernel
theorem dX9_keeps_88 : decode cX9_keeps 88 = .ok (.getfield 26, 3) := by decide +kernel
theorem dX9_keeps_91 : decode cX9_keeps 91 = .ok (.iconst 0, 1) := by decide +kernel
theorem dX9_keeps_92 : decode cX9_keeps 92 = .ok (.aload_n 0, 1) := by decide +kernel
theorem dX9_keeps_93 : decode cX9_keeps 93 = .ok (.getfield 32, 3) := by decide +kernel
theorem dX9_keeps_96 : decode cX9_keeps 96 = .ok (.bipush 13, 2) := by decide +kernel
theorem dX9_keeps_98 : decode cX9_keeps 98 = .ok (.aload_n 0, 1) := by decide +kernel
theorem dX9_keeps_99 : decode cX9_keeps 99 = .ok (.getfield 199, 3) := by decide +kernel
theorem dX9_keeps_102 : decode cX9_keeps 102 = .ok (.imul, 1) := by decide +kernel
theorem dX9_keeps_103 : decode cX9_keeps 103 = .ok (.invokestatic 191, 3) := by decide +kernel
theorem dX9_keeps_106 : decode cX9_keeps 106 = .ok (.aload_n 0, 1) := by decide +kernel
theorem dX9_keeps_107 : decode cX9_keeps 107 = .ok (.getfield 42, 3) := by decide +kernel
theorem dX9_keeps_110 : decode cX9_keeps 110 = .ok (.iconst 0, 1) := by decide +kernel
theorem dX9_keeps_111 : decode cX9_keeps 111 = .ok (.aload_n 0, 1) := by decide +kernel
theorem dX9_keeps_112 : decode cX9_keeps 112 = .ok (.getfield 48, 3) := by decide +kernel
theorem dX9_keeps_115 : decode cX9_keeps 115 = .ok (.bipush 11, 2) := by decide +kernel
theorem dX9_keeps_117 : decode cX9_keeps 117 = .ok (.aload_n 0, 1) := by decide +kernel
theorem dX9_keeps_118 : decode cX9_keeps 118 = .ok (.getfield 199, 3) := by decide +kernel
theorem dX9_keeps_121 : decode cX9_keeps 121 = .ok (.imul, 1) := by decide +kernel
theorem dX9_keeps_122 : decode cX9_keeps 122 = .ok (.invokestatic 195, 3) := by decide +kernel
theorem dX9_keeps_125 : decode cX9_keeps 125 = .ok (.aload_n 0, 1) := by decide +kernel
theorem dX9_keeps_126 : decode cX9_keeps 126 = .ok (.dup, 1) := by decide +kernel
theorem dX9_keeps_127 : decode cX9_keeps 127 = .ok (.getfield 199, 3) := by decide +kernel
theorem dX9_keeps_130 : decode cX9_keeps 130 = .ok (.iconst 1, 1) := by decide +kernel
theorem dX9_keeps_131 : decode cX9_keeps 131 = .ok (.iadd, 1) := by decide +kernel
theorem dX9_keeps_132 : decode cX9_keeps 132 = .ok (.putfield 199, 3) := by decide +kernel
theorem dX9_keeps_135 : decode cX9_keeps 135 = .ok (.return_, 1) := by decide +kernel
theorem dX9_kept_0 : decode cX9_kept 0 = .ok (.aload_n 0, 1) := by decide +kernel
theorem dX9_kept_1 : decode cX9_kept 1 = .ok (.invokevirtual 202, 3) := by decide +kernel
theorem dX9_kept_4 : decode cX9_kept 4 = .ok (.iload_n 1, 1) := by decide +kernel
theorem dX9_kept_5 : decode cX9_kept 5 = .ok (.ireturn, 1) := by decide +kernel
theorem dX9_latest_0 : decode cX9_latest 0 = .ok (.aload_n 0, 1) := by decide +kernel
theorem dX9_latest_1 : decode cX9_latest 1 = .ok (.aload_n 0, 1) := by decide +kernel
theorem dX9_latest_2 : decode cX9_latest 2 = .ok (.iload_n 1, 1) := by decide +kernel
theorem dX9_latest_3 : decode cX9_latest 3 = .ok (.invokevirtual 325, 3) := by decide +kernel
theorem dX9_latest_6 : decode cX9_latest 6 = .ok (.invokevirtual 122, 3) := by decide +kernel
theorem dX9_latest_9 : decode cX9_latest 9 = .ok (.ifCond .ne 5, 3) := by decide +kernel
theorem dX9_latest_12 : decode cX9_latest 12 = .ok (.iconst 0, 1) := by decide +kernel
theorem dX9_latest_13 : decode cX9_latest 13 = .ok (.ireturn, 1) := by decide +kernel
theorem dX9_latest_14 : decode cX9_latest 14 = .ok (.iconst (-1), 1) := by decide +kernel
theorem dX9_latest_15 : decode cX9_latest 15 = .ok (.istore_n 2, 1) := by decide +kernel
theorem dX9_latest_16 : decode cX9_latest 16 = .ok (.iconst 0, 1) := by decide +kernel
theorem dX9_latest_17 : decode cX9_latest 17 = .ok (.istore_n 3, 1) := by decide +kernel
theorem dX9_latest_18 : decode cX9_latest 18 = .ok (.iload_n 3, 1) := by decide +kernel
theorem dX9_latest_19 : decode cX9_latest 19 = .ok (.aload_n 0, 1) := by decide +kernel
theorem dX9_latest_20 : decode cX9_latest 20 = .ok (.getfield 20, 3) := by decide +kernel
theorem dX9_latest_23 : decode cX9_latest 23 = .ok (.iconst 0, 1) := by decide +kernel
theorem dX9_latest_24 : decode cX9_latest 24 = .ok (.iaload, 1) := by decide +kernel
theorem dX9_latest_25 : decode cX9_latest 25 = .ok (.if_icmp .ge 48, 3) := by decide +kernel
theorem dX9_latest_28 : decode cX9_latest 28 = .ok (.aload_n 0, 1) := by decide +kernel
theorem dX9_latest_29 : decode cX9_latest 29 = .ok (.invokevirtual 403, 3) := by decide +kernel
theorem dX9_latest_32 : decode cX9_latest 32 = .ok (.aload_n 0, 1) := by decide +kernel
theorem dX9_latest_33 : decode cX9_latest 33 = .ok (.iload_n 1, 1) := by decide +kernel
theorem dX9_latest_34 : decode cX9_latest 34 = .ok (.iload_n 3, 1) := by decide +kernel
theorem dX9_latest_35 : decode cX9_latest 35 = .ok (.invokevirtual 412, 3) := by decide +kernel
theorem dX9_latest_38 : decode cX9_latest 38 = .ok (.aload_n 0, 1) := by decide +kernel
theorem dX9_latest_39 : decode cX9_latest 39 = .ok (.aload_n 0, 1) := by decide +kernel
theorem dX9_latest_40 : decode cX9_latest 40 = .ok (.getfield 20, 3) := by decide +kernel
theorem dX9_latest_43 : decode cX9_latest 43 = .ok (.iconst 0, 1) := by decide +kernel
theorem dX9_latest_44 : decode cX9_latest 44 = .ok (.iaload, 1) := by decide +kernel
theorem dX9_latest_45 : decode cX9_latest 45 = .ok (.invokevirtual 230, 3) := by decide +kernel
theorem dX9_latest_48 : decode cX9_latest 48 = .ok (.aload_n 0, 1) := by decide +kernel
theorem dX9_latest_49 : decode cX9_latest 49 = .ok (.aload_n 0, 1) := by decide +kernel
theorem dX9_latest_50 : decode cX9_latest 50 = .ok (.getfield 60, 3) := by decide +kernel
theorem dX9_latest_53 : decode cX9_latest 53 = .ok (.iload_n 3, 1) := by decide +kernel
theorem dX9_latest_54 : decode cX9_latest 54 = .ok (.iaload, 1) := by decide +kernel
theorem dX9_latest_55 : decode cX9_latest 55 = .ok (.ifCond .ne 7, 3) := by decide +kernel
theorem dX9_latest_58 : decode cX9_latest 58 = .ok (.iload_n 3, 1) := by decide +kernel
theorem dX9_latest_59 : decode cX9_latest 59 = .ok (.goto 4, 3) := by decide +kernel
theorem dX9_latest_62 : decode cX9_latest 62 = .ok (.iload_n 2, 1) := by decide +kernel
theorem dX9_latest_63 : decode cX9_latest 63 = .ok (.invokevirtual 406, 3) := by decide +kernel
theorem dX9_latest_66 : decode cX9_latest 66 = .ok (.istore_n 2, 1) := by decide +kernel
theorem dX9_latest_67 : decode cX9_latest 67 = .ok (.iinc 3 1, 3) := by decide +kernel
theorem dX9_latest_70 : decode cX9_latest 70 = .ok (.goto (-52), 3) := by decide +kernel
theorem dX9_latest_73 : decode cX9_latest 73 = .ok (.iload_n 2, 1) := by decide +kernel
theorem dX9_latest_74 : decode cX9_latest 74 = .ok (.ireturn, 1) := by decide +kernel
theorem dX9_laysAside_0 : decode cX9_laysAside 0 = .ok (.aload_n 0, 1) := by decide +kernel
theorem dX9_laysAside_1 : decode cX9_laysAside 1 = .ok (.getfield 20, 3) := by decide +kernel
theorem dX9_laysAside_4 : decode cX9_laysAside 4 = .ok (.iconst 0, 1) := by decide +kernel
theorem dX9_laysAside_5 : decode cX9_laysAside 5 = .ok (.aload_n 0, 1) := by decide +kernel
theorem dX9_laysAside_6 : decode cX9_laysAside 6 = .ok (.getfield 26, 3) := by decide +kernel
theorem dX9_laysAside_9 : decode cX9_laysAside 9 = .ok (.iconst 0, 1) := by decide +kernel
theorem dX9_laysAside_10 : decode cX9_laysAside 10 = .ok (.invokestatic 191, 3) := by decide +kernel
theorem dX9_laysAside_13 : decode cX9_laysAside 13 = .ok (.aload_n 0, 1) := by decide +kernel
theorem dX9_laysAside_14 : decode cX9_laysAside 14 = .ok (.getfield 35, 3) := by decide +kernel
theorem dX9_laysAside_17 : decode cX9_laysAside 17 = .ok (.iconst 0, 1) := by decide +kernel
theorem dX9_laysAside_18 : decode cX9_laysAside 18 = .ok (.aload_n 0, 1) := by decide +kernel
theorem dX9_laysAside_19 : decode cX9_laysAside 19 = .ok (.getfield 42, 3) := by decide +kernel
theorem dX9_laysAside_22 : decode cX9_laysAside 22 = .ok (.iconst 0, 1) := by decide +kernel
theorem dX9_laysAside_23 : decode cX9_laysAside 23 = .ok (.invokestatic 195, 3) := by decide +kernel
theorem dX9_laysAside_26 : decode cX9_laysAside 26 = .ok (.return_, 1) := by decide +kernel
theorem dX9_laysAway_0 : decode cX9_laysAway 0 = .ok (.aload_n 0, 1) := by decide +kernel
theorem dX9_laysAway_1 : decode cX9_laysAway 1 = .ok (.getfield 20, 3) := by decide +kernel
theorem dX9_laysAway_4 : decode cX9_laysAway 4 = .ok (.iconst 0, 1) := by decide +kernel
theorem dX9_laysAway_5 : decode cX9_laysAway 5 = .ok (.aload_n 0, 1) := by decide +kernel
theorem dX9_laysAway_6 : decode cX9_laysAway 6 = .ok (.getfield 29, 3) := by decide +kernel
theorem dX9_laysAway_9 : decode cX9_laysAway 9 = .ok (.iconst 0, 1) := by decide +kernel
theorem dX9_laysAway_10 : decode cX9_laysAway 10 = .ok (.invokestatic 191, 3) := by decide +kernel
theorem dX9_laysAway_13 : decode cX9_laysAway 13 = .ok (.aload_n 0, 1) := by decide +kernel
theorem dX9_laysAway_14 : decode cX9_laysAway 14 = .ok (.getfield 35, 3) := by decide +kernel
theorem dX9_laysAway_17 : decode cX9_laysAway 17 = .ok (.iconst 0, 1) := by decide +kernel
theorem dX9_laysAway_18 : decode cX9_laysAway 18 = .ok (.aload_n 0, 1) := by decide +kernel
theorem dX9_laysAway_19 : decode cX9_laysAway 19 = .ok (.getfield 45, 3) := by decide +kernel
theorem dX9_laysAway_22 : decode cX9_laysAway 22 = .ok (.iconst 0, 1) := by decide +kernel
theorem dX9_laysAway_23 : decode cX9_laysAway 23 = .ok (.invokestatic 195, 3) := by decide +kernel
theorem dX9_laysAway_26 : decode cX9_laysAway 26 = .ok (.return_, 1) := by decide +kernel
theorem dX9_leastLeaf_0 : decode cX9_leastLeaf 0 = .ok (.iconst 0, 1) := by decide +kernel
theorem dX9_leastLeaf_1 : decode cX9_leastLeaf 1 = .ok (.istore_n 1, 1) := by decide +kernel
theorem dX9_leastLeaf_2 : decode cX9_leastLeaf 2 = .ok (.iload_n 1, 1) := by decide +kernel
theorem dX9_leastLeaf_3 : decode cX9_leastLeaf 3 = .ok (.aload_n 0, 1) := by decide +kernel
theorem dX9_leastLeaf_4 : decode cX9_leastLeaf 4 = .ok (.invokevirtual 214, 3) := by decide +kernel
theorem dX9_leastLeaf_7 : decode cX9_leastLeaf 7 = .ok (.if_icmp .ge 30, 3) := by decide +kernel
theorem dX9_leastLeaf_10 : decode cX9_leastLeaf 10 = .ok (.aload_n 0, 1) := by decide +kernel
theorem dX9_leastLeaf_11 : decode cX9_leastLeaf 11 = .ok (.getfield 84, 3) := by decide +kernel
theorem dX9_leastLeaf_14 : decode cX9_leastLeaf 14 = .ok (.iload_n 1, 1) := by decide +kernel
theorem dX9_leastLeaf_15 : decode cX9_leastLeaf 15 = .ok (.baload, 1) := by decide +kernel
theorem dX9_leastLeaf_16 : decode cX9_leastLeaf 16 = .ok (.ifCond .ne 15, 3) := by decide +kernel
theorem dX9_leastLeaf_19 : decode cX9_leastLeaf 19 = .ok (.aload_n 0, 1) := by decide +kernel
theorem dX9_leastLeaf_20 : decode cX9_leastLeaf 20 = .ok (.getfield 69, 3) := by decide +kernel
theorem dX9_leastLeaf_23 : decode cX9_leastLeaf 23 = .ok (.iload_n 1, 1) := by decide +kernel
theorem dX9_leastLeaf_24 : decode cX9_leastLeaf 24 = .ok (.iaload, 1) := by decide +kernel
theorem dX9_leastLeaf_25 : decode cX9_leastLeaf 25 = .ok (.iconst 1, 1) := by decide +kernel
theorem dX9_leastLeaf_26 : decode cX9_leastLeaf 26 = .ok (.if_icmp .ne 5, 3) := by decide +kernel
theorem dX9_leastLeaf_29 : decode cX9_leastLeaf 29 = .ok (.iload_n 1, 1) := by decide +kernel
theorem dX9_leastLeaf_30 : decode cX9_leastLeaf 30 = .ok (.ireturn, 1) := by decide +kernel
theorem dX9_leastLeaf_31 : decode cX9_leastLeaf 31 = .ok (.iinc 1 1, 3) := by decide +kernel
theorem dX9_leastLeaf_34 : decode cX9_leastLeaf 34 = .ok (.goto (-32), 3) := by decide +kernel
theorem dX9_leastLeaf_37 : decode cX9_leastLeaf 37 = .ok (.iconst (-1), 1) := by decide +kernel
theorem dX9_leastLeaf_38 : decode cX9_leastLeaf 38 = .ok (.ireturn, 1) := by decide +kernel
theorem dX9_leastWithOne_0 : decode cX9_leastWithOne 0 = .ok (.iconst 0, 1) := by decide +kernel
theorem dX9_leastWithOne_1 : decode cX9_leastWithOne 1 = .ok (.istore_n 1, 1) := by decide +kernel
theorem dX9_leastWithOne_2 : decode cX9_leastWithOne 2 = .ok (.iload_n 1, 1) := by decide +kernel
theorem dX9_leastWithOne_3 : decode cX9_leastWithOne 3 = .ok (.aload_n 0, 1) := by decide +kernel
theorem dX9_leastWithOne_4 : decode cX9_leastWithOne 4 = .ok (.invokevirtual 214, 3) := by decide +kernel
theorem dX9_leastWithOne_7 : decode cX9_leastWithOne 7 = .ok (.if_icmp .ge 20, 3) := by decide +kernel
theorem dX9_leastWithOne_10 : decode cX9_leastWithOne 10 = .ok (.aload_n 0, 1) := by decide +kernel
theorem dX9_leastWithOne_11 : decode cX9_leastWithOne 11 = .ok (.iload_n 1, 1) := by decide +kernel
theorem dX9_leastWithOne_12 : decode cX9_leastWithOne 12 = .ok (.invokevirtual 394, 3) := by decide +kernel
theorem dX9_leastWithOne_15 : decode cX9_leastWithOne 15 = .ok (.iconst 1, 1) := by decide +kernel
theorem dX9_leastWithOne_16 : decode cX9_leastWithOne 16 = .ok (.if_icmp .ne 5, 3) := by decide +kernel
theorem dX9_leastWithOne_19 : decode cX9_leastWithOne 19 = .ok (.iload_n 1, 1) := by decide +kernel
theorem dX9_leastWithOne_20 : decode cX9_leastWithOne 20 = .ok (.ireturn, 1) := by decide +kernel
theorem dX9_leastWithOne_21 : decode cX9_leastWithOne 21 = .ok (.iinc 1 1, 3) := by decide +kernel
theorem dX9_leastWithOne_24 : decode cX9_leastWithOne 24 = .ok (.goto (-22), 3) := by decide +kernel
theorem dX9_leastWithOne_27 : decode cX9_leastWithOne 27 = .ok (.iconst (-1), 1) := by decide +kernel
theorem dX9_leastWithOne_28 : decode cX9_leastWithOne 28 = .ok (.ireturn, 1) := by decide +kernel
theorem dX9_leaves_0 : decode cX9_leaves 0 = .ok (.aload_n 0, 1) := by decide +kernel
theorem dX9_leaves_1 : decode cX9_leaves 1 = .ok (.iconst 0, 1) := by decide +kernel
theorem dX9_leaves_2 : decode cX9_leaves 2 = .ok (.putfield 112, 3) := by decide +kernel
theorem dX9_leaves_5 : decode cX9_leaves 5 = .ok (.aload_n 0, 1) := by decide +kernel
theorem dX9_leaves_6 : decode cX9_leaves 6 = .ok (.invokevirtual 382, 3) := by decide +kernel
theorem dX9_leaves_9 : decode cX9_leaves 9 = .ok (.iconst 0, 1) := by decide +kernel
theorem dX9_leaves_10 : decode cX9_leaves 10 = .ok (.istore_n 1, 1) := by decide +kernel
theorem dX9_leaves_11 : decode cX9_leaves 11 = .ok (.iconst 0, 1) := by decide +kernel
theorem dX9_leaves_12 : decode cX9_leaves 12 = .ok (.istore_n 2, 1) := by decide +kernel
theorem dX9_leaves_13 : decode cX9_leaves 13 = .ok (.iload_n 2, 1) := by decide +kernel
theorem dX9_leaves_14 : decode cX9_leaves 14 = .ok (.aload_n 0, 1) := by decide +kernel
theorem dX9_leaves_15 : decode cX9_leaves 15 = .ok (.invokevirtual 214, 3) := by decide +kernel
theorem dX9_leaves_18 : decode cX9_leaves 18 = .ok (.if_icmp .ge 29, 3) := by decide +kernel
theorem dX9_leaves_21 : decode cX9_leaves 21 = .ok (.iload_n 1, 1) := by decide +kernel
theorem dX9_leaves_22 : decode cX9_leaves 22 = .ok (.aload_n 0, 1) := by decide +kernel
theorem dX9_leaves_23 : decode cX9_leaves 23 = .ok (.iload_n 2, 1) := by decide +kernel
theorem dX9_leaves_24 : decode cX9_leaves 24 = .ok (.invokevirtual 388, 3) := by decide +kernel
theorem dX9_leaves_27 : decode cX9_leaves 27 = .ok (.iconst 1, 1) := by decide +kernel
theorem dX9_leaves_28 : decode cX9_leaves 28 = .ok (.if_icmp .ne 7, 3) := by decide +kernel
theorem dX9_leaves_31 : decode cX9_leaves 31 = .ok (.iconst 1, 1) := by decide +kernel
theorem dX9_leaves_32 : decode cX9_leaves 32 = .ok (.goto 4, 3) := by decide +kernel
theorem dX9_leaves_35 : decode cX9_leaves 35 = .ok (.iconst 0, 1) := by decide +kernel
theorem dX9_leaves_36 : decode cX9_leaves 36 = .ok (.invokestatic 115, 3) := by decide +kernel
theorem dX9_leaves_39 : decode cX9_leaves 39 = .ok (.iadd, 1) := by decide +kernel
theorem dX9_leaves_40 : decode cX9_leaves 40 = .ok (.istore_n 1, 1) := by decide +kernel
theorem dX9_leaves_41 : decode cX9_leaves 41 = .ok (.iinc 2 1, 3) := by decide +kernel
theorem dX9_leaves_44 : decode cX9_leaves 44 = .ok (.goto (-31), 3) := by decide +kernel
theorem dX9_leaves_47 : decode cX9_leaves 47 = .ok (.iload_n 1, 1) := by decide +kernel
theorem dX9_leaves_48 : decode cX9_leaves 48 = .ok (.ireturn, 1) := by decide +kernel
theorem dX9_leaves0_0 : decode cX9_leaves0 0 = .ok (.aload_n 0, 1) := by decide +kernel
theorem dX9_leaves0_1 : decode cX9_leaves0 1 = .ok (.iload_n 1, 1) := by decide +kernel
theorem dX9_leaves0_2 : decode cX9_leaves0 2 = .ok (.aload_n 0, 1) := by decide +kernel
theorem dX9_leaves0_3 : decode cX9_leaves0 3 = .ok (.getfield 20, 3) := by decide +kernel
theorem dX9_leaves0_6 : decode cX9_leaves0 6 = .ok (.iconst 0, 1) := by decide +kernel
theorem dX9_leaves0_7 : decode cX9_leaves0 7 = .ok (.iaload, 1) := by decide +kernel
theorem dX9_leaves0_8 : decode cX9_leaves0 8 = .ok (.iconst 1, 1) := by decide +kernel
theorem dX9_leaves0_9 : decode cX9_leaves0 9 = .ok (.isub, 1) := by decide +kernel
theorem dX9_leaves0_10 : decode cX9_leaves0 10 = .ok (.invokevirtual 412, 3) := by decide +kernel
theorem dX9_leaves0_13 : decode cX9_leaves0 13 = .ok (.aload_n 0, 1) := by decide +kernel
theorem dX9_leaves0_14 : decode cX9_leaves0 14 = .ok (.getfield 20, 3) := by decide +kernel
theorem dX9_leaves0_17 : decode cX9_leaves0 17 = .ok (.iconst 0, 1) := by decide +kernel
theorem dX9_leaves0_18 : decode cX9_leaves0 18 = .ok (.dup2, 1) := by decide +kernel
theorem dX9_leaves0_19 : decode cX9_leaves0 19 = .ok (.iaload, 1) := by decide +kernel
theorem dX9_leaves0_20 : decode cX9_leaves0 20 = .ok (.iconst 1, 1) := by decide +kernel
theorem dX9_leaves0_21 : decode cX9_leaves0 21 = .ok (.isub, 1) := by decide +kernel
theorem dX9_leaves0_22 : decode cX9_leaves0 22 = .ok (.iastore, 1) := by decide +kernel
theorem dX9_leaves0_23 : decode cX9_leaves0 23 = .ok (.aload_n 0, 1) := by decide +kernel
theorem dX9_leaves0_24 : decode cX9_leaves0 24 = .ok (.getfield 20, 3) := by decide +kernel
theorem dX9_leaves0_27 : decode cX9_leaves0 27 = .ok (.iconst 2, 1) := by decide +kernel
theorem dX9_leaves0_28 : decode cX9_leaves0 28 = .ok (.aload_n 0, 1) := by decide +kernel
theorem dX9_leaves0_29 : decode cX9_leaves0 29 = .ok (.getfield 20, 3) := by decide +kernel
theorem dX9_leaves0_32 : decode cX9_leaves0 32 = .ok (.iconst 0, 1) := by decide +kernel
theorem dX9_leaves0_33 : decode cX9_leaves0 33 = .ok (.iaload, 1) := by decide +kernel
theorem dX9_leaves0_34 : decode cX9_leaves0 34 = .ok (.iadd, 1) := by decide +kernel
theorem dX9_leaves0_35 : decode cX9_leaves0 35 = .ok (.iconst 0, 1) := by decide +kernel
theorem dX9_leaves0_36 : decode cX9_leaves0 36 = .ok (.iastore, 1) := by decide +kernel
theorem dX9_leaves0_37 : decode cX9_leaves0 37 = .ok (.aload_n 0, 1) := by decide +kernel
theorem dX9_leaves0_38 : decode cX9_leaves0 38 = .ok (.getfield 35, 3) := by decide +kernel
theorem dX9_leaves0_41 : decode cX9_leaves0 41 = .ok (.aload_n 0, 1) := by decide +kernel
theorem dX9_leaves0_42 : decode cX9_leaves0 42 = .ok (.getfield 20, 3) := by decide +kernel
theorem dX9_leaves0_45 : decode cX9_leaves0 45 = .ok (.iconst 0, 1) := by decide +kernel
theorem dX9_leaves0_46 : decode cX9_leaves0 46 = .ok (.iaload, 1) := by decide +kernel
theorem dX9_leaves0_47 : decode cX9_leaves0 47 = .ok (.lconst 0, 1) := by decide +kernel
theorem dX9_leaves0_48 : decode cX9_leaves0 48 = .ok (.lastore, 1) := by decide +kernel
theorem dX9_leaves0_49 : decode cX9_leaves0 49 = .ok (.aload_n 0, 1) := by decide +kernel
theorem dX9_leaves0_50 : decode cX9_leaves0 50 = .ok (.getfield 51, 3) := by decide +kernel
theorem dX9_leaves0_53 : decode cX9_leaves0 53 = .ok (.iconst 3, 1) := by decide +kernel
theorem dX9_leaves0_54 : decode cX9_leaves0 54 = .ok (.dup2, 1) := by decide +kernel
theorem dX9_leaves0_55 : decode cX9_leaves0 55 = .ok (.iaload, 1) := by decide +kernel
theorem dX9_leaves0_56 : decode cX9_leaves0 56 = .ok (.iconst 1, 1) := by decide +kernel
theorem dX9_leaves0_57 : decode cX9_leaves0 57 = .ok (.iadd, 1) := by decide +kernel
theorem dX9_leaves0_58 : decode cX9_leaves0 58 = .ok (.iastore, 1) := by decide +kernel
theorem dX9_leaves0_59 : decode cX9_leaves0 59 = .ok (.aload_n 0, 1) := by decide +kernel
theorem dX9_leaves0_60 : decode cX9_leaves0 60 = .ok (.aload_n 0, 1) := by decide +kernel
theorem dX9_leaves0_61 : decode cX9_leaves0 61 = .ok (.getfield 20, 3) := by decide +kernel
theorem dX9_leaves0_64 : decode cX9_leaves0 64 = .ok (.iconst 0, 1) := by decide +kernel
theorem dX9_leaves0_65 : decode cX9_leaves0 65 = .ok (.iaload, 1) := by decide +kernel
theorem dX9_leaves0_66 : decode cX9_leaves0 66 = .ok (.invokevirtual 421, 3) := by decide +kernel
theorem dX9_leaves0_69 : decode cX9_leaves0 69 = .ok (.ireturn, 1) := by decide +kernel
theorem dX9_lesser_0 : decode cX9_lesser 0 = .ok (.iload_n 0, 1) := by decide +kernel
theorem dX9_lesser_1 : decode cX9_lesser 1 = .ok (.iload_n 1, 1) := by decide +kernel
theorem dX9_lesser_2 : decode cX9_lesser 2 = .ok (.if_icmp .ge 7, 3) := by decide +kernel
theorem dX9_lesser_5 : decode cX9_lesser 5 = .ok (.iload_n 0, 1) := by decide +kernel
theorem dX9_lesser_6 : decode cX9_lesser 6 = .ok (.goto 4, 3) := by decide +kernel
theorem dX9_lesser_9 : decode cX9_lesser 9 = .ok (.iload_n 1, 1) := by decide +kernel
theorem dX9_lesser_10 : decode cX9_lesser 10 = .ok (.ireturn, 1) := by decide +kernel
theorem dX9_letter_0 : decode cX9_letter 0 = .ok (.aload_n 0, 1) := by decide +kernel
theorem dX9_letter_1 : decode cX9_letter 1 = .ok (.aload_n 0, 1) := by decide +kernel
theorem dX9_letter_2 : decode cX9_letter 2 = .ok (.iload_n 1, 1) := by decide +kernel
theorem dX9_letter_3 : decode cX9_letter 3 = .ok (.invokevirtual 325, 3) := by decide +kernel
theorem dX9_letter_6 : decode cX9_letter 6 = .ok (.invokevirtual 122, 3) := by decide +kernel
theorem dX9_letter_9 : decode cX9_letter 9 = .ok (.ifCond .ne 5, 3) := by decide +kernel
theorem dX9_letter_12 : decode cX9_letter 12 = .ok (.iconst 0, 1) := by decide +kernel
theorem dX9_letter_13 : decode cX9_letter 13 = .ok (.ireturn, 1) := by decide +kernel
theorem dX9_letter_14 : decode cX9_letter 14 = .ok (.iload_n 2, 1) := by decide +kernel
theorem dX9_letter_15 : decode cX9_letter 15 = .ok (.i2l, 1) := by decide +kernel
theorem dX9_letter_16 : decode cX9_letter 16 = .ok (.lconst 0, 1) := by decide +kernel
theorem dX9_letter_17 : decode cX9_letter 17 = .ok (.aload_n 0, 1) := by decide +kernel
theorem dX9_letter_18 : decode cX9_letter 18 = .ok (.getfield 35, 3) := by decide +kernel
theorem dX9_letter_21 : decode cX9_letter 21 = .ok (.iload_n 1, 1) := by decide +kernel
theorem dX9_letter_22 : decode cX9_letter 22 = .ok (.laload, 1) := by decide +kernel
theorem dX9_letter_23 : decode cX9_letter 23 = .ok (.invokestatic 320, 3) := by decide +kernel
theorem dX9_letter_26 : decode cX9_letter 26 = .ok (.iconst 1, 1) := by decide +kernel
theorem dX9_letter_27 : decode cX9_letter 27 = .ok (.isub, 1) := by decide +kernel
theorem dX9_letter_28 : decode cX9_letter 28 = .ok (.i2l, 1) := by decide +kernel
theorem dX9_letter_29 : decode cX9_letter 29 = .ok (.invokestatic 130, 3) := by decide +kernel
theorem dX9_letter_32 : decode cX9_letter 32 = .ok (.ifCond .eq 16, 3) := by decide +kernel
theorem dX9_letter_35 : decode cX9_letter 35 = .ok (.aload_n 0, 1) := by decide +kernel
theorem dX9_letter_36 : decode cX9_letter 36 = .ok (.getfield 35, 3) := by decide +kernel
theorem dX9_letter_39 : decode cX9_letter 39 = .ok (.iload_n 1, 1) := by decide +kernel
theorem dX9_letter_40 : decode cX9_letter 40 = .ok (.laload, 1) := by decide +kernel
theorem dX9_letter_41 : decode cX9_letter 41 = .ok (.iload_n 2, 1) := by decide +kernel
theorem dX9_letter_42 : decode cX9_letter 42 = .ok (.invokestatic 328, 3) := by decide +kernel
theorem dX9_letter_45 : decode cX9_letter 45 = .ok (.goto 4, 3) := by decide +kernel
theorem dX9_letter_48 : decode cX9_letter 48 = .ok (.iconst 0, 1) := by decide +kernel
theorem dX9_letter_49 : decode cX9_letter 49 = .ok (.ireturn, 1) := by decide +kernel
theorem dX9_letterOf_0 : decode cX9_letterOf 0 = .ok (.lload_n 0, 1) := by decide +kernel
theorem dX9_letterOf_1 : decode cX9_letterOf 1 = .ok (.iconst 5, 1) := by decide +kernel
theorem dX9_letterOf_2 : decode cX9_letterOf 2 = .ok (.lload_n 0, 1) := by decide +kernel
theorem dX9_letterOf_3 : decode cX9_letterOf 3 = .ok (.invokestatic 320, 3) := by decide +kernel
theorem dX9_letterOf_6 : decode cX9_letterOf 6 = .ok (.iconst 1, 1) := by decide +kernel
theorem dX9_letterOf_7 : decode cX9_letterOf 7 = .ok (.isub, 1) := by decide +kernel
theorem dX9_letterOf_8 : decode cX9_letterOf 8 = .ok (.iload_n 2, 1) := by decide +kernel
theorem dX9_letterOf_9 : decode cX9_letterOf 9 = .ok (.isub, 1) := by decide +kernel
theorem dX9_letterOf_10 : decode cX9_letterOf 10 = .ok (.imul, 1) := by decide +kernel
theorem dX9_letterOf_11 : decode cX9_letterOf 11 = .ok (.lshr, 1) := by decide +kernel
theorem dX9_letterOf_12 : decode cX9_letterOf 12 = .ok (.ldc2_w 323, 3) := by decide +kernel
theorem dX9_letterOf_15 : decode cX9_letterOf 15 = .ok (.land, 1) := by decide +kernel
theorem dX9_letterOf_16 : decode cX9_letterOf 16 = .ok (.l2i, 1) := by decide +kernel
theorem dX9_letterOf_17 : decode cX9_letterOf 17 = .ok (.ireturn, 1) := by decide +kernel
theorem dX9_lettersOf_0 : decode cX9_lettersOf 0 = .ok (.iconst 0, 1) := by decide +kernel
theorem dX9_lettersOf_1 : decode cX9_lettersOf 1 = .ok (.istore_n 2, 1) := by decide +kernel
theorem dX9_lettersOf_2 : decode cX9_lettersOf 2 = .ok (.lload_n 0, 1) := by decide +kernel
theorem dX9_lettersOf_3 : decode cX9_lettersOf 3 = .ok (.lstore_n 3, 1) := by decide +kernel
theorem dX9_lettersOf_4 : decode cX9_lettersOf 4 = .ok (.lload_n 3, 1) := by decide +kernel
theorem dX9_lettersOf_5 : decode cX9_lettersOf 5 = .ok (.lconst 0, 1) := by decide +kernel
theorem dX9_lettersOf_6 : decode cX9_lettersOf 6 = .ok (.lcmp, 1) := by decide +kernel
theorem dX9_lettersOf_7 : decode cX9_lettersOf 7 = .ok (.ifCond .le 13, 3) := by decide +kernel
theorem dX9_lettersOf_10 : decode cX9_lettersOf 10 = .ok (.iinc 2 1, 3) := by decide +kernel
theorem dX9_lettersOf_13 : decode cX9_lettersOf 13 = .ok (.lload_n 3, 1) := by decide +kernel
theorem dX9_lettersOf_14 : decode cX9_lettersOf 14 = .ok (.iconst 5, 1) := by decide +kernel
theorem dX9_lettersOf_15 : decode cX9_lettersOf 15 = .ok (.lshr, 1) := by decide +kernel
theorem dX9_lettersOf_16 : decode cX9_lettersOf 16 = .ok (.lstore_n 3, 1) := by decide +kernel
theorem dX9_lettersOf_17 : decode cX9_lettersOf 17 = .ok (.goto (-13), 3) := by decide +kernel
theorem dX9_lettersOf_20 : decode cX9_lettersOf 20 = .ok (.iload_n 2, 1) := by decide +kernel
theorem dX9_lettersOf_21 : decode cX9_lettersOf 21 = .ok (.ireturn, 1) := by decide +kernel
theorem dX9_lineFor_0 : decode cX9_lineFor 0 = .ok (.aload_n 0, 1) := by decide +kernel
theorem dX9_lineFor_1 : decode cX9_lineFor 1 = .ok (.getfield 63, 3) := by decide +kernel
theorem dX9_lineFor_4 : decode cX9_lineFor 4 = .ok (.iload_n 1, 1) := by decide +kernel
theorem dX9_lineFor_5 : decode cX9_lineFor 5 = .ok (.iaload, 1) := by decide +kernel
theorem dX9_lineFor_6 : decode cX9_lineFor 6 = .ok (.iconst (-1), 1) := by decide +kernel
theorem dX9_lineFor_7 : decode cX9_lineFor 7 = .ok (.if_icmp .ne 5, 3) := by decide +kernel
theorem dX9_lineFor_10 : decode cX9_lineFor 10 = .ok (.iload_n 1, 1) := by decide +kernel
theorem dX9_lineFor_11 : decode cX9_lineFor 11 = .ok (.ireturn, 1) := by decide +kernel
theorem dX9_lineFor_12 : decode cX9_lineFor 12 = .ok (.iconst 1, 1) := by decide +kernel
theorem dX9_lineFor_13 : decode cX9_lineFor 13 = .ok (.istore_n 2, 1) := by decide +kernel
theorem dX9_lineFor_14 : decode cX9_lineFor 14 = .ok (.iload_n 2, 1) := by decide +kernel
theorem dX9_lineFor_15 : decode cX9_lineFor 15 = .ok (.aload_n 0, 1) := by decide +kernel
theorem dX9_lineFor_16 : decode cX9_lineFor 16 = .ok (.getfield 20, 3) := by decide +kernel
theorem dX9_lineFor_19 : decode cX9_lineFor 19 = .ok (.iconst 1, 1) := by decide +kernel
theorem dX9_lineFor_20 : decode cX9_lineFor 20 = .ok (.iaload, 1) := by decide +kernel
theorem dX9_lineFor_21 : decode cX9_lineFor 21 = .ok (.if_icmp .gt 30, 3) := by decide +kernel
theorem dX9_lineFor_24 : decode cX9_lineFor 24 = .ok (.iload_n 2, 1) := by decide +kernel
theorem dX9_lineFor_25 : decode cX9_lineFor 25 = .ok (.iload_n 1, 1) := by decide +kernel
theorem dX9_lineFor_26 : decode cX9_lineFor 26 = .ok (.if_icmp .gt 25, 3) := by decide +kernel
theorem dX9_lineFor_29 : decode cX9_lineFor 29 = .ok (.aload_n 0, 1) := by decide +kernel
theorem dX9_lineFor_30 : decode cX9_lineFor 30 = .ok (.getfield 63, 3) := by decide +kernel
theorem dX9_lineFor_33 : decode cX9_lineFor 33 = .ok (.iload_n 1, 1) := by decide +kernel
theorem dX9_lineFor_34 : decode cX9_lineFor 34 = .ok (.iload_n 2, 1) := by decide +kernel
theorem dX9_lineFor_35 : decode cX9_lineFor 35 = .ok (.isub, 1) := by decide +kernel
theorem dX9_lineFor_36 : decode cX9_lineFor 36 = .ok (.iaload, 1) := by decide +kernel
theorem dX9_lineFor_37 : decode cX9_lineFor 37 = .ok (.iconst (-1), 1) := by decide +kernel
theorem dX9_lineFor_38 : decode cX9_lineFor 38 = .ok (.if_icmp .ne 7, 3) := by decide +kernel
theorem dX9_lineFor_41 : decode cX9_lineFor 41 = .ok (.iload_n 1, 1) := by decide +kernel
theorem dX9_lineFor_42 : decode cX9_lineFor 42 = .ok (.iload_n 2, 1) := by decide +kernel
theorem dX9_lineFor_43 : decode cX9_lineFor 43 = .ok (.isub, 1) := by decide +kernel
theorem dX9_lineFor_44 : decode cX9_lineFor 44 = .ok (.ireturn, 1) := by decide +kernel
theorem dX9_lineFor_45 : decode cX9_lineFor 45 = .ok (.iinc 2 1, 3) := by decide +kernel
theorem dX9_lineFor_48 : decode cX9_lineFor 48 = .ok (.goto (-34), 3) := by decide +kernel
theorem dX9_lineFor_51 : decode cX9_lineFor 51 = .ok (.iload_n 1, 1) := by decide +kernel
theorem dX9_lineFor_52 : decode cX9_lineFor 52 = .ok (.istore_n 2, 1) := by decide +kernel
theorem dX9_lineFor_53 : decode cX9_lineFor 53 = .ok (.aload_n 0, 1) := by decide +kernel
theorem dX9_lineFor_54 : decode cX9_lineFor 54 = .ok (.getfield 63, 3) := by decide +kernel
theorem dX9_lineFor_57 : decode cX9_lineFor 57 = .ok (.iload_n 2, 1) := by decide +kernel
theorem dX9_lineFor_58 : decode cX9_lineFor 58 = .ok (.iaload, 1) := by decide +kernel
theorem dX9_lineFor_59 : decode cX9_lineFor 59 = .ok (.iconst (-1), 1) := by decide +kernel
theorem dX9_lineFor_60 : decode cX9_lineFor 60 = .ok (.if_icmp .eq 9, 3) := by decide +kernel
theorem dX9_lineFor_63 : decode cX9_lineFor 63 = .ok (.iinc 2 1, 3) := by decide +kernel
theorem dX9_lineFor_66 : decode cX9_lineFor 66 = .ok (.goto (-13), 3) := by decide +kernel
theorem dX9_lineFor_69 : decode cX9_lineFor 69 = .ok (.iload_n 2, 1) := by decide +kernel
theorem dX9_lineFor_70 : decode cX9_lineFor 70 = .ok (.ireturn, 1) := by decide +kernel
theorem dX9_liveDegree_0 : decode cX9_liveDegree 0 = .ok (.iconst 0, 1) := by decide +kernel
theorem dX9_liveDegree_1 : decode cX9_liveDegree 1 = .ok (.istore_n 2, 1) := by decide +kernel
theorem dX9_liveDegree_2 : decode cX9_liveDegree 2 = .ok (.iconst 0, 1) := by decide +kernel
theorem dX9_liveDegree_3 : decode cX9_liveDegree 3 = .ok (.istore_n 3, 1) := by decide +kernel
theorem dX9_liveDegree_4 : decode cX9_liveDegree 4 = .ok (.iload_n 3, 1) := by decide +kernel
theorem dX9_liveDegree_5 : decode cX9_liveDegree 5 = .ok (.aload_n 0, 1) := by decide +kernel
theorem dX9_liveDegree_6 : decode cX9_liveDegree 6 = .ok (.getfield 363, 3) := by decide +kernel
theorem dX9_liveDegree_9 : decode cX9_liveDegree 9 = .ok (.if_icmp .ge 38, 3) := by decide +kernel
theorem dX9_liveDegree_12 : decode cX9_liveDegree 12 = .ok (.iload_n 2, 1) := by decide +kernel
theorem dX9_liveDegree_13 : decode cX9_liveDegree 13 = .ok (.aload_n 0, 1) := by decide +kernel
theorem dX9_liveDegree_14 : decode cX9_liveDegree 14 = .ok (.getfield 88, 3) := by decide +kernel
theorem dX9_liveDegree_17 : decode cX9_liveDegree 17 = .ok (.iload_n 3, 1) := by decide +kernel
theorem dX9_liveDegree_18 : decode cX9_liveDegree 18 = .ok (.baload, 1) := by decide +kernel
theorem dX9_liveDegree_19 : decode cX9_liveDegree 19 = .ok (.ifCond .ne 16, 3) := by decide +kernel
theorem dX9_liveDegree_22 : decode cX9_liveDegree 22 = .ok (.aload_n 0, 1) := by decide +kernel
theorem dX9_liveDegree_23 : decode cX9_liveDegree 23 = .ok (.iload_n 3, 1) := by decide +kernel
theorem dX9_liveDegree_24 : decode cX9_liveDegree 24 = .ok (.iload_n 1, 1) := by decide +kernel
theorem dX9_liveDegree_25 : decode cX9_liveDegree 25 = .ok (.invokevirtual 385, 3) := by decide +kernel
theorem dX9_liveDegree_28 : decode cX9_liveDegree 28 = .ok (.ifCond .eq 7, 3) := by decide +kernel
theorem dX9_liveDegree_31 : decode cX9_liveDegree 31 = .ok (.iconst 1, 1) := by decide +kernel
theorem dX9_liveDegree_32 : decode cX9_liveDegree 32 = .ok (.goto 4, 3) := by decide +kernel
theorem dX9_liveDegree_35 : decode cX9_liveDegree 35 = .ok (.iconst 0, 1) := by decide +kernel
theorem dX9_liveDegree_36 : decode cX9_liveDegree 36 = .ok (.invokestatic 115, 3) := by decide +kernel
theorem dX9_liveDegree_39 : decode cX9_liveDegree 39 = .ok (.iadd, 1) := by decide +kernel
theorem dX9_liveDegree_40 : decode cX9_liveDegree 40 = .ok (.istore_n 2, 1) := by decide +kernel
theorem dX9_liveDegree_41 : decode cX9_liveDegree 41 = .ok (.iinc 3 1, 3) := by decide +kernel
theorem dX9_liveDegree_44 : decode cX9_liveDegree 44 = .ok (.goto (-40), 3) := by decide +kernel
theorem dX9_liveDegree_47 : decode cX9_liveDegree 47 = .ok (.iload_n 2, 1) := by decide +kernel
theorem dX9_liveDegree_48 : decode cX9_liveDegree 48 = .ok (.ireturn, 1) := by decide +kernel
theorem dX9_liveEdge_0 : decode cX9_liveEdge 0 = .ok (.iconst 0, 1) := by decide +kernel
theorem dX9_liveEdge_1 : decode cX9_liveEdge 1 = .ok (.istore_n 2, 1) := by decide +kernel
theorem dX9_liveEdge_2 : decode cX9_liveEdge 2 = .ok (.iload_n 2, 1) := by decide +kernel
theorem dX9_liveEdge_3 : decode cX9_liveEdge 3 = .ok (.aload_n 0, 1) := by decide +kernel
theorem dX9_liveEdge_4 : decode cX9_liveEdge 4 = .ok (.getfield 363, 3) := by decide +kernel
theorem dX9_liveEdge_7 : decode cX9_liveEdge 7 = .ok (.if_icmp .ge 29, 3) := by decide +kernel
theorem dX9_liveEdge_10 : decode cX9_liveEdge 10 = .ok (.aload_n 0, 1) := by decide +kernel
theorem dX9_liveEdge_11 : decode cX9_liveEdge 11 = .ok (.getfield 88, 3) := by decide +kernel
theorem dX9_liveEdge_14 : decode cX9_liveEdge 14 = .ok (.iload_n 2, 1) := by decide +kernel
theorem dX9_liveEdge_15 : decode cX9_liveEdge 15 = .ok (.baload, 1) := by decide +kernel
theorem dX9_liveEdge_16 : decode cX9_liveEdge 16 = .ok (.ifCond .ne 14, 3) := by decide +kernel
theorem dX9_liveEdge_19 : decode cX9_liveEdge 19 = .ok (.aload_n 0, 1) := by decide +kernel
theorem dX9_liveEdge_20 : decode cX9_liveEdge 20 = .ok (.iload_n 2, 1) := by decide +kernel
theorem dX9_liveEdge_21 : decode cX9_liveEdge 21 = .ok (.iload_n 1, 1) := by decide +kernel
theorem dX9_liveEdge_22 : decode cX9_liveEdge 22 = .ok (.invokevirtual 385, 3) := by decide +kernel
theorem dX9_liveEdge_25 : decode cX9_liveEdge 25 = .ok (.ifCond .eq 5, 3) := by decide +kernel
theorem dX9_liveEdge_28 : decode cX9_liveEdge 28 = .ok (.iload_n 2, 1) := by decide +kernel
theorem dX9_liveEdge_29 : decode cX9_liveEdge 29 = .ok (.ireturn, 1) := by decide +kernel
theorem dX9_liveEdge_30 : decode cX9_liveEdge 30 = .ok (.iinc 2 1, 3) := by decide +kernel
theorem dX9_liveEdge_33 : decode cX9_liveEdge 33 = .ok (.goto (-31), 3) := by decide +kernel
theorem dX9_liveEdge_36 : decode cX9_liveEdge 36 = .ok (.iconst (-1), 1) := by decide +kernel
theorem dX9_liveEdge_37 : decode cX9_liveEdge 37 = .ok (.ireturn, 1) := by decide +kernel
theorem dX9_longestAfter_0 : decode cX9_longestAfter 0 = .ok (.aload_n 0, 1) := by decide +kernel
theorem dX9_longestAfter_1 : decode cX9_longestAfter 1 = .ok (.aload_n 0, 1) := by decide +kernel
theorem dX9_longestAfter_2 : decode cX9_longestAfter 2 = .ok (.iload_n 1, 1) := by decide +kernel
theorem dX9_longestAfter_3 : decode cX9_longestAfter 3 = .ok (.invokevirtual 353, 3) := by decide +kernel
theorem dX9_longestAfter_6 : decode cX9_longestAfter 6 = .ok (.invokevirtual 122, 3) := by decide +kernel
theorem dX9_longestAfter_9 : decode cX9_longestAfter 9 = .ok (.ifCond .ne 5, 3) := by decide +kernel
theorem dX9_longestAfter_12 : decode cX9_longestAfter 12 = .ok (.iconst 0, 1) := by decide +kernel
theorem dX9_longestAfter_13 : decode cX9_longestAfter 13 = .ok (.ireturn, 1) := by decide +kernel
theorem dX9_longestAfter_14 : decode cX9_longestAfter 14 = .ok (.aload_n 0, 1) := by decide +kernel
theorem dX9_longestAfter_15 : decode cX9_longestAfter 15 = .ok (.iload_n 1, 1) := by decide +kernel
theorem dX9_longestAfter_16 : decode cX9_longestAfter 16 = .ok (.invokevirtual 230, 3) := by decide +kernel
theorem dX9_longestAfter_19 : decode cX9_longestAfter 19 = .ok (.iconst 0, 1) := by decide +kernel
theorem dX9_longestAfter_20 : decode cX9_longestAfter 20 = .ok (.istore_n 2, 1) := by decide +kernel
theorem dX9_longestAfter_21 : decode cX9_longestAfter 21 = .ok (.iconst 0, 1) := by decide +kernel
theorem dX9_longestAfter_22 : decode cX9_longestAfter 22 = .ok (.istore_n 3, 1) := by decide +kernel
theorem dX9_longestAfter_23 : decode cX9_longestAfter 23 = .ok (.iload_n 3, 1) := by decide +kernel
theorem dX9_longestAfter_24 : decode cX9_longestAfter 24 = .ok (.aload_n 0, 1) := by decide +kernel
theorem dX9_longestAfter_25 : decode cX9_longestAfter 25 = .ok (.invokevirtual 214, 3) := by decide +kernel
theorem dX9_longestAfter_28 : decode cX9_longestAfter 28 = .ok (.if_icmp .ge 25, 3) := by decide +kernel
theorem dX9_longestAfter_31 : decode cX9_longestAfter 31 = .ok (.aload_n 0, 1) := by decide +kernel
theorem dX9_longestAfter_32 : decode cX9_longestAfter 32 = .ok (.iload_n 3, 1) := by decide +kernel
theorem dX9_longestAfter_33 : decode cX9_longestAfter 33 = .ok (.invokevirtual 356, 3) := by decide +kernel
theorem dX9_longestAfter_36 : decode cX9_longestAfter 36 = .ok (.istore 4, 2) := by decide +kernel
theorem dX9_longestAfter_38 : decode cX9_longestAfter 38 = .ok (.iload 4, 2) := by decide +kernel
theorem dX9_longestAfter_40 : decode cX9_longestAfter 40 = .ok (.iload_n 2, 1) := by decide +kernel
theorem dX9_longestAfter_41 : decode cX9_longestAfter 41 = .ok (.if_icmp .le 6, 3) := by decide +kernel
theorem dX9_longestAfter_44 : decode cX9_longestAfter 44 = .ok (.iload 4, 2) := by decide +kernel
theorem dX9_longestAfter_46 : decode cX9_longestAfter 46 = .ok (.istore_n 2, 1) := by decide +kernel
theorem dX9_longestAfter_47 : decode cX9_longestAfter 47 = .ok (.iinc 3 1, 3) := by decide +kernel
theorem dX9_longestAfter_50 : decode cX9_longestAfter 50 = .ok (.goto (-27), 3) := by decide +kernel
theorem dX9_longestAfter_53 : decode cX9_longestAfter 53 = .ok (.iload_n 2, 1) := by decide +kernel
theorem dX9_longestAfter_54 : decode cX9_longestAfter 54 = .ok (.ireturn, 1) := by decide +kernel
theorem dX9_looks_0 : decode cX9_looks 0 = .ok (.aload_n 0, 1) := by decide +kernel
theorem dX9_looks_1 : decode cX9_looks 1 = .ok (.invokevirtual 167, 3) := by decide +kernel
theorem dX9_looks_4 : decode cX9_looks 4 = .ok (.ifCond .eq 16, 3) := by decide +kernel
theorem dX9_looks_7 : decode cX9_looks 7 = .ok (.aload_n 0, 1) := by decide +kernel
theorem dX9_looks_8 : decode cX9_looks 8 = .ok (.getfield 154, 3) := by decide +kernel
theorem dX9_looks_11 : decode cX9_looks 11 = .ok (.iconst 2, 1) := by decide +kernel
theorem dX9_looks_12 : decode cX9_looks 12 = .ok (.if_icmp .eq 8, 3) := by decide +kernel
theorem dX9_looks_15 : decode cX9_looks 15 = .ok (.aload_n 0, 1) := by decide +kernel
theorem dX9_looks_16 : decode cX9_looks 16 = .ok (.iconst 1, 1) := by decide +kernel
theorem dX9_looks_17 : decode cX9_looks 17 = .ok (.invokevirtual 174, 3) := by decide +kernel
theorem dX9_looks_20 : decode cX9_looks 20 = .ok (.aload_n 0, 1) := by decide +kernel
theorem dX9_looks_21 : decode cX9_looks 21 = .ok (.invokevirtual 167, 3) := by decide +kernel
theorem dX9_looks_24 : decode cX9_looks 24 = .ok (.ifCond .eq 23, 3) := by decide +kernel
theorem dX9_looks_27 : decode cX9_looks 27 = .ok (.aload_n 0, 1) := by decide +kernel
theorem dX9_looks_28 : decode cX9_looks 28 = .ok (.getfield 151, 3) := by decide +kernel
theorem dX9_looks_31 : decode cX9_looks 31 = .ok (.i2l, 1) := by decide +kernel
theorem dX9_looks_32 : decode cX9_looks 32 = .ok (.iload_n 1, 1) := by decide +kernel
theorem dX9_looks_33 : decode cX9_looks 33 = .ok (.i2l, 1) := by decide +kernel
theorem dX9_looks_34 : decode cX9_looks 34 = .ok (.iload_n 2, 1) := by decide +kernel
theorem dX9_looks_35 : decode cX9_looks 35 = .ok (.i2l, 1) := by decide +kernel
theorem dX9_looks_36 : decode cX9_looks 36 = .ok (.invokestatic 130, 3) := by decide +kernel
theorem dX9_looks_39 : decode cX9_looks 39 = .ok (.ifCond .ne 8, 3) := by decide +kernel
theorem dX9_looks_42 : decode cX9_looks 42 = .ok (.aload_n 0, 1) := by decide +kernel
theorem dX9_looks_43 : decode cX9_looks 43 = .ok (.iconst 2, 1) := by decide +kernel
theorem dX9_looks_44 : decode cX9_looks 44 = .ok (.invokevirtual 174, 3) := by decide +kernel
theorem dX9_looks_47 : decode cX9_looks 47 = .ok (.aload_n 0, 1) := by decide +kernel
theorem dX9_looks_48 : decode cX9_looks 48 = .ok (.getfield 151, 3) := by decide +kernel
theorem dX9_looks_51 : decode cX9_looks 51 = .ok (.ireturn, 1) := by decide +kernel
theorem dX9_looksBack_0 : decode cX9_looksBack 0 = .ok (.aload_n 0, 1) := by decide +kernel
theorem dX9_looksBack_1 : decode cX9_looksBack 1 = .ok (.getfield 20, 3) := by decide +kernel
theorem dX9_looksBack_4 : decode cX9_looksBack 4 = .ok (.iconst 1, 1) := by decide +kernel
theorem dX9_looksBack_5 : decode cX9_looksBack 5 = .ok (.iaload, 1) := by decide +kernel
theorem dX9_looksBack_6 : decode cX9_looksBack 6 = .ok (.istore_n 2, 1) := by decide +kernel
theorem dX9_looksBack_7 : decode cX9_looksBack 7 = .ok (.aload_n 0, 1) := by decide +kernel
theorem dX9_looksBack_8 : decode cX9_looksBack 8 = .ok (.getfield 20, 3) := by decide +kernel
theorem dX9_looksBack_11 : decode cX9_looksBack 11 = .ok (.iconst 1, 1) := by decide +kernel
theorem dX9_looksBack_12 : decode cX9_looksBack 12 = .ok (.iload_n 1, 1) := by decide +kernel
theorem dX9_looksBack_13 : decode cX9_looksBack 13 = .ok (.iastore, 1) := by decide +kernel
theorem dX9_looksBack_14 : decode cX9_looksBack 14 = .ok (.aload_n 0, 1) := by decide +kernel
theorem dX9_looksBack_15 : decode cX9_looksBack 15 = .ok (.iload_n 2, 1) := by decide +kernel
theorem dX9_looksBack_16 : decode cX9_looksBack 16 = .ok (.invokevirtual 421, 3) := by decide +kernel
theorem dX9_looksBack_19 : decode cX9_looksBack 19 = .ok (.ireturn, 1) := by decide +kernel
theorem dX9_luckyMany_0 : decode cX9_luckyMany 0 = .ok (.iconst 0, 1) := by decide +kernel
theorem dX9_luckyMany_1 : decode cX9_luckyMany 1 = .ok (.istore_n 1, 1) := by decide +kernel
theorem dX9_luckyMany_2 : decode cX9_luckyMany 2 = .ok (.iconst 0, 1) := by decide +kernel
theorem dX9_luckyMany_3 : decode cX9_luckyMany 3 = .ok (.istore_n 2, 1) := by decide +kernel
theorem dX9_luckyMany_4 : decode cX9_luckyMany 4 = .ok (.iload_n 2, 1) := by decide +kernel
theorem dX9_luckyMany_5 : decode cX9_luckyMany 5 = .ok (.aload_n 0, 1) := by decide +kernel
theorem dX9_luckyMany_6 : decode cX9_luckyMany 6 = .ok (.getfield 20, 3) := by decide +kernel
theorem dX9_luckyMany_9 : decode cX9_luckyMany 9 = .ok (.iconst 0, 1) := by decide +kernel
theorem dX9_luckyMany_10 : decode cX9_luckyMany 10 = .ok (.iaload, 1) := by decide +kernel
theorem dX9_luckyMany_11 : decode cX9_luckyMany 11 = .ok (.if_icmp .ge 29, 3) := by decide +kernel
theorem dX9_luckyMany_14 : decode cX9_luckyMany 14 = .ok (.iload_n 1, 1) := by decide +kernel
theorem dX9_luckyMany_15 : decode cX9_luckyMany 15 = .ok (.aload_n 0, 1) := by decide +kernel
theorem dX9_luckyMany_16 : decode cX9_luckyMany 16 = .ok (.getfield 60, 3) := by decide +kernel
theorem dX9_luckyMany_19 : decode cX9_luckyMany 19 = .ok (.iload_n 2, 1) := by decide +kernel
theorem dX9_luckyMany_20 : decode cX9_luckyMany 20 = .ok (.iaload, 1) := by decide +kernel
theorem dX9_luckyMany_21 : decode cX9_luckyMany 21 = .ok (.ifCond .ne 7, 3) := by decide +kernel
theorem dX9_luckyMany_24 : decode cX9_luckyMany 24 = .ok (.iconst 1, 1) := by decide +kernel
theorem dX9_luckyMany_25 : decode cX9_luckyMany 25 = .ok (.goto 4, 3) := by decide +kernel
theorem dX9_luckyMany_28 : decode cX9_luckyMany 28 = .ok (.iconst 0, 1) := by decide +kernel
theorem dX9_luckyMany_29 : decode cX9_luckyMany 29 = .ok (.invokestatic 115, 3) := by decide +kernel
theorem dX9_luckyMany_32 : decode cX9_luckyMany 32 = .ok (.iadd, 1) := by decide +kernel
theorem dX9_luckyMany_33 : decode cX9_luckyMany 33 = .ok (.istore_n 1, 1) := by decide +kernel
theorem dX9_luckyMany_34 : decode cX9_luckyMany 34 = .ok (.iinc 2 1, 3) := by decide +kernel
theorem dX9_luckyMany_37 : decode cX9_luckyMany 37 = .ok (.goto (-33), 3) := by decide +kernel
theorem dX9_luckyMany_40 : decode cX9_luckyMany 40 = .ok (.iload_n 1, 1) := by decide +kernel
theorem dX9_luckyMany_41 : decode cX9_luckyMany 41 = .ok (.ireturn, 1) := by decide +kernel
theorem dX9_luckyShare_0 : decode cX9_luckyShare 0 = .ok (.aload_n 0, 1) := by decide +kernel
theorem dX9_luckyShare_1 : decode cX9_luckyShare 1 = .ok (.iconst 0, 1) := by decide +kernel
theorem dX9_luckyShare_2 : decode cX9_luckyShare 2 = .ok (.putfield 112, 3) := by decide +kernel
theorem dX9_luckyShare_5 : decode cX9_luckyShare 5 = .ok (.aload_n 0, 1) := by decide +kernel
theorem dX9_luckyShare_6 : decode cX9_luckyShare 6 = .ok (.aload_n 0, 1) := by decide +kernel
theorem dX9_luckyShare_7 : decode cX9_luckyShare 7 = .ok (.getfield 20, 3) := by decide +kernel
theorem dX9_luckyShare_10 : decode cX9_luckyShare 10 = .ok (.iconst 0, 1) := by decide +kernel
theorem dX9_luckyShare_11 : decode cX9_luckyShare 11 = .ok (.iaload, 1) := by decide +kernel
theorem dX9_luckyShare_12 : decode cX9_luckyShare 12 = .ok (.invokevirtual 230, 3) := by decide +kernel
theorem dX9_luckyShare_15 : decode cX9_luckyShare 15 = .ok (.aload_n 0, 1) := by decide +kernel
theorem dX9_luckyShare_16 : decode cX9_luckyShare 16 = .ok (.getfield 20, 3) := by decide +kernel
theorem dX9_luckyShare_19 : decode cX9_luckyShare 19 = .ok (.iconst 0, 1) := by decide +kernel
theorem dX9_luckyShare_20 : decode cX9_luckyShare 20 = .ok (.iaload, 1) := by decide +kernel
theorem dX9_luckyShare_21 : decode cX9_luckyShare 21 = .ok (.ifCond .ne 7, 3) := by decide +kernel
theorem dX9_luckyShare_24 : decode cX9_luckyShare 24 = .ok (.fconst 0, 1) := by decide +kernel
theorem dX9_luckyShare_25 : decode cX9_luckyShare 25 = .ok (.goto 16, 3) := by decide +kernel
theorem dX9_luckyShare_28 : decode cX9_luckyShare 28 = .ok (.aload_n 0, 1) := by decide +kernel
theorem dX9_luckyShare_29 : decode cX9_luckyShare 29 = .ok (.invokevirtual 297, 3) := by decide +kernel
theorem dX9_luckyShare_32 : decode cX9_luckyShare 32 = .ok (.i2f, 1) := by decide +kernel
theorem dX9_luckyShare_33 : decode cX9_luckyShare 33 = .ok (.aload_n 0, 1) := by decide +kernel
theorem dX9_luckyShare_34 : decode cX9_luckyShare 34 = .ok (.getfield 20, 3) := by decide +kernel
theorem dX9_luckyShare_37 : decode cX9_luckyShare 37 = .ok (.iconst 0, 1) := by decide +kernel
theorem dX9_luckyShare_38 : decode cX9_luckyShare 38 = .ok (.iaload, 1) := by decide +kernel
theorem dX9_luckyShare_39 : decode cX9_luckyShare 39 = .ok (.i2f, 1) := by decide +kernel
theorem dX9_luckyShare_40 : decode cX9_luckyShare 40 = .ok (.fdiv, 1) := by decide +kernel
theorem dX9_luckyShare_41 : decode cX9_luckyShare 41 = .ok (.freturn, 1) := by decide +kernel
theorem dX9_may_0 : decode cX9_may 0 = .ok (.aload_n 0, 1) := by decide +kernel
theorem dX9_may_1 : decode cX9_may 1 = .ok (.aload_n 0, 1) := by decide +kernel
theorem dX9_may_2 : decode cX9_may 2 = .ok (.getfield 103, 3) := by decide +kernel
theorem dX9_may_5 : decode cX9_may 5 = .ok (.iload_n 1, 1) := by decide +kernel
theorem dX9_may_6 : decode cX9_may 6 = .ok (.laload, 1) := by decide +kernel
theorem dX9_may_7 : decode cX9_may 7 = .ok (.invokevirtual 260, 3) := by decide +kernel
theorem dX9_may_10 : decode cX9_may 10 = .ok (.istore_n 2, 1) := by decide +kernel
theorem dX9_may_11 : decode cX9_may 11 = .ok (.aload_n 0, 1) := by decide +kernel
theorem dX9_may_12 : decode cX9_may 12 = .ok (.getfield 94, 3) := by decide +kernel
theorem dX9_may_15 : decode cX9_may 15 = .ok (.iload_n 1, 1) := by decide +kernel
theorem dX9_may_16 : decode cX9_may 16 = .ok (.iaload, 1) := by decide +kernel
theorem dX9_may_17 : decode cX9_may 17 = .ok (.istore_n 3, 1) := by decide +kernel
theorem dX9_may_18 : decode cX9_may 18 = .ok (.aload_n 0, 1) := by decide +kernel
theorem dX9_may_19 : decode cX9_may 19 = .ok (.getfield 91, 3) := by decide +kernel
theorem dX9_may_22 : decode cX9_may 22 = .ok (.iload_n 1, 1) := by decide +kernel
theorem dX9_may_23 : decode cX9_may 23 = .ok (.iaload, 1) := by decide +kernel
theorem dX9_may_24 : decode cX9_may 24 = .ok (.tableswitch 146 0 5 #[40, 59, 90, 113, 136, 141], 40) := by decide +kernel
theorem dX9_may_64 : decode cX9_may 64 = .ok (.iload_n 2, 1) := by decide +kernel
theorem dX9_may_65 : decode cX9_may 65 = .ok (.iconst (-1), 1) := by decide +kernel
theorem dX9_may_66 : decode cX9_may 66 = .ok (.if_icmp .eq 15, 3) := by decide +kernel
theorem dX9_may_69 : decode cX9_may 69 = .ok (.aload_n 0, 1) := by decide +kernel
theorem dX9_may_70 : decode cX9_may 70 = .ok (.iload_n 3, 1) := by decide +kernel
theorem dX9_may_71 : decode cX9_may 71 = .ok (.invokevirtual 341, 3) := by decide +kernel
theorem dX9_may_74 : decode cX9_may 74 = .ok (.ifCond .eq 7, 3) := by decide +kernel
theorem dX9_may_77 : decode cX9_may 77 = .ok (.iconst 1, 1) := by decide +kernel
theorem dX9_may_78 : decode cX9_may 78 = .ok (.goto 4, 3) := by decide +kernel
theorem dX9_may_81 : decode cX9_may 81 = .ok (.iconst 0, 1) := by decide +kernel
theorem dX9_may_82 : decode cX9_may 82 = .ok (.ireturn, 1) := by decide +kernel
theorem dX9_may_83 : decode cX9_may 83 = .ok (.aload_n 0, 1) := by decide +kernel
theorem dX9_may_84 : decode cX9_may 84 = .ok (.iload_n 3, 1) := by decide +kernel
theorem dX9_may_85 : decode cX9_may 85 = .ok (.invokevirtual 460, 3) := by decide +kernel
theorem dX9_may_88 : decode cX9_may 88 = .ok (.ifCond .eq 24, 3) := by decide +kernel
theorem dX9_may_91 : decode cX9_may 91 = .ok (.aload_n 0, 1) := by decide +kernel
theorem dX9_may_92 : decode cX9_may 92 = .ok (.aload_n 0, 1) := by decide +kernel
theorem dX9_may_93 : decode cX9_may 93 = .ok (.aload_n 0, 1) := by decide +kernel
theorem dX9_may_94 : decode cX9_may 94 = .ok (.getfield 103, 3) := by decide +kernel
theorem dX9_may_97 : decode cX9_may 97 = .ok (.iload_n 1, 1) := by decide +kernel
theorem dX9_may_98 : decode cX9_may 98 = .ok (.laload, 1) := by decide +kernel
theorem dX9_may_99 : decode cX9_may 99 = .ok (.invokevirtual 466, 3) := by decide +kernel
theorem dX9_may_102 : decode cX9_may 102 = .ok (.invokevirtual 433, 3) := by decide +kernel
theorem dX9_may_105 : decode cX9_may 105 = .ok (.ifCond .ne 7, 3) := by decide +kernel
theorem dX9_may_108 : decode cX9_may 108 = .ok (.iconst 1, 1) := by decide +kernel
theorem dX9_may_109 : decode cX9_may 109 = .ok (.goto 4, 3) := by decide +kernel
theorem dX9_may_112 : decode cX9_may 112 = .ok (.iconst 0, 1) := by decide +kernel
theorem dX9_may_113 : decode cX9_may 113 = .ok (.ireturn, 1) := by decide +kernel
theorem dX9_may_114 : decode cX9_may 114 = .ok (.iload_n 2, 1) := by decide +kernel
theorem dX9_may_115 : decode cX9_may 115 = .ok (.iconst (-1), 1) := by decide +kernel
theorem dX9_may_116 : decode cX9_may 116 = .ok (.if_icmp .eq 19, 3) := by decide +kernel
theorem dX9_may_119 : decode cX9_may 119 = .ok (.aload_n 0, 1) := by decide +kernel
theorem dX9_may_120 : decode cX9_may 120 = .ok (.aload_n 0, 1) := by decide +kernel
theorem dX9_may_121 : decode cX9_may 121 = .ok (.iload_n 2, 1) := by decide +kernel
theorem dX9_may_122 : decode cX9_may 122 = .ok (.invokevirtual 430, 3) := by decide +kernel
theorem dX9_may_125 : decode cX9_may 125 = .ok (.invokevirtual 433, 3) := by decide +kernel
theorem dX9_may_128 : decode cX9_may 128 = .ok (.ifCond .ne 7, 3) := by decide +kernel
theorem dX9_may_131 : decode cX9_may 131 = .ok (.iconst 1, 1) := by decide +kernel
theorem dX9_may_132 : decode cX9_may 132 = .ok (.goto 4, 3) := by decide +kernel
theorem dX9_may_135 : decode cX9_may 135 = .ok (.iconst 0, 1) := by decide +kernel
theorem dX9_may_136 : decode cX9_may 136 = .ok (.ireturn, 1) := by decide +kernel
theorem dX9_may_137 : decode cX9_may 137 = .ok (.iload_n 2, 1) := by decide +kernel
theorem dX9_may_138 : decode cX9_may 138 = .ok (.iconst (-1), 1) := by decide +kernel
theorem dX9_may_139 : decode cX9_may 139 = .ok (.if_icmp .eq 19, 3) := by decide +kernel
theorem dX9_may_142 : decode cX9_may 142 = .ok (.aload_n 0, 1) := by decide +kernel
theorem dX9_may_143 : decode cX9_may 143 = .ok (.aload_n 0, 1) := by decide +kernel
theorem dX9_may_144 : decode cX9_may 144 = .ok (.iload_n 2, 1) := by decide +kernel
theorem dX9_may_145 : decode cX9_may 145 = .ok (.invokevirtual 472, 3) := by decide +kernel
theorem dX9_may_148 : decode cX9_may 148 = .ok (.invokevirtual 433, 3) := by decide +kernel
theorem dX9_may_151 : decode cX9_may 151 = .ok (.ifCond .ne 7, 3) := by decide +kernel
theorem dX9_may_154 : decode cX9_may 154 = .ok (.iconst 1, 1) := by decide +kernel
theorem dX9_may_155 : decode cX9_may 155 = .ok (.goto 4, 3) := by decide +kernel
theorem dX9_may_158 : decode cX9_may 158 = .ok (.iconst 0, 1) := by decide +kernel
theorem dX9_may_159 : decode cX9_may 159 = .ok (.ireturn, 1) := by decide +kernel
theorem dX9_may_160 : decode cX9_may 160 = .ok (.iload_n 3, 1) := by decide +kernel
theorem dX9_may_161 : decode cX9_may 161 = .ok (.invokestatic 441, 3) := by decide +kernel
theorem dX9_may_164 : decode cX9_may 164 = .ok (.ireturn, 1) := by decide +kernel
theorem dX9_may_165 : decode cX9_may 165 = .ok (.iload_n 3, 1) := by decide +kernel
theorem dX9_may_166 : decode cX9_may 166 = .ok (.invokestatic 415, 3) := by decide +kernel
theorem dX9_may_169 : decode cX9_may 169 = .ok (.ireturn, 1) := by decide +kernel
theorem dX9_may_170 : decode cX9_may 170 = .ok (.iconst 1, 1) := by decide +kernel
theorem dX9_may_171 : decode cX9_may 171 = .ok (.ireturn, 1) := by decide +kernel
theorem dX9_mayCome_0 : decode cX9_mayCome 0 = .ok (.iload_n 1, 1) := by decide +kernel
theorem dX9_mayCome_1 : decode cX9_mayCome 1 = .ok (.i2l, 1) := by decide +kernel
theorem dX9_mayCome_2 : decode cX9_mayCome 2 = .ok (.lconst 0, 1) := by decide +kernel
theorem dX9_mayCome_3 : decode cX9_mayCome 3 = .ok (.aload_n 0, 1) := by decide +kernel
theorem dX9_mayCome_4 : decode cX9_mayCome 4 = .ok (.getfield 20, 3) := by decide +kernel
theorem dX9_mayCome_7 : decode cX9_mayCome 7 = .ok (.iconst 0, 1) := by decide +kernel
theorem dX9_mayCome_8 : decode cX9_mayCome 8 = .ok (.iaload, 1) := by decide +kernel
theorem dX9_mayCome_9 : decode cX9_mayCome 9 = .ok (.iconst 1, 1) := by decide +kernel
theorem dX9_mayCome_10 : decode cX9_mayCome 10 = .ok (.iadd, 1) := by decide +kernel
theorem dX9_mayCome_11 : decode cX9_mayCome 11 = .ok (.i2l, 1) := by decide +kernel
theorem dX9_mayCome_12 : decode cX9_mayCome 12 = .ok (.invokestatic 130, 3) := by decide +kernel
theorem dX9_mayCome_15 : decode cX9_mayCome 15 = .ok (.ireturn, 1) := by decide +kernel
theorem dX9_meanWay_0 : decode cX9_meanWay 0 = .ok (.aload_n 0, 1) := by decide +kernel
theorem dX9_meanWay_1 : decode cX9_meanWay 1 = .ok (.iconst 0, 1) := by decide +kernel
theorem dX9_meanWay_2 : decode cX9_meanWay 2 = .ok (.putfield 112, 3) := by decide +kernel
theorem dX9_meanWay_5 : decode cX9_meanWay 5 = .ok (.aload_n 0, 1) := by decide +kernel
theorem dX9_meanWay_6 : decode cX9_meanWay 6 = .ok (.aload_n 0, 1) := by decide +kernel
theorem dX9_meanWay_7 : decode cX9_meanWay 7 = .ok (.getfield 20, 3) := by decide +kernel
theorem dX9_meanWay_10 : decode cX9_meanWay 10 = .ok (.iconst 0, 1) := by decide +kernel
theorem dX9_meanWay_11 : decode cX9_meanWay 11 = .ok (.iaload, 1) := by decide +kernel
theorem dX9_meanWay_12 : decode cX9_meanWay 12 = .ok (.invokevirtual 230, 3) := by decide +kernel
theorem dX9_meanWay_15 : decode cX9_meanWay 15 = .ok (.aload_n 0, 1) := by decide +kernel
theorem dX9_meanWay_16 : decode cX9_meanWay 16 = .ok (.getfield 20, 3) := by decide +kernel
theorem dX9_meanWay_19 : decode cX9_meanWay 19 = .ok (.iconst 0, 1) := by decide +kernel
theorem dX9_meanWay_20 : decode cX9_meanWay 20 = .ok (.iaload, 1) := by decide +kernel
theorem dX9_meanWay_21 : decode cX9_meanWay 21 = .ok (.ifCond .ne 7, 3) := by decide +kernel
theorem dX9_meanWay_24 : decode cX9_meanWay 24 = .ok (.dconst 0, 1) := by decide +kernel
theorem dX9_meanWay_25 : decode cX9_meanWay 25 = .ok (.goto 16, 3) := by decide +kernel
theorem dX9_meanWay_28 : decode cX9_meanWay 28 = .ok (.aload_n 0, 1) := by decide +kernel
theorem dX9_meanWay_29 : decode cX9_meanWay 29 = .ok (.invokevirtual 303, 3) := by decide +kernel
theorem dX9_meanWay_32 : decode cX9_meanWay 32 = .ok (.i2d, 1) := by decide +kernel
theorem dX9_meanWay_33 : decode cX9_meanWay 33 = .ok (.aload_n 0, 1) := by decide +kernel
theorem dX9_meanWay_34 : decode cX9_meanWay 34 = .ok (.getfield 20, 3) := by decide +kernel
theorem dX9_meanWay_37 : decode cX9_meanWay 37 = .ok (.iconst 0, 1) := by decide +kernel
theorem dX9_meanWay_38 : decode cX9_meanWay 38 = .ok (.iaload, 1) := by decide +kernel
theorem dX9_meanWay_39 : decode cX9_meanWay 39 = .ok (.i2d, 1) := by decide +kernel
theorem dX9_meanWay_40 : decode cX9_meanWay 40 = .ok (.ddiv, 1) := by decide +kernel
theorem dX9_meanWay_41 : decode cX9_meanWay 41 = .ok (.dreturn, 1) := by decide +kernel
theorem dX9_movedBy_0 : decode cX9_movedBy 0 = .ok (.aload_n 0, 1) := by decide +kernel
theorem dX9_movedBy_1 : decode cX9_movedBy 1 = .ok (.getfield 54, 3) := by decide +kernel
theorem dX9_movedBy_4 : decode cX9_movedBy 4 = .ok (.iload_n 1, 1) := by decide +kernel
theorem dX9_movedBy_5 : decode cX9_movedBy 5 = .ok (.iaload, 1) := by decide +kernel
theorem dX9_movedBy_6 : decode cX9_movedBy 6 = .ok (.iconst (-1), 1) := by decide +kernel
theorem dX9_movedBy_7 : decode cX9_movedBy 7 = .ok (.if_icmp .ne 5, 3) := by decide +kernel
theorem dX9_movedBy_10 : decode cX9_movedBy 10 = .ok (.iconst 0, 1) := by decide +kernel
theorem dX9_movedBy_11 : decode cX9_movedBy 11 = .ok (.ireturn, 1) := by decide +kernel
theorem dX9_movedBy_12 : decode cX9_movedBy 12 = .ok (.iconst 1, 1) := by decide +kernel
theorem dX9_movedBy_13 : decode cX9_movedBy 13 = .ok (.istore_n 2, 1) := by decide +kernel
theorem dX9_movedBy_14 : decode cX9_movedBy 14 = .ok (.iload_n 2, 1) := by decide +kernel
theorem dX9_movedBy_15 : decode cX9_movedBy 15 = .ok (.aload_n 0, 1) := by decide +kernel
theorem dX9_movedBy_16 : decode cX9_movedBy 16 = .ok (.getfield 20, 3) := by decide +kernel
theorem dX9_movedBy_19 : decode cX9_movedBy 19 = .ok (.iconst 1, 1) := by decide +kernel
theorem dX9_movedBy_20 : decode cX9_movedBy 20 = .ok (.iaload, 1) := by decide +kernel
theorem dX9_movedBy_21 : decode cX9_movedBy 21 = .ok (.if_icmp .gt 28, 3) := by decide +kernel
theorem dX9_movedBy_24 : decode cX9_movedBy 24 = .ok (.aload_n 0, 1) := by decide +kernel
theorem dX9_movedBy_25 : decode cX9_movedBy 25 = .ok (.getfield 54, 3) := by decide +kernel
theorem dX9_movedBy_28 : decode cX9_movedBy 28 = .ok (.aload_n 0, 1) := by decide +kernel
theorem dX9_movedBy_29 : decode cX9_movedBy 29 = .ok (.iload_n 1, 1) := by decide +kernel
theorem dX9_movedBy_30 : decode cX9_movedBy 30 = .ok (.iload_n 2, 1) := by decide +kernel
theorem dX9_movedBy_31 : decode cX9_movedBy 31 = .ok (.isub, 1) := by decide +kernel
theorem dX9_movedBy_32 : decode cX9_movedBy 32 = .ok (.invokevirtual 218, 3) := by decide +kernel
theorem dX9_movedBy_35 : decode cX9_movedBy 35 = .ok (.iaload, 1) := by decide +kernel
theorem dX9_movedBy_36 : decode cX9_movedBy 36 = .ok (.iconst (-1), 1) := by decide +kernel
theorem dX9_movedBy_37 : decode cX9_movedBy 37 = .ok (.if_icmp .ne 6, 3) := by decide +kernel
theorem dX9_movedBy_40 : decode cX9_movedBy 40 = .ok (.iload_n 2, 1) := by decide +kernel
theorem dX9_movedBy_41 : decode cX9_movedBy 41 = .ok (.ineg, 1) := by decide +kernel
theorem dX9_movedBy_42 : decode cX9_movedBy 42 = .ok (.ireturn, 1) := by decide +kernel
theorem dX9_movedBy_43 : decode cX9_movedBy 43 = .ok (.iinc 2 1, 3) := by decide +kernel
theorem dX9_movedBy_46 : decode cX9_movedBy 46 = .ok (.goto (-32), 3) := by decide +kernel
theorem dX9_movedBy_49 : decode cX9_movedBy 49 = .ok (.iconst 1, 1) := by decide +kernel
theorem dX9_movedBy_50 : decode cX9_movedBy 50 = .ok (.istore_n 2, 1) := by decide +kernel
theorem dX9_movedBy_51 : decode cX9_movedBy 51 = .ok (.aload_n 0, 1) := by decide +kernel
theorem dX9_movedBy_52 : decode cX9_movedBy 52 = .ok (.getfield 54, 3) := by decide +kernel
theorem dX9_movedBy_55 : decode cX9_movedBy 55 = .ok (.aload_n 0, 1) := by decide +kernel
theorem dX9_movedBy_56 : decode cX9_movedBy 56 = .ok (.iload_n 1, 1) := by decide +kernel
theorem dX9_movedBy_57 : decode cX9_movedBy 57 = .ok (.iload_n 2, 1) := by decide +kernel
theorem dX9_movedBy_58 : decode cX9_movedBy 58 = .ok (.iadd, 1) := by decide +kernel
theorem dX9_movedBy_59 : decode cX9_movedBy 59 = .ok (.invokevirtual 218, 3) := by decide +kernel
theorem dX9_movedBy_62 : decode cX9_movedBy 62 = .ok (.iaload, 1) := by decide +kernel
theorem dX9_movedBy_63 : decode cX9_movedBy 63 = .ok (.iconst (-1), 1) := by decide +kernel
theorem dX9_movedBy_64 : decode cX9_movedBy 64 = .ok (.if_icmp .eq 9, 3) := by decide +kernel
theorem dX9_movedBy_67 : decode cX9_movedBy 67 = .ok (.iinc 2 1, 3) := by decide +kernel
theorem dX9_movedBy_70 : decode cX9_movedBy 70 = .ok (.goto (-19), 3) := by decide +kernel
theorem dX9_movedBy_73 : decode cX9_movedBy 73 = .ok (.iload_n 2, 1) := by decide +kernel
theorem dX9_movedBy_74 : decode cX9_movedBy 74 = .ok (.ireturn, 1) := by decide +kernel
theorem dX9_mustName_0 : decode cX9_mustName 0 = .ok (.aload_n 0, 1) := by decide +kernel
theorem dX9_mustName_1 : decode cX9_mustName 1 = .ok (.invokevirtual 167, 3) := by decide +kernel
theorem dX9_mustName_4 : decode cX9_mustName 4 = .ok (.ifCond .eq 16, 3) := by decide +kernel
theorem dX9_mustName_7 : decode cX9_mustName 7 = .ok (.aload_n 0, 1) := by decide +kernel
theorem dX9_mustName_8 : decode cX9_mustName 8 = .ok (.getfield 154, 3) := by decide +kernel
theorem dX9_mustName_11 : decode cX9_mustName 11 = .ok (.iconst 1, 1) := by decide +kernel
theorem dX9_mustName_12 : decode cX9_mustName 12 = .ok (.if_icmp .eq 8, 3) := by decide +kernel
theorem dX9_mustName_15 : decode cX9_mustName 15 = .ok (.aload_n 0, 1) := by decide +kernel
theorem dX9_mustName_16 : decode cX9_mustName 16 = .ok (.iconst 1, 1) := by decide +kernel
theorem dX9_mustName_17 : decode cX9_mustName 17 = .ok (.invokevirtual 174, 3) := by decide +kernel
theorem dX9_mustName_20 : decode cX9_mustName 20 = .ok (.return_, 1) := by decide +kernel
theorem dX9_mustSign_0 : decode cX9_mustSign 0 = .ok (.aload_n 0, 1) := by decide +kernel
theorem dX9_mustSign_1 : decode cX9_mustSign 1 = .ok (.invokevirtual 167, 3) := by decide +kernel
theorem dX9_mustSign_4 : decode cX9_mustSign 4 = .ok (.ifCond .eq 16, 3) := by decide +kernel
theorem dX9_mustSign_7 : decode cX9_mustSign 7 = .ok (.aload_n 0, 1) := by decide +kernel
theorem dX9_mustSign_8 : decode cX9_mustSign 8 = .ok (.iload_n 1, 1) := by decide +kernel
theorem dX9_mustSign_9 : decode cX9_mustSign 9 = .ok (.invokevirtual 171, 3) := by decide +kernel
theorem dX9_mustSign_12 : decode cX9_mustSign 12 = .ok (.ifCond .ne 8, 3) := by decide +kernel
theorem dX9_mustSign_15 : decode cX9_mustSign 15 = .ok (.aload_n 0, 1) := by decide +kernel
theorem dX9_mustSign_16 : decode cX9_mustSign 16 = .ok (.iconst 1, 1) := by decide +kernel
theorem dX9_mustSign_17 : decode cX9_mustSign 17 = .ok (.invokevirtual 174, 3) := by decide +kernel
theorem dX9_mustSign_20 : decode cX9_mustSign 20 = .ok (.aload_n 0, 1) := by decide +kernel
theorem dX9_mustSign_21 : decode cX9_mustSign 21 = .ok (.invokevirtual 167, 3) := by decide +kernel
theorem dX9_mustSign_24 : decode cX9_mustSign 24 = .ok (.ifCond .eq 7, 3) := by decide +kernel
theorem dX9_mustSign_27 : decode cX9_mustSign 27 = .ok (.aload_n 0, 1) := by decide +kernel
theorem dX9_mustSign_28 : decode cX9_mustSign 28 = .ok (.invokevirtual 177, 3) := by decide +kernel
theorem dX9_mustSign_31 : decode cX9_mustSign 31 = .ok (.return_, 1) := by decide +kernel
theorem dX9_mustWord_0 : decode cX9_mustWord 0 = .ok (.aload_n 0, 1) := by decide +kernel
theorem dX9_mustWord_1 : decode cX9_mustWord 1 = .ok (.invokevirtual 167, 3) := by decide +kernel
theorem dX9_mustWord_4 : decode cX9_mustWord 4 = .ok (.ifCond .eq 16, 3) := by decide +kernel
theorem dX9_mustWord_7 : decode cX9_mustWord 7 = .ok (.aload_n 0, 1) := by decide +kernel
theorem dX9_mustWord_8 : decode cX9_mustWord 8 = .ok (.lload_n 1, 1) := by decide +kernel
theorem dX9_mustWord_9 : decode cX9_mustWord 9 = .ok (.invokevirtual 180, 3) := by decide +kernel
theorem dX9_mustWord_12 : decode cX9_mustWord 12 = .ok (.ifCond .ne 8, 3) := by decide +kernel
theorem dX9_mustWord_15 : decode cX9_mustWord 15 = .ok (.aload_n 0, 1) := by decide +kernel
theorem dX9_mustWord_16 : decode cX9_mustWord 16 = .ok (.iconst 1, 1) := by decide +kernel
theorem dX9_mustWord_17 : decode cX9_mustWord 17 = .ok (.invokevirtual 174, 3) := by decide +kernel
theorem dX9_mustWord_20 : decode cX9_mustWord 20 = .ok (.aload_n 0, 1) := by decide +kernel
theorem dX9_mustWord_21 : decode cX9_mustWord 21 = .ok (.invokevirtual 167, 3) := by decide +kernel
theorem dX9_mustWord_24 : decode cX9_mustWord 24 = .ok (.ifCond .eq 7, 3) := by decide +kernel
theorem dX9_mustWord_27 : decode cX9_mustWord 27 = .ok (.aload_n 0, 1) := by decide +kernel
theorem dX9_mustWord_28 : decode cX9_mustWord 28 = .ok (.invokevirtual 177, 3) := by decide +kernel
theorem dX9_mustWord_31 : decode cX9_mustWord 31 = .ok (.return_, 1) := by decide +kernel
theorem dX9_nameHere_0 : decode cX9_nameHere 0 = .ok (.aload_n 0, 1) := by decide +kernel
theorem dX9_nameHere_1 : decode cX9_nameHere 1 = .ok (.invokevirtual 255, 3) := by decide +kernel
theorem dX9_nameHere_4 : decode cX9_nameHere 4 = .ok (.aload_n 0, 1) := by decide +kernel
theorem dX9_nameHere_5 : decode cX9_nameHere 5 = .ok (.getfield 147, 3) := by decide +kernel
theorem dX9_nameHere_8 : decode cX9_nameHere 8 = .ok (.lstore_n 1, 1) := by decide +kernel
theorem dX9_nameHere_9 : decode cX9_nameHere 9 = .ok (.aload_n 0, 1) := by decide +kernel
theorem dX9_nameHere_10 : decode cX9_nameHere 10 = .ok (.invokevirtual 167, 3) := by decide +kernel
theorem dX9_nameHere_13 : decode cX9_nameHere 13 = .ok (.ifCond .eq 7, 3) := by decide +kernel
theorem dX9_nameHere_16 : decode cX9_nameHere 16 = .ok (.aload_n 0, 1) := by decide +kernel
theorem dX9_nameHere_17 : decode cX9_nameHere 17 = .ok (.invokevirtual 177, 3) := by decide +kernel
theorem dX9_nameHere_20 : decode cX9_nameHere 20 = .ok (.lload_n 1, 1) := by decide +kernel
theorem dX9_nameHere_21 : decode cX9_nameHere 21 = .ok (.lreturn, 1) := by decide +kernel
theorem dX9_number_0 : decode cX9_number 0 = .ok (.aload_n 0, 1) := by decide +kernel
theorem dX9_number_1 : decode cX9_number 1 = .ok (.iload_n 1, 1) := by decide +kernel
theorem dX9_number_2 : decode cX9_number 2 = .ok (.iload_n 2, 1) := by decide +kernel
theorem dX9_number_3 : decode cX9_number 3 = .ok (.invokevirtual 184, 3) := by decide +kernel
theorem dX9_number_6 : decode cX9_number 6 = .ok (.istore_n 3, 1) := by decide +kernel
theorem dX9_number_7 : decode cX9_number 7 = .ok (.aload_n 0, 1) := by decide +kernel
theorem dX9_number_8 : decode cX9_number 8 = .ok (.invokevirtual 167, 3) := by decide +kernel
theorem dX9_number_11 : decode cX9_number 11 = .ok (.ifCond .eq 7, 3) := by decide +kernel
theorem dX9_number_14 : decode cX9_number 14 = .ok (.aload_n 0, 1) := by decide +kernel
theorem dX9_number_15 : decode cX9_number 15 = .ok (.invokevirtual 177, 3) := by decide +kernel
theorem dX9_number_18 : decode cX9_number 18 = .ok (.iload_n 3, 1) := by decide +kernel
theorem dX9_number_19 : decode cX9_number 19 = .ok (.ireturn, 1) := by decide +kernel
theorem dX9_parks_0 : decode cX9_parks 0 = .ok (.iconst 0, 1) := by decide +kernel
theorem dX9_parks_1 : decode cX9_parks 1 = .ok (.istore_n 2, 1) := by decide +kernel
theorem dX9_parks_2 : decode cX9_parks 2 = .ok (.iload_n 2, 1) := by decide +kernel
theorem dX9_parks_3 : decode cX9_parks 3 = .ok (.aload_n 0, 1) := by decide +kernel
theorem dX9_parks_4 : decode cX9_parks 4 = .ok (.invokevirtual 214, 3) := by decide +kernel
theorem dX9_parks_7 : decode cX9_parks 7 = .ok (.if_icmp .ge 16, 3) := by decide +kernel
theorem dX9_parks_10 : decode cX9_parks 10 = .ok (.aload_n 0, 1) := by decide +kernel
theorem dX9_parks_11 : decode cX9_parks 11 = .ok (.getfield 54, 3) := by decide +kernel
theorem dX9_parks_14 : decode cX9_parks 14 = .ok (.iload_n 2, 1) := by decide +kernel
theorem dX9_parks_15 : decode cX9_parks 15 = .ok (.iconst (-1), 1) := by decide +kernel
theorem dX9_parks_16 : decode cX9_parks 16 = .ok (.iastore, 1) := by decide +kernel
theorem dX9_parks_17 : decode cX9_parks 17 = .ok (.iinc 2 1, 3) := by decide +kernel
theorem dX9_parks_20 : decode cX9_parks 20 = .ok (.goto (-18), 3) := by decide +kernel
theorem dX9_parks_23 : decode cX9_parks 23 = .ok (.iconst 0, 1) := by decide +kernel
theorem dX9_parks_24 : decode cX9_parks 24 = .ok (.istore_n 2, 1) := by decide +kernel
theorem dX9_parks_25 : decode cX9_parks 25 = .ok (.iload_n 2, 1) := by decide +kernel
theorem dX9_parks_26 : decode cX9_parks 26 = .ok (.iload_n 1, 1) := by decide +kernel
theorem dX9_parks_27 : decode cX9_parks 27 = .ok (.if_icmp .ge 55, 3) := by decide +kernel
theorem dX9_parks_30 : decode cX9_parks 30 = .ok (.aload_n 0, 1) := by decide +kernel
theorem dX9_parks_31 : decode cX9_parks 31 = .ok (.aload_n 0, 1) := by decide +kernel
theorem dX9_parks_32 : decode cX9_parks 32 = .ok (.iload_n 2, 1) := by decide +kernel
theorem dX9_parks_33 : decode cX9_parks 33 = .ok (.invokevirtual 221, 3) := by decide +kernel
theorem dX9_parks_36 : decode cX9_parks 36 = .ok (.invokevirtual 224, 3) := by decide +kernel
theorem dX9_parks_39 : decode cX9_parks 39 = .ok (.istore_n 3, 1) := by decide +kernel
theorem dX9_parks_40 : decode cX9_parks 40 = .ok (.aload_n 0, 1) := by decide +kernel
theorem dX9_parks_41 : decode cX9_parks 41 = .ok (.getfield 60, 3) := by decide +kernel
theorem dX9_parks_44 : decode cX9_parks 44 = .ok (.iload_n 2, 1) := by decide +kernel
theorem dX9_parks_45 : decode cX9_parks 45 = .ok (.iload_n 3, 1) := by decide +kernel
theorem dX9_parks_46 : decode cX9_parks 46 = .ok (.iastore, 1) := by decide +kernel
theorem dX9_parks_47 : decode cX9_parks 47 = .ok (.aload_n 0, 1) := by decide +kernel
theorem dX9_parks_48 : decode cX9_parks 48 = .ok (.getfield 57, 3) := by decide +kernel
theorem dX9_parks_51 : decode cX9_parks 51 = .ok (.iload_n 2, 1) := by decide +kernel
theorem dX9_parks_52 : decode cX9_parks 52 = .ok (.aload_n 0, 1) := by decide +kernel
theorem dX9_parks_53 : decode cX9_parks 53 = .ok (.aload_n 0, 1) := by decide +kernel
theorem dX9_parks_54 : decode cX9_parks 54 = .ok (.iload_n 2, 1) := by decide +kernel
theorem dX9_parks_55 : decode cX9_parks 55 = .ok (.invokevirtual 221, 3) := by decide +kernel
theorem dX9_parks_58 : decode cX9_parks 58 = .ok (.iload_n 3, 1) := by decide +kernel
theorem dX9_parks_59 : decode cX9_parks 59 = .ok (.iadd, 1) := by decide +kernel
theorem dX9_parks_60 : decode cX9_parks 60 = .ok (.invokevirtual 218, 3) := by decide +kernel
theorem dX9_parks_63 : decode cX9_parks 63 = .ok (.iastore, 1) := by decide +kernel
theorem dX9_parks_64 : decode cX9_parks 64 = .ok (.aload_n 0, 1) := by decide +kernel
theorem dX9_parks_65 : decode cX9_parks 65 = .ok (.getfield 54, 3) := by decide +kernel
theorem dX9_parks_68 : decode cX9_parks 68 = .ok (.aload_n 0, 1) := by decide +kernel
theorem dX9_parks_69 : decode cX9_parks 69 = .ok (.getfield 57, 3) := by decide +kernel
theorem dX9_parks_72 : decode cX9_parks 72 = .ok (.iload_n 2, 1) := by decide +kernel
theorem dX9_parks_73 : decode cX9_parks 73 = .ok (.iaload, 1) := by decide +kernel
theorem dX9_parks_74 : decode cX9_parks 74 = .ok (.iload_n 2, 1) := by decide +kernel
theorem dX9_parks_75 : decode cX9_parks 75 = .ok (.iastore, 1) := by decide +kernel
theorem dX9_parks_76 : decode cX9_parks 76 = .ok (.iinc 2 1, 3) := by decide +kernel
theorem dX9_parks_79 : decode cX9_parks 79 = .ok (.goto (-54), 3) := by decide +kernel
theorem dX9_parks_82 : decode cX9_parks 82 = .ok (.return_, 1) := by decide +kernel
theorem dX9_parksByLine_0 : decode cX9_parksByLine 0 = .ok (.aload_n 0, 1) := by decide +kernel
theorem dX9_parksByLine_1 : decode cX9_parksByLine 1 = .ok (.aload_n 0, 1) := by decide +kernel
theorem dX9_parksByLine_2 : decode cX9_parksByLine 2 = .ok (.getfield 20, 3) := by decide +kernel
theorem dX9_parksByLine_5 : decode cX9_parksByLine 5 = .ok (.iconst 0, 1) := by decide +kernel
theorem dX9_parksByLine_6 : decode cX9_parksByLine 6 = .ok (.iaload, 1) := by decide +kernel
theorem dX9_parksByLine_7 : decode cX9_parksByLine 7 = .ok (.invokevirtual 230, 3) := by decide +kernel
theorem dX9_parksByLine_10 : decode cX9_parksByLine 10 = .ok (.aload_n 0, 1) := by decide +kernel
theorem dX9_parksByLine_11 : decode cX9_parksByLine 11 = .ok (.invokevirtual 233, 3) := by decide +kernel
theorem dX9_parksByLine_14 : decode cX9_parksByLine 14 = .ok (.istore_n 1, 1) := by decide +kernel
theorem dX9_parksByLine_15 : decode cX9_parksByLine 15 = .ok (.iconst 0, 1) := by decide +kernel
theorem dX9_parksByLine_16 : decode cX9_parksByLine 16 = .ok (.istore_n 2, 1) := by decide +kernel
theorem dX9_parksByLine_17 : decode cX9_parksByLine 17 = .ok (.iload_n 2, 1) := by decide +kernel
theorem dX9_parksByLine_18 : decode cX9_parksByLine 18 = .ok (.aload_n 0, 1) := by decide +kernel
theorem dX9_parksByLine_19 : decode cX9_parksByLine 19 = .ok (.invokevirtual 214, 3) := by decide +kernel
theorem dX9_parksByLine_22 : decode cX9_parksByLine 22 = .ok (.if_icmp .ge 16, 3) := by decide +kernel
theorem dX9_parksByLine_25 : decode cX9_parksByLine 25 = .ok (.aload_n 0, 1) := by decide +kernel
theorem dX9_parksByLine_26 : decode cX9_parksByLine 26 = .ok (.getfield 63, 3) := by decide +kernel
theorem dX9_parksByLine_29 : decode cX9_parksByLine 29 = .ok (.iload_n 2, 1) := by decide +kernel
theorem dX9_parksByLine_30 : decode cX9_parksByLine 30 = .ok (.iconst (-1), 1) := by decide +kernel
theorem dX9_parksByLine_31 : decode cX9_parksByLine 31 = .ok (.iastore, 1) := by decide +kernel
theorem dX9_parksByLine_32 : decode cX9_parksByLine 32 = .ok (.iinc 2 1, 3) := by decide +kernel
theorem dX9_parksByLine_35 : decode cX9_parksByLine 35 = .ok (.goto (-18), 3) := by decide +kernel
theorem dX9_parksByLine_38 : decode cX9_parksByLine 38 = .ok (.iconst 0, 1) := by decide +kernel
theorem dX9_parksByLine_39 : decode cX9_parksByLine 39 = .ok (.istore_n 2, 1) := by decide +kernel
theorem dX9_parksByLine_40 : decode cX9_parksByLine 40 = .ok (.iload_n 2, 1) := by decide +kernel
theorem dX9_parksByLine_41 : decode cX9_parksByLine 41 = .ok (.aload_n 0, 1) := by decide +kernel
theorem dX9_parksByLine_42 : decode cX9_parksByLine 42 = .ok (.getfield 20, 3) := by decide +kernel
theorem dX9_parksByLine_45 : decode cX9_parksByLine 45 = .ok (.iconst 0, 1) := by decide +kernel
theorem dX9_parksByLine_46 : decode cX9_parksByLine 46 = .ok (.iaload, 1) := by decide +kernel
theorem dX9_parksByLine_47 : decode cX9_parksByLine 47 = .ok (.if_icmp .ge 40, 3) := by decide +kernel
theorem dX9_parksByLine_50 : decode cX9_parksByLine 50 = .ok (.aload_n 0, 1) := by decide +kernel
theorem dX9_parksByLine_51 : decode cX9_parksByLine 51 = .ok (.aload_n 0, 1) := by decide +kernel
theorem dX9_parksByLine_52 : decode cX9_parksByLine 52 = .ok (.iload_n 2, 1) := by decide +kernel
theorem dX9_parksByLine_53 : decode cX9_parksByLine 53 = .ok (.iload_n 1, 1) := by decide +kernel
theorem dX9_parksByLine_54 : decode cX9_parksByLine 54 = .ok (.invokevirtual 236, 3) := by decide +kernel
theorem dX9_parksByLine_57 : decode cX9_parksByLine 57 = .ok (.invokevirtual 239, 3) := by decide +kernel
theorem dX9_parksByLine_60 : decode cX9_parksByLine 60 = .ok (.istore_n 3, 1) := by decide +kernel
theorem dX9_parksByLine_61 : decode cX9_parksByLine 61 = .ok (.aload_n 0, 1) := by decide +kernel
theorem dX9_parksByLine_62 : decode cX9_parksByLine 62 = .ok (.getfield 63, 3) := by decide +kernel
theorem dX9_parksByLine_65 : decode cX9_parksByLine 65 = .ok (.iload_n 3, 1) := by decide +kernel
theorem dX9_parksByLine_66 : decode cX9_parksByLine 66 = .ok (.iload_n 2, 1) := by decide +kernel
theorem dX9_parksByLine_67 : decode cX9_parksByLine 67 = .ok (.iastore, 1) := by decide +kernel
theorem dX9_parksByLine_68 : decode cX9_parksByLine 68 = .ok (.aload_n 0, 1) := by decide +kernel
theorem dX9_parksByLine_69 : decode cX9_parksByLine 69 = .ok (.getfield 66, 3) := by decide +kernel
theorem dX9_parksByLine_72 : decode cX9_parksByLine 72 = .ok (.iload_n 2, 1) := by decide +kernel
theorem dX9_parksByLine_73 : decode cX9_parksByLine 73 = .ok (.aload_n 0, 1) := by decide +kernel
theorem dX9_parksByLine_74 : decode cX9_parksByLine 74 = .ok (.iload_n 3, 1) := by decide +kernel
theorem dX9_parksByLine_75 : decode cX9_parksByLine 75 = .ok (.iload_n 1, 1) := by decide +kernel
theorem dX9_parksByLine_76 : decode cX9_parksByLine 76 = .ok (.isub, 1) := by decide +kernel
theorem dX9_parksByLine_77 : decode cX9_parksByLine 77 = .ok (.invokevirtual 218, 3) := by decide +kernel
theorem dX9_parksByLine_80 : decode cX9_parksByLine 80 = .ok (.iastore, 1) := by decide +kernel
theorem dX9_parksByLine_81 : decode cX9_parksByLine 81 = .ok (.iinc 2 1, 3) := by decide +kernel
theorem dX9_parksByLine_84 : decode cX9_parksByLine 84 = .ok (.goto (-44), 3) := by decide +kernel
theorem dX9_parksByLine_87 : decode cX9_parksByLine 87 = .ok (.return_, 1) := by decide +kernel
theorem dX9_placesAt_0 : decode cX9_placesAt 0 = .ok (.iload_n 1, 1) := by decide +kernel
theorem dX9_placesAt_1 : decode cX9_placesAt 1 = .ok (.istore_n 3, 1) := by decide +kernel
theorem dX9_placesAt_2 : decode cX9_placesAt 2 = .ok (.iload_n 3, 1) := by decide +kernel
theorem dX9_placesAt_3 : decode cX9_placesAt 3 = .ok (.iload_n 2, 1) := by decide +kernel
theorem dX9_placesAt_4 : decode cX9_placesAt 4 = .ok (.if_icmp .ge 17, 3) := by decide +kernel
theorem dX9_placesAt_7 : decode cX9_placesAt 7 = .ok (.aload_n 0, 1) := by decide +kernel
theorem dX9_placesAt_8 : decode cX9_placesAt 8 = .ok (.iload_n 3, 1) := by decide +kernel
theorem dX9_placesAt_9 : decode cX9_placesAt 9 = .ok (.iload_n 3, 1) := by decide +kernel
theorem dX9_placesAt_10 : decode cX9_placesAt 10 = .ok (.iconst 1, 1) := by decide +kernel
theorem dX9_placesAt_11 : decode cX9_placesAt 11 = .ok (.iadd, 1) := by decide +kernel
theorem dX9_placesAt_12 : decode cX9_placesAt 12 = .ok (.invokevirtual 409, 3) := by decide +kernel
theorem dX9_placesAt_15 : decode cX9_placesAt 15 = .ok (.iinc 3 1, 3) := by decide +kernel
theorem dX9_placesAt_18 : decode cX9_placesAt 18 = .ok (.goto (-16), 3) := by decide +kernel
theorem dX9_placesAt_21 : decode cX9_placesAt 21 = .ok (.iload_n 1, 1) := by decide +kernel
theorem dX9_placesAt_22 : decode cX9_placesAt 22 = .ok (.istore_n 3, 1) := by decide +kernel
theorem dX9_placesAt_23 : decode cX9_placesAt 23 = .ok (.iload_n 3, 1) := by decide +kernel
theorem dX9_placesAt_24 : decode cX9_placesAt 24 = .ok (.iload_n 2, 1) := by decide +kernel
theorem dX9_placesAt_25 : decode cX9_placesAt 25 = .ok (.if_icmp .le 17, 3) := by decide +kernel
theorem dX9_placesAt_28 : decode cX9_placesAt 28 = .ok (.aload_n 0, 1) := by decide +kernel
theorem dX9_placesAt_29 : decode cX9_placesAt 29 = .ok (.iload_n 3, 1) := by decide +kernel
theorem dX9_placesAt_30 : decode cX9_placesAt 30 = .ok (.iload_n 3, 1) := by decide +kernel
theorem dX9_placesAt_31 : decode cX9_placesAt 31 = .ok (.iconst 1, 1) := by decide +kernel
theorem dX9_placesAt_32 : decode cX9_placesAt 32 = .ok (.isub, 1) := by decide +kernel
theorem dX9_placesAt_33 : decode cX9_placesAt 33 = .ok (.invokevirtual 409, 3) := by decide +kernel
theorem dX9_placesAt_36 : decode cX9_placesAt 36 = .ok (.iinc 3 (-1), 3) := by decide +kernel
theorem dX9_placesAt_39 : decode cX9_placesAt 39 = .ok (.goto (-16), 3) := by decide +kernel
theorem dX9_placesAt_42 : decode cX9_placesAt 42 = .ok (.return_, 1) := by decide +kernel
theorem dX9_plain_0 : decode cX9_plain 0 = .ok (.iload_n 0, 1) := by decide +kernel
theorem dX9_plain_1 : decode cX9_plain 1 = .ok (.ifCond .ge 8, 3) := by decide +kernel
theorem dX9_plain_4 : decode cX9_plain 4 = .ok (.iload_n 0, 1) := by decide +kernel
theorem dX9_plain_5 : decode cX9_plain 5 = .ok (.ineg, 1) := by decide +kernel
theorem dX9_plain_6 : decode cX9_plain 6 = .ok (.goto 4, 3) := by decide +kernel
theorem dX9_plain_9 : decode cX9_plain 9 = .ok (.iload_n 0, 1) := by decide +kernel
theorem dX9_plain_10 : decode cX9_plain 10 = .ok (.ireturn, 1) := by decide +kernel
theorem dX9_prefer_0 : decode cX9_prefer 0 = .ok (.aload_n 0, 1) := by decide +kernel
theorem dX9_prefer_1 : decode cX9_prefer 1 = .ok (.aload_n 0, 1) := by decide +kernel
theorem dX9_prefer_2 : decode cX9_prefer 2 = .ok (.iload_n 1, 1) := by decide +kernel
theorem dX9_prefer_3 : decode cX9_prefer 3 = .ok (.invokevirtual 325, 3) := by decide +kernel
theorem dX9_prefer_6 : decode cX9_prefer 6 = .ok (.aload_n 0, 1) := by decide +kernel
theorem dX9_prefer_7 : decode cX9_prefer 7 = .ok (.iload_n 2, 1) := by decide +kernel
theorem dX9_prefer_8 : decode cX9_prefer 8 = .ok (.invokevirtual 341, 3) := by decide +kernel
theorem dX9_prefer_11 : decode cX9_prefer 11 = .ok (.invokevirtual 334, 3) := by decide +kernel
theorem dX9_prefer_14 : decode cX9_prefer 14 = .ok (.ifCond .ne 5, 3) := by decide +kernel
theorem dX9_prefer_17 : decode cX9_prefer 17 = .ok (.iconst 0, 1) := by decide +kernel
theorem dX9_prefer_18 : decode cX9_prefer 18 = .ok (.ireturn, 1) := by decide +kernel
theorem dX9_prefer_19 : decode cX9_prefer 19 = .ok (.aload_n 0, 1) := by decide +kernel
theorem dX9_prefer_20 : decode cX9_prefer 20 = .ok (.invokevirtual 271, 3) := by decide +kernel
theorem dX9_prefer_23 : decode cX9_prefer 23 = .ok (.aload_n 0, 1) := by decide +kernel
theorem dX9_prefer_24 : decode cX9_prefer 24 = .ok (.aload_n 0, 1) := by decide +kernel
theorem dX9_prefer_25 : decode cX9_prefer 25 = .ok (.iload_n 1, 1) := by decide +kernel
theorem dX9_prefer_26 : decode cX9_prefer 26 = .ok (.iload_n 2, 1) := by decide +kernel
theorem dX9_prefer_27 : decode cX9_prefer 27 = .ok (.invokevirtual 424, 3) := by decide +kernel
theorem dX9_prefer_30 : decode cX9_prefer 30 = .ok (.invokevirtual 427, 3) := by decide +kernel
theorem dX9_prefer_33 : decode cX9_prefer 33 = .ok (.ireturn, 1) := by decide +kernel
theorem dX9_preferred_0 : decode cX9_preferred 0 = .ok (.iconst 0, 1) := by decide +kernel
theorem dX9_preferred_1 : decode cX9_preferred 1 = .ok (.istore_n 1, 1) := by decide +kernel
theorem dX9_preferred_2 : decode cX9_preferred 2 = .ok (.iconst 0, 1) := by decide +kernel
theorem dX9_preferred_3 : decode cX9_preferred 3 = .ok (.istore_n 2, 1) := by decide +kernel
theorem dX9_preferred_4 : decode cX9_preferred 4 = .ok (.iload_n 2, 1) := by decide +kernel
theorem dX9_preferred_5 : decode cX9_preferred 5 = .ok (.aload_n 0, 1) := by decide +kernel
theorem dX9_preferred_6 : decode cX9_preferred 6 = .ok (.invokevirtual 214, 3) := by decide +kernel
theorem dX9_preferred_9 : decode cX9_preferred 9 = .ok (.if_icmp .ge 28, 3) := by decide +kernel
theorem dX9_preferred_12 : decode cX9_preferred 12 = .ok (.iload_n 1, 1) := by decide +kernel
theorem dX9_preferred_13 : decode cX9_preferred 13 = .ok (.aload_n 0, 1) := by decide +kernel
theorem dX9_preferred_14 : decode cX9_preferred 14 = .ok (.iload_n 2, 1) := by decide +kernel
theorem dX9_preferred_15 : decode cX9_preferred 15 = .ok (.invokevirtual 248, 3) := by decide +kernel
theorem dX9_preferred_18 : decode cX9_preferred 18 = .ok (.ifCond .le 7, 3) := by decide +kernel
theorem dX9_preferred_21 : decode cX9_preferred 21 = .ok (.iconst 1, 1) := by decide +kernel
theorem dX9_preferred_22 : decode cX9_preferred 22 = .ok (.goto 4, 3) := by decide +kernel
theorem dX9_preferred_25 : decode cX9_preferred 25 = .ok (.iconst 0, 1) := by decide +kernel
theorem dX9_preferred_26 : decode cX9_preferred 26 = .ok (.invokestatic 115, 3) := by decide +kernel
theorem dX9_preferred_29 : decode cX9_preferred 29 = .ok (.iadd, 1) := by decide +kernel
theorem dX9_preferred_30 : decode cX9_preferred 30 = .ok (.istore_n 1, 1) := by decide +kernel
theorem dX9_preferred_31 : decode cX9_preferred 31 = .ok (.iinc 2 1, 3) := by decide +kernel
theorem dX9_preferred_34 : decode cX9_preferred 34 = .ok (.goto (-30), 3) := by decide +kernel
theorem dX9_preferred_37 : decode cX9_preferred 37 = .ok (.iload_n 1, 1) := by decide +kernel
theorem dX9_preferred_38 : decode cX9_preferred 38 = .ok (.ireturn, 1) := by decide +kernel
theorem dX9_rankOf_0 : decode cX9_rankOf 0 = .ok (.iconst 0, 1) := by decide +kernel
theorem dX9_rankOf_1 : decode cX9_rankOf 1 = .ok (.istore_n 2, 1) := by decide +kernel
theorem dX9_rankOf_2 : decode cX9_rankOf 2 = .ok (.iconst 0, 1) := by decide +kernel
theorem dX9_rankOf_3 : decode cX9_rankOf 3 = .ok (.istore_n 3, 1) := by decide +kernel
theorem dX9_rankOf_4 : decode cX9_rankOf 4 = .ok (.iload_n 3, 1) := by decide +kernel
theorem dX9_rankOf_5 : decode cX9_rankOf 5 = .ok (.aload_n 0, 1) := by decide +kernel
theorem dX9_rankOf_6 : decode cX9_rankOf 6 = .ok (.getfield 20, 3) := by decide +kernel
theorem dX9_rankOf_9 : decode cX9_rankOf 9 = .ok (.iconst 0, 1) := by decide +kernel
theorem dX9_rankOf_10 : decode cX9_rankOf 10 = .ok (.iaload, 1) := by decide +kernel
theorem dX9_rankOf_11 : decode cX9_rankOf 11 = .ok (.if_icmp .ge 51, 3) := by decide +kernel
theorem dX9_rankOf_14 : decode cX9_rankOf 14 = .ok (.iload_n 2, 1) := by decide +kernel
theorem dX9_rankOf_15 : decode cX9_rankOf 15 = .ok (.aload_n 0, 1) := by decide +kernel
theorem dX9_rankOf_16 : decode cX9_rankOf 16 = .ok (.iload_n 3, 1) := by decide +kernel
theorem dX9_rankOf_17 : decode cX9_rankOf 17 = .ok (.invokevirtual 221, 3) := by decide +kernel
theorem dX9_rankOf_20 : decode cX9_rankOf 20 = .ok (.aload_n 0, 1) := by decide +kernel
theorem dX9_rankOf_21 : decode cX9_rankOf 21 = .ok (.iload_n 1, 1) := by decide +kernel
theorem dX9_rankOf_22 : decode cX9_rankOf 22 = .ok (.invokevirtual 221, 3) := by decide +kernel
theorem dX9_rankOf_25 : decode cX9_rankOf 25 = .ok (.if_icmp .lt 21, 3) := by decide +kernel
theorem dX9_rankOf_28 : decode cX9_rankOf 28 = .ok (.aload_n 0, 1) := by decide +kernel
theorem dX9_rankOf_29 : decode cX9_rankOf 29 = .ok (.iload_n 3, 1) := by decide +kernel
theorem dX9_rankOf_30 : decode cX9_rankOf 30 = .ok (.invokevirtual 221, 3) := by decide +kernel
theorem dX9_rankOf_33 : decode cX9_rankOf 33 = .ok (.aload_n 0, 1) := by decide +kernel
theorem dX9_rankOf_34 : decode cX9_rankOf 34 = .ok (.iload_n 1, 1) := by decide +kernel
theorem dX9_rankOf_35 : decode cX9_rankOf 35 = .ok (.invokevirtual 221, 3) := by decide +kernel
theorem dX9_rankOf_38 : decode cX9_rankOf 38 = .ok (.if_icmp .ne 12, 3) := by decide +kernel
theorem dX9_rankOf_41 : decode cX9_rankOf 41 = .ok (.iload_n 3, 1) := by decide +kernel
theorem dX9_rankOf_42 : decode cX9_rankOf 42 = .ok (.iload_n 1, 1) := by decide +kernel
theorem dX9_rankOf_43 : decode cX9_rankOf 43 = .ok (.if_icmp .ge 7, 3) := by decide +kernel
theorem dX9_rankOf_46 : decode cX9_rankOf 46 = .ok (.iconst 1, 1) := by decide +kernel
theorem dX9_rankOf_47 : decode cX9_rankOf 47 = .ok (.goto 4, 3) := by decide +kernel
theorem dX9_rankOf_50 : decode cX9_rankOf 50 = .ok (.iconst 0, 1) := by decide +kernel
theorem dX9_rankOf_51 : decode cX9_rankOf 51 = .ok (.invokestatic 115, 3) := by decide +kernel
theorem dX9_rankOf_54 : decode cX9_rankOf 54 = .ok (.iadd, 1) := by decide +kernel
theorem dX9_rankOf_55 : decode cX9_rankOf 55 = .ok (.istore_n 2, 1) := by decide +kernel
theorem dX9_rankOf_56 : decode cX9_rankOf 56 = .ok (.iinc 3 1, 3) := by decide +kernel
theorem dX9_rankOf_59 : decode cX9_rankOf 59 = .ok (.goto (-55), 3) := by decide +kernel
theorem dX9_rankOf_62 : decode cX9_rankOf 62 = .ok (.iload_n 2, 1) := by decide +kernel
theorem dX9_rankOf_63 : decode cX9_rankOf 63 = .ok (.ireturn, 1) := by decide +kernel
theorem dX9_ranked_0 : decode cX9_ranked 0 = .ok (.aload_n 0, 1) := by decide +kernel
theorem dX9_ranked_1 : decode cX9_ranked 1 = .ok (.iconst 0, 1) := by decide +kernel
theorem dX9_ranked_2 : decode cX9_ranked 2 = .ok (.putfield 112, 3) := by decide +kernel
theorem dX9_ranked_5 : decode cX9_ranked 5 = .ok (.iconst 0, 1) := by decide +kernel
theorem dX9_ranked_6 : decode cX9_ranked 6 = .ok (.istore_n 2, 1) := by decide +kernel
theorem dX9_ranked_7 : decode cX9_ranked 7 = .ok (.iload_n 2, 1) := by decide +kernel
theorem dX9_ranked_8 : decode cX9_ranked 8 = .ok (.aload_n 0, 1) := by decide +kernel
theorem dX9_ranked_9 : decode cX9_ranked 9 = .ok (.getfield 20, 3) := by decide +kernel
theorem dX9_ranked_12 : decode cX9_ranked 12 = .ok (.iconst 0, 1) := by decide +kernel
theorem dX9_ranked_13 : decode cX9_ranked 13 = .ok (.iaload, 1) := by decide +kernel
theorem dX9_ranked_14 : decode cX9_ranked 14 = .ok (.if_icmp .ge 20, 3) := by decide +kernel
theorem dX9_ranked_17 : decode cX9_ranked 17 = .ok (.aload_n 0, 1) := by decide +kernel
theorem dX9_ranked_18 : decode cX9_ranked 18 = .ok (.iload_n 2, 1) := by decide +kernel
theorem dX9_ranked_19 : decode cX9_ranked 19 = .ok (.invokevirtual 344, 3) := by decide +kernel
theorem dX9_ranked_22 : decode cX9_ranked 22 = .ok (.iload_n 1, 1) := by decide +kernel
theorem dX9_ranked_23 : decode cX9_ranked 23 = .ok (.if_icmp .ne 5, 3) := by decide +kernel
theorem dX9_ranked_26 : decode cX9_ranked 26 = .ok (.iload_n 2, 1) := by decide +kernel
theorem dX9_ranked_27 : decode cX9_ranked 27 = .ok (.ireturn, 1) := by decide +kernel
theorem dX9_ranked_28 : decode cX9_ranked 28 = .ok (.iinc 2 1, 3) := by decide +kernel
theorem dX9_ranked_31 : decode cX9_ranked 31 = .ok (.goto (-24), 3) := by decide +kernel
theorem dX9_ranked_34 : decode cX9_ranked 34 = .ok (.iconst (-1), 1) := by decide +kernel
theorem dX9_ranked_35 : decode cX9_ranked 35 = .ok (.ireturn, 1) := by decide +kernel
theorem dX9_readText_0 : decode cX9_readText 0 = .ok (.aload_n 0, 1) := by decide +kernel
theorem dX9_readText_1 : decode cX9_readText 1 = .ok (.invokevirtual 271, 3) := by decide +kernel
theorem dX9_readText_4 : decode cX9_readText 4 = .ok (.aload_n 0, 1) := by decide +kernel
theorem dX9_readText_5 : decode cX9_readText 5 = .ok (.invokevirtual 274, 3) := by decide +kernel
theorem dX9_readText_8 : decode cX9_readText 8 = .ok (.aload_n 0, 1) := by decide +kernel
theorem dX9_readText_9 : decode cX9_readText 9 = .ok (.invokevirtual 109, 3) := by decide +kernel
theorem dX9_readText_12 : decode cX9_readText 12 = .ok (.aload_n 0, 1) := by decide +kernel
theorem dX9_readText_13 : decode cX9_readText 13 = .ok (.ldc2_w 277, 3) := by decide +kernel
theorem dX9_readText_16 : decode cX9_readText 16 = .ok (.invokevirtual 279, 3) := by decide +kernel
theorem dX9_readText_19 : decode cX9_readText 19 = .ok (.aload_n 0, 1) := by decide +kernel
theorem dX9_readText_20 : decode cX9_readText 20 = .ok (.iconst 0, 1) := by decide +kernel
theorem dX9_readText_21 : decode cX9_readText 21 = .ok (.bipush 11, 2) := by decide +kernel
theorem dX9_readText_23 : decode cX9_readText 23 = .ok (.invokevirtual 268, 3) := by decide +kernel
theorem dX9_readText_26 : decode cX9_readText 26 = .ok (.istore_n 1, 1) := by decide +kernel
theorem dX9_readText_27 : decode cX9_readText 27 = .ok (.aload_n 0, 1) := by decide +kernel
theorem dX9_readText_28 : decode cX9_readText 28 = .ok (.bipush 59, 2) := by decide +kernel
theorem dX9_readText_30 : decode cX9_readText 30 = .ok (.invokevirtual 283, 3) := by decide +kernel
theorem dX9_readText_33 : decode cX9_readText 33 = .ok (.aload_n 0, 1) := by decide +kernel
theorem dX9_readText_34 : decode cX9_readText 34 = .ok (.ldc2_w 286, 3) := by decide +kernel
theorem dX9_readText_37 : decode cX9_readText 37 = .ok (.invokevirtual 180, 3) := by decide +kernel
theorem dX9_readText_40 : decode cX9_readText 40 = .ok (.ifCond .eq 27, 3) := by decide +kernel
theorem dX9_readText_43 : decode cX9_readText 43 = .ok (.aload_n 0, 1) := by decide +kernel
theorem dX9_readText_44 : decode cX9_readText 44 = .ok (.invokevirtual 177, 3) := by decide +kernel
theorem dX9_readText_47 : decode cX9_readText 47 = .ok (.aload_n 0, 1) := by decide +kernel
theorem dX9_readText_48 : decode cX9_readText 48 = .ok (.iconst 0, 1) := by decide +kernel
theorem dX9_readText_49 : decode cX9_readText 49 = .ok (.iconst 5, 1) := by decide +kernel
theorem dX9_readText_50 : decode cX9_readText 50 = .ok (.invokevirtual 268, 3) := by decide +kernel
theorem dX9_readText_53 : decode cX9_readText 53 = .ok (.istore_n 2, 1) := by decide +kernel
theorem dX9_readText_54 : decode cX9_readText 54 = .ok (.aload_n 0, 1) := by decide +kernel
theorem dX9_readText_55 : decode cX9_readText 55 = .ok (.getfield 20, 3) := by decide +kernel
theorem dX9_readText_58 : decode cX9_readText 58 = .ok (.iconst 1, 1) := by decide +kernel
theorem dX9_readText_59 : decode cX9_readText 59 = .ok (.iload_n 2, 1) := by decide +kernel
theorem dX9_readText_60 : decode cX9_readText 60 = .ok (.iastore, 1) := by decide +kernel
theorem dX9_readText_61 : decode cX9_readText 61 = .ok (.aload_n 0, 1) := by decide +kernel
theorem dX9_readText_62 : decode cX9_readText 62 = .ok (.bipush 59, 2) := by decide +kernel
theorem dX9_readText_64 : decode cX9_readText 64 = .ok (.invokevirtual 283, 3) := by decide +kernel
theorem dX9_readText_67 : decode cX9_readText 67 = .ok (.aload_n 0, 1) := by decide +kernel
theorem dX9_readText_68 : decode cX9_readText 68 = .ok (.invokevirtual 167, 3) := by decide +kernel
theorem dX9_readText_71 : decode cX9_readText 71 = .ok (.ifCond .eq 24, 3) := by decide +kernel
theorem dX9_readText_74 : decode cX9_readText 74 = .ok (.aload_n 0, 1) := by decide +kernel
theorem dX9_readText_75 : decode cX9_readText 75 = .ok (.getfield 154, 3) := by decide +kernel
theorem dX9_readText_78 : decode cX9_readText 78 = .ok (.ifCond .eq 17, 3) := by decide +kernel
theorem dX9_readText_81 : decode cX9_readText 81 = .ok (.aload_n 0, 1) := by decide +kernel
theorem dX9_readText_82 : decode cX9_readText 82 = .ok (.iload_n 1, 1) := by decide +kernel
theorem dX9_readText_83 : decode cX9_readText 83 = .ok (.invokevirtual 288, 3) := by decide +kernel
theorem dX9_readText_86 : decode cX9_readText 86 = .ok (.aload_n 0, 1) := by decide +kernel
theorem dX9_readText_87 : decode cX9_readText 87 = .ok (.bipush 59, 2) := by decide +kernel
theorem dX9_readText_89 : decode cX9_readText 89 = .ok (.invokevirtual 283, 3) := by decide +kernel
theorem dX9_readText_92 : decode cX9_readText 92 = .ok (.goto (-25), 3) := by decide +kernel
theorem dX9_readText_95 : decode cX9_readText 95 = .ok (.aload_n 0, 1) := by decide +kernel
theorem dX9_readText_96 : decode cX9_readText 96 = .ok (.invokevirtual 167, 3) := by decide +kernel
theorem dX9_readText_99 : decode cX9_readText 99 = .ok (.ifCond .eq 18, 3) := by decide +kernel
theorem dX9_readText_102 : decode cX9_readText 102 = .ok (.aload_n 0, 1) := by decide +kernel
theorem dX9_readText_103 : decode cX9_readText 103 = .ok (.getfield 20, 3) := by decide +kernel
theorem dX9_readText_106 : decode cX9_readText 106 = .ok (.iconst 0, 1) := by decide +kernel
theorem dX9_readText_107 : decode cX9_readText 107 = .ok (.iaload, 1) := by decide +kernel
theorem dX9_readText_108 : decode cX9_readText 108 = .ok (.iload_n 1, 1) := by decide +kernel
theorem dX9_readText_109 : decode cX9_readText 109 = .ok (.if_icmp .ge 8, 3) := by decide +kernel
theorem dX9_readText_112 : decode cX9_readText 112 = .ok (.aload_n 0, 1) := by decide +kernel
theorem dX9_readText_113 : decode cX9_readText 113 = .ok (.iconst 1, 1) := by decide +kernel
theorem dX9_readText_114 : decode cX9_readText 114 = .ok (.invokevirtual 174, 3) := by decide +kernel
theorem dX9_readText_117 : decode cX9_readText 117 = .ok (.aload_n 0, 1) := by decide +kernel
theorem dX9_readText_118 : decode cX9_readText 118 = .ok (.invokevirtual 291, 3) := by decide +kernel
theorem dX9_readText_121 : decode cX9_readText 121 = .ok (.ifCond .ne 9, 3) := by decide +kernel
theorem dX9_readText_124 : decode cX9_readText 124 = .ok (.aload_n 0, 1) := by decide +kernel
theorem dX9_readText_125 : decode cX9_readText 125 = .ok (.invokevirtual 294, 3) := by decide +kernel
theorem dX9_readText_128 : decode cX9_readText 128 = .ok (.iconst 0, 1) := by decide +kernel
theorem dX9_readText_129 : decode cX9_readText 129 = .ok (.ireturn, 1) := by decide +kernel
theorem dX9_readText_130 : decode cX9_readText 130 = .ok (.aload_n 0, 1) := by decide +kernel
theorem dX9_readText_131 : decode cX9_readText 131 = .ok (.iconst 0, 1) := by decide +kernel
theorem dX9_readText_132 : decode cX9_readText 132 = .ok (.putfield 199, 3) := by decide +kernel
theorem dX9_readText_135 : decode cX9_readText 135 = .ok (.aload_n 0, 1) := by decide +kernel
theorem dX9_readText_136 : decode cX9_readText 136 = .ok (.getfield 20, 3) := by decide +kernel
theorem dX9_readText_139 : decode cX9_readText 139 = .ok (.iconst 0, 1) := by decide +kernel
theorem dX9_readText_140 : decode cX9_readText 140 = .ok (.iaload, 1) := by decide +kernel
theorem dX9_readText_141 : decode cX9_readText 141 = .ok (.ireturn, 1) := by decide +kernel
theorem dX9_readsRest_0 : decode cX9_readsRest 0 = .ok (.iload_n 2, 1) := by decide +kernel
theorem dX9_readsRest_1 : decode cX9_readsRest 1 = .ok (.i2l, 1) := by decide +kernel
theorem dX9_readsRest_2 : decode cX9_readsRest 2 = .ok (.lconst 0, 1) := by decide +kernel
theorem dX9_readsRest_3 : decode cX9_readsRest 3 = .ok (.ldc2_w 500, 3) := by decide +kernel
theorem dX9_readsRest_6 : decode cX9_readsRest 6 = .ok (.invokestatic 130, 3) := by decide +kernel
theorem dX9_readsRest_9 : decode cX9_readsRest 9 = .ok (.ifCond .eq 13, 3) := by decide +kernel
theorem dX9_readsRest_12 : decode cX9_readsRest 12 = .ok (.aload_n 0, 1) := by decide +kernel
theorem dX9_readsRest_13 : decode cX9_readsRest 13 = .ok (.getfield 103, 3) := by decide +kernel
theorem dX9_readsRest_16 : decode cX9_readsRest 16 = .ok (.iload_n 1, 1) := by decide +kernel
theorem dX9_readsRest_17 : decode cX9_readsRest 17 = .ok (.aload_n 0, 1) := by decide +kernel
theorem dX9_readsRest_18 : decode cX9_readsRest 18 = .ok (.invokevirtual 264, 3) := by decide +kernel
theorem dX9_readsRest_21 : decode cX9_readsRest 21 = .ok (.lastore, 1) := by decide +kernel
theorem dX9_readsRest_22 : decode cX9_readsRest 22 = .ok (.iload_n 2, 1) := by decide +kernel
theorem dX9_readsRest_23 : decode cX9_readsRest 23 = .ok (.ifCond .eq 18, 3) := by decide +kernel
theorem dX9_readsRest_26 : decode cX9_readsRest 26 = .ok (.iload_n 2, 1) := by decide +kernel
theorem dX9_readsRest_27 : decode cX9_readsRest 27 = .ok (.iconst 1, 1) := by decide +kernel
theorem dX9_readsRest_28 : decode cX9_readsRest 28 = .ok (.if_icmp .eq 13, 3) := by decide +kernel
theorem dX9_readsRest_31 : decode cX9_readsRest 31 = .ok (.iload_n 2, 1) := by decide +kernel
theorem dX9_readsRest_32 : decode cX9_readsRest 32 = .ok (.iconst 4, 1) := by decide +kernel
theorem dX9_readsRest_33 : decode cX9_readsRest 33 = .ok (.if_icmp .eq 8, 3) := by decide +kernel
theorem dX9_readsRest_36 : decode cX9_readsRest 36 = .ok (.iload_n 2, 1) := by decide +kernel
theorem dX9_readsRest_37 : decode cX9_readsRest 37 = .ok (.iconst 5, 1) := by decide +kernel
theorem dX9_readsRest_38 : decode cX9_readsRest 38 = .ok (.if_icmp .ne 17, 3) := by decide +kernel
theorem dX9_readsRest_41 : decode cX9_readsRest 41 = .ok (.aload_n 0, 1) := by decide +kernel
theorem dX9_readsRest_42 : decode cX9_readsRest 42 = .ok (.getfield 94, 3) := by decide +kernel
theorem dX9_readsRest_45 : decode cX9_readsRest 45 = .ok (.iload_n 1, 1) := by decide +kernel
theorem dX9_readsRest_46 : decode cX9_readsRest 46 = .ok (.aload_n 0, 1) := by decide +kernel
theorem dX9_readsRest_47 : decode cX9_readsRest 47 = .ok (.iconst 0, 1) := by decide +kernel
theorem dX9_readsRest_48 : decode cX9_readsRest 48 = .ok (.sipush 999, 3) := by decide +kernel
theorem dX9_readsRest_51 : decode cX9_readsRest 51 = .ok (.invokevirtual 268, 3) := by decide +kernel
theorem dX9_readsRest_54 : decode cX9_readsRest 54 = .ok (.iastore, 1) := by decide +kernel
theorem dX9_readsRest_55 : decode cX9_readsRest 55 = .ok (.iload_n 2, 1) := by decide +kernel
theorem dX9_readsRest_56 : decode cX9_readsRest 56 = .ok (.bipush 8, 2) := by decide +kernel
theorem dX9_readsRest_58 : decode cX9_readsRest 58 = .ok (.if_icmp .eq 4, 3) := by decide +kernel
theorem dX9_readsRest_61 : decode cX9_readsRest 61 = .ok (.return_, 1) := by decide +kernel
theorem dX9_readsRest_62 : decode cX9_readsRest 62 = .ok (.aload_n 0, 1) := by decide +kernel
theorem dX9_readsRest_63 : decode cX9_readsRest 63 = .ok (.getfield 94, 3) := by decide +kernel
theorem dX9_readsRest_66 : decode cX9_readsRest 66 = .ok (.iload_n 1, 1) := by decide +kernel
theorem dX9_readsRest_67 : decode cX9_readsRest 67 = .ok (.aload_n 0, 1) := by decide +kernel
theorem dX9_readsRest_68 : decode cX9_readsRest 68 = .ok (.iconst 1, 1) := by decide +kernel
theorem dX9_readsRest_69 : decode cX9_readsRest 69 = .ok (.bipush 20, 2) := by decide +kernel
theorem dX9_readsRest_71 : decode cX9_readsRest 71 = .ok (.invokevirtual 268, 3) := by decide +kernel
theorem dX9_readsRest_74 : decode cX9_readsRest 74 = .ok (.iastore, 1) := by decide +kernel
theorem dX9_readsRest_75 : decode cX9_readsRest 75 = .ok (.aload_n 0, 1) := by decide +kernel
theorem dX9_readsRest_76 : decode cX9_readsRest 76 = .ok (.bipush 40, 2) := by decide +kernel
theorem dX9_readsRest_78 : decode cX9_readsRest 78 = .ok (.invokevirtual 283, 3) := by decide +kernel
theorem dX9_readsRest_81 : decode cX9_readsRest 81 = .ok (.return_, 1) := by decide +kernel
theorem dX9_refusal_0 : decode cX9_refusal 0 = .ok (.aload_n 0, 1) := by decide +kernel
theorem dX9_refusal_1 : decode cX9_refusal 1 = .ok (.iconst 0, 1) := by decide +kernel
theorem dX9_refusal_2 : decode cX9_refusal 2 = .ok (.putfield 112, 3) := by decide +kernel
theorem dX9_refusal_5 : decode cX9_refusal 5 = .ok (.aload_n 0, 1) := by decide +kernel
theorem dX9_refusal_6 : decode cX9_refusal 6 = .ok (.getfield 209, 3) := by decide +kernel
theorem dX9_refusal_9 : decode cX9_refusal 9 = .ok (.ireturn, 1) := by decide +kernel
theorem dX9_refused_0 : decode cX9_refused 0 = .ok (.iload_n 1, 1) := by decide +kernel
theorem dX9_refused_1 : decode cX9_refused 1 = .ok (.ifCond .ne 5, 3) := by decide +kernel
theorem dX9_refused_4 : decode cX9_refused 4 = .ok (.iconst 0, 1) := by decide +kernel
theorem dX9_refused_5 : decode cX9_refused 5 = .ok (.ireturn, 1) := by decide +kernel
theorem dX9_refused_6 : decode cX9_refused 6 = .ok (.aload_n 0, 1) := by decide +kernel
theorem dX9_refused_7 : decode cX9_refused 7 = .ok (.iload_n 1, 1) := by decide +kernel
theorem dX9_refused_8 : decode cX9_refused 8 = .ok (.putfield 209, 3) := by decide +kernel
theorem dX9_refused_11 : decode cX9_refused 11 = .ok (.aload_n 0, 1) := by decide +kernel
theorem dX9_refused_12 : decode cX9_refused 12 = .ok (.getfield 51, 3) := by decide +kernel
theorem dX9_refused_15 : decode cX9_refused 15 = .ok (.iconst 1, 1) := by decide +kernel
theorem dX9_refused_16 : decode cX9_refused 16 = .ok (.dup2, 1) := by decide +kernel
theorem dX9_refused_17 : decode cX9_refused 17 = .ok (.iaload, 1) := by decide +kernel
theorem dX9_refused_18 : decode cX9_refused 18 = .ok (.iconst 1, 1) := by decide +kernel
theorem dX9_refused_19 : decode cX9_refused 19 = .ok (.iadd, 1) := by decide +kernel
theorem dX9_refused_20 : decode cX9_refused 20 = .ok (.iastore, 1) := by decide +kernel
theorem dX9_refused_21 : decode cX9_refused 21 = .ok (.iconst 1, 1) := by decide +kernel
theorem dX9_refused_22 : decode cX9_refused 22 = .ok (.ireturn, 1) := by decide +kernel
theorem dX9_report_0 : decode cX9_report 0 = .ok (.aload_n 0, 1) := by decide +kernel
theorem dX9_report_1 : decode cX9_report 1 = .ok (.iconst 0, 1) := by decide +kernel
theorem dX9_report_2 : decode cX9_report 2 = .ok (.putfield 112, 3) := by decide +kernel
theorem dX9_report_5 : decode cX9_report 5 = .ok (.aload_n 0, 1) := by decide +kernel
theorem dX9_report_6 : decode cX9_report 6 = .ok (.iconst 0, 1) := by decide +kernel
theorem dX9_report_7 : decode cX9_report 7 = .ok (.putfield 532, 3) := by decide +kernel
theorem dX9_report_10 : decode cX9_report 10 = .ok (.aload_n 0, 1) := by decide +kernel
theorem dX9_report_11 : decode cX9_report 11 = .ok (.iconst 1, 1) := by decide +kernel
theorem dX9_report_12 : decode cX9_report 12 = .ok (.putfield 541, 3) := by decide +kernel
theorem dX9_report_15 : decode cX9_report 15 = .ok (.aload_n 0, 1) := by decide +kernel
theorem dX9_report_16 : decode cX9_report 16 = .ok (.aload_n 0, 1) := by decide +kernel
theorem dX9_report_17 : decode cX9_report 17 = .ok (.getfield 20, 3) := by decide +kernel
theorem dX9_report_20 : decode cX9_report 20 = .ok (.iconst 0, 1) := by decide +kernel
theorem dX9_report_21 : decode cX9_report 21 = .ok (.iaload, 1) := by decide +kernel
theorem dX9_report_22 : decode cX9_report 22 = .ok (.invokevirtual 230, 3) := by decide +kernel
theorem dX9_report_25 : decode cX9_report 25 = .ok (.iconst 0, 1) := by decide +kernel
theorem dX9_report_26 : decode cX9_report 26 = .ok (.istore_n 1, 1) := by decide +kernel
theorem dX9_report_27 : decode cX9_report 27 = .ok (.iload_n 1, 1) := by decide +kernel
theorem dX9_report_28 : decode cX9_report 28 = .ok (.aload_n 0, 1) := by decide +kernel
theorem dX9_report_29 : decode cX9_report 29 = .ok (.invokevirtual 214, 3) := by decide +kernel
theorem dX9_report_32 : decode cX9_report 32 = .ok (.if_icmp .ge 24, 3) := by decide +kernel
theorem dX9_report_35 : decode cX9_report 35 = .ok (.iload_n 1, 1) := by decide +kernel
theorem dX9_report_36 : decode cX9_report 36 = .ok (.ifCond .le 9, 3) := by decide +kernel
theorem dX9_report_39 : decode cX9_report 39 = .ok (.aload_n 0, 1) := by decide +kernel
theorem dX9_report_40 : decode cX9_report 40 = .ok (.bipush 32, 2) := by decide +kernel
theorem dX9_report_42 : decode cX9_report 42 = .ok (.invokevirtual 535, 3) := by decide +kernel
theorem dX9_report_45 : decode cX9_report 45 = .ok (.aload_n 0, 1) := by decide +kernel
theorem dX9_report_46 : decode cX9_report 46 = .ok (.iload_n 1, 1) := by decide +kernel
theorem dX9_report_47 : decode cX9_report 47 = .ok (.invokevirtual 544, 3) := by decide +kernel
theorem dX9_report_50 : decode cX9_report 50 = .ok (.iinc 1 1, 3) := by decide +kernel
theorem dX9_report_53 : decode cX9_report 53 = .ok (.goto (-26), 3) := by decide +kernel
theorem dX9_report_56 : decode cX9_report 56 = .ok (.aload_n 0, 1) := by decide +kernel
theorem dX9_report_57 : decode cX9_report 57 = .ok (.bipush 10, 2) := by decide +kernel
theorem dX9_report_59 : decode cX9_report 59 = .ok (.invokevirtual 535, 3) := by decide +kernel
theorem dX9_report_62 : decode cX9_report 62 = .ok (.aload_n 0, 1) := by decide +kernel
theorem dX9_report_63 : decode cX9_report 63 = .ok (.getfield 532, 3) := by decide +kernel
theorem dX9_report_66 : decode cX9_report 66 = .ok (.ireturn, 1) := by decide +kernel
theorem dX9_reportByte_0 : decode cX9_reportByte 0 = .ok (.aload_n 0, 1) := by decide +kernel
theorem dX9_reportByte_1 : decode cX9_reportByte 1 = .ok (.aload_n 0, 1) := by decide +kernel
theorem dX9_reportByte_2 : decode cX9_reportByte 2 = .ok (.getfield 541, 3) := by decide +kernel
theorem dX9_reportByte_5 : decode cX9_reportByte 5 = .ok (.ifCond .eq 23, 3) := by decide +kernel
theorem dX9_reportByte_8 : decode cX9_reportByte 8 = .ok (.iload_n 1, 1) := by decide +kernel
theorem dX9_reportByte_9 : decode cX9_reportByte 9 = .ok (.i2l, 1) := by decide +kernel
theorem dX9_reportByte_10 : decode cX9_reportByte 10 = .ok (.lconst 0, 1) := by decide +kernel
theorem dX9_reportByte_11 : decode cX9_reportByte 11 = .ok (.aload_n 0, 1) := by decide +kernel
theorem dX9_reportByte_12 : decode cX9_reportByte 12 = .ok (.getfield 532, 3) := by decide +kernel
theorem dX9_reportByte_15 : decode cX9_reportByte 15 = .ok (.iconst 1, 1) := by decide +kernel
theorem dX9_reportByte_16 : decode cX9_reportByte 16 = .ok (.isub, 1) := by decide +kernel
theorem dX9_reportByte_17 : decode cX9_reportByte 17 = .ok (.i2l, 1) := by decide +kernel
theorem dX9_reportByte_18 : decode cX9_reportByte 18 = .ok (.invokestatic 130, 3) := by decide +kernel
theorem dX9_reportByte_21 : decode cX9_reportByte 21 = .ok (.ifCond .eq 7, 3) := by decide +kernel
theorem dX9_reportByte_24 : decode cX9_reportByte 24 = .ok (.iconst 1, 1) := by decide +kernel
theorem dX9_reportByte_25 : decode cX9_reportByte 25 = .ok (.goto 4, 3) := by decide +kernel
theorem dX9_reportByte_28 : decode cX9_reportByte 28 = .ok (.iconst 0, 1) := by decide +kernel
theorem dX9_reportByte_29 : decode cX9_reportByte 29 = .ok (.invokevirtual 122, 3) := by decide +kernel
theorem dX9_reportByte_32 : decode cX9_reportByte 32 = .ok (.ifCond .eq 12, 3) := by decide +kernel
theorem dX9_reportByte_35 : decode cX9_reportByte 35 = .ok (.aload_n 0, 1) := by decide +kernel
theorem dX9_reportByte_36 : decode cX9_reportByte 36 = .ok (.getfield 106, 3) := by decide +kernel
theorem dX9_reportByte_39 : decode cX9_reportByte 39 = .ok (.iload_n 1, 1) := by decide +kernel
theorem dX9_reportByte_40 : decode cX9_reportByte 40 = .ok (.iaload, 1) := by decide +kernel
theorem dX9_reportByte_41 : decode cX9_reportByte 41 = .ok (.goto 4, 3) := by decide +kernel
theorem dX9_reportByte_44 : decode cX9_reportByte 44 = .ok (.iconst 0, 1) := by decide +kernel
theorem dX9_reportByte_45 : decode cX9_reportByte 45 = .ok (.ireturn, 1) := by decide +kernel
theorem dX9_restore_0 : decode cX9_restore 0 = .ok (.aload_n 0, 1) := by decide +kernel
theorem dX9_restore_1 : decode cX9_restore 1 = .ok (.aload_n 0, 1) := by decide +kernel
theorem dX9_restore_2 : decode cX9_restore 2 = .ok (.getfield 205, 3) := by decide +kernel
theorem dX9_restore_5 : decode cX9_restore 5 = .ok (.invokevirtual 122, 3) := by decide +kernel
theorem dX9_restore_8 : decode cX9_restore 8 = .ok (.ifCond .ne 5, 3) := by decide +kernel
theorem dX9_restore_11 : decode cX9_restore 11 = .ok (.iconst 0, 1) := by decide +kernel
theorem dX9_restore_12 : decode cX9_restore 12 = .ok (.ireturn, 1) := by decide +kernel
theorem dX9_restore_13 : decode cX9_restore 13 = .ok (.aload_n 0, 1) := by decide +kernel
theorem dX9_restore_14 : decode cX9_restore 14 = .ok (.getfield 23, 3) := by decide +kernel
theorem dX9_restore_17 : decode cX9_restore 17 = .ok (.iconst 0, 1) := by decide +kernel
theorem dX9_restore_18 : decode cX9_restore 18 = .ok (.aload_n 0, 1) := by decide +kernel
theorem dX9_restore_19 : decode cX9_restore 19 = .ok (.getfield 20, 3) := by decide +kernel
theorem dX9_restore_22 : decode cX9_restore 22 = .ok (.iconst 0, 1) := by decide +kernel
theorem dX9_restore_23 : decode cX9_restore 23 = .ok (.invokestatic 191, 3) := by decide +kernel
theorem dX9_restore_26 : decode cX9_restore 26 = .ok (.aload_n 0, 1) := by decide +kernel
theorem dX9_restore_27 : decode cX9_restore 27 = .ok (.getfield 39, 3) := by decide +kernel
theorem dX9_restore_30 : decode cX9_restore 30 = .ok (.iconst 0, 1) := by decide +kernel
theorem dX9_restore_31 : decode cX9_restore 31 = .ok (.aload_n 0, 1) := by decide +kernel
theorem dX9_restore_32 : decode cX9_restore 32 = .ok (.getfield 35, 3) := by decide +kernel
theorem dX9_restore_35 : decode cX9_restore 35 = .ok (.iconst 0, 1) := by decide +kernel
theorem dX9_restore_36 : decode cX9_restore 36 = .ok (.invokestatic 195, 3) := by decide +kernel
theorem dX9_restore_39 : decode cX9_restore 39 = .ok (.aload_n 0, 1) := by decide +kernel
theorem dX9_restore_40 : decode cX9_restore 40 = .ok (.iconst 0, 1) := by decide +kernel
theorem dX9_restore_41 : decode cX9_restore 41 = .ok (.putfield 199, 3) := by decide +kernel
theorem dX9_restore_44 : decode cX9_restore 44 = .ok (.aload_n 0, 1) := by decide +kernel
theorem dX9_restore_45 : decode cX9_restore 45 = .ok (.getfield 20, 3) := by decide +kernel
theorem dX9_restore_48 : decode cX9_restore 48 = .ok (.iconst 0, 1) := by decide +kernel
theorem dX9_restore_49 : decode cX9_restore 49 = .ok (.iaload, 1) := by decide +kernel
theorem dX9_restore_50 : decode cX9_restore 50 = .ok (.ireturn, 1) := by decide +kernel
theorem dX9_reverse_0 : decode cX9_reverse 0 = .ok (.aload_n 0, 1) := by decide +kernel
theorem dX9_reverse_1 : decode cX9_reverse 1 = .ok (.iconst 0, 1) := by decide +kernel
theorem dX9_reverse_2 : decode cX9_reverse 2 = .ok (.putfield 112, 3) := by decide +kernel
theorem dX9_reverse_5 : decode cX9_reverse 5 = .ok (.aload_n 0, 1) := by decide +kernel
theorem dX9_reverse_6 : decode cX9_reverse 6 = .ok (.invokevirtual 271, 3) := by decide +kernel
theorem dX9_reverse_9 : decode cX9_reverse 9 = .ok (.aload_n 0, 1) := by decide +kernel
theorem dX9_reverse_10 : decode cX9_reverse 10 = .ok (.aload_n 0, 1) := by decide +kernel
theorem dX9_reverse_11 : decode cX9_reverse 11 = .ok (.invokevirtual 481, 3) := by decide +kernel
theorem dX9_reverse_14 : decode cX9_reverse 14 = .ok (.invokevirtual 427, 3) := by decide +kernel
theorem dX9_reverse_17 : decode cX9_reverse 17 = .ok (.ireturn, 1) := by decide +kernel
theorem dX9_reverses_0 : decode cX9_reverses 0 = .ok (.iconst 0, 1) := by decide +kernel
theorem dX9_reverses_1 : decode cX9_reverses 1 = .ok (.istore_n 1, 1) := by decide +kernel
theorem dX9_reverses_2 : decode cX9_reverses 2 = .ok (.iload_n 1, 1) := by decide +kernel
theorem dX9_reverses_3 : decode cX9_reverses 3 = .ok (.aload_n 0, 1) := by decide +kernel
theorem dX9_reverses_4 : decode cX9_reverses 4 = .ok (.getfield 20, 3) := by decide +kernel
theorem dX9_reverses_7 : decode cX9_reverses 7 = .ok (.iconst 0, 1) := by decide +kernel
theorem dX9_reverses_8 : decode cX9_reverses 8 = .ok (.iaload, 1) := by decide +kernel
theorem dX9_reverses_9 : decode cX9_reverses 9 = .ok (.iconst 1, 1) := by decide +kernel
theorem dX9_reverses_10 : decode cX9_reverses 10 = .ok (.isub, 1) := by decide +kernel
theorem dX9_reverses_11 : decode cX9_reverses 11 = .ok (.iload_n 1, 1) := by decide +kernel
theorem dX9_reverses_12 : decode cX9_reverses 12 = .ok (.isub, 1) := by decide +kernel
theorem dX9_reverses_13 : decode cX9_reverses 13 = .ok (.if_icmp .ge 24, 3) := by decide +kernel
theorem dX9_reverses_16 : decode cX9_reverses 16 = .ok (.aload_n 0, 1) := by decide +kernel
theorem dX9_reverses_17 : decode cX9_reverses 17 = .ok (.iload_n 1, 1) := by decide +kernel
theorem dX9_reverses_18 : decode cX9_reverses 18 = .ok (.aload_n 0, 1) := by decide +kernel
theorem dX9_reverses_19 : decode cX9_reverses 19 = .ok (.getfield 20, 3) := by decide +kernel
theorem dX9_reverses_22 : decode cX9_reverses 22 = .ok (.iconst 0, 1) := by decide +kernel
theorem dX9_reverses_23 : decode cX9_reverses 23 = .ok (.iaload, 1) := by decide +kernel
theorem dX9_reverses_24 : decode cX9_reverses 24 = .ok (.iconst 1, 1) := by decide +kernel
theorem dX9_reverses_25 : decode cX9_reverses 25 = .ok (.isub, 1) := by decide +kernel
theorem dX9_reverses_26 : decode cX9_reverses 26 = .ok (.iload_n 1, 1) := by decide +kernel
theorem dX9_reverses_27 : decode cX9_reverses 27 = .ok (.isub, 1) := by decide +kernel
theorem dX9_reverses_28 : decode cX9_reverses 28 = .ok (.invokevirtual 409, 3) := by decide +kernel
theorem dX9_reverses_31 : decode cX9_reverses 31 = .ok (.iinc 1 1, 3) := by decide +kernel
theorem dX9_reverses_34 : decode cX9_reverses 34 = .ok (.goto (-32), 3) := by decide +kernel
theorem dX9_reverses_37 : decode cX9_reverses 37 = .ok (.aload_n 0, 1) := by decide +kernel
theorem dX9_reverses_38 : decode cX9_reverses 38 = .ok (.aload_n 0, 1) := by decide +kernel
theorem dX9_reverses_39 : decode cX9_reverses 39 = .ok (.iconst 4, 1) := by decide +kernel
theorem dX9_reverses_40 : decode cX9_reverses 40 = .ok (.invokevirtual 317, 3) := by decide +kernel
theorem dX9_reverses_43 : decode cX9_reverses 43 = .ok (.invokevirtual 421, 3) := by decide +kernel
theorem dX9_reverses_46 : decode cX9_reverses 46 = .ok (.ireturn, 1) := by decide +kernel
theorem dX9_round_0 : decode cX9_round 0 = .ok (.iload_n 1, 1) := by decide +kernel
theorem dX9_round_1 : decode cX9_round 1 = .ok (.aload_n 0, 1) := by decide +kernel
theorem dX9_round_2 : decode cX9_round 2 = .ok (.invokevirtual 214, 3) := by decide +kernel
theorem dX9_round_5 : decode cX9_round 5 = .ok (.irem, 1) := by decide +kernel
theorem dX9_round_6 : decode cX9_round 6 = .ok (.istore_n 2, 1) := by decide +kernel
theorem dX9_round_7 : decode cX9_round 7 = .ok (.iload_n 2, 1) := by decide +kernel
theorem dX9_round_8 : decode cX9_round 8 = .ok (.ifCond .ge 12, 3) := by decide +kernel
theorem dX9_round_11 : decode cX9_round 11 = .ok (.iload_n 2, 1) := by decide +kernel
theorem dX9_round_12 : decode cX9_round 12 = .ok (.aload_n 0, 1) := by decide +kernel
theorem dX9_round_13 : decode cX9_round 13 = .ok (.invokevirtual 214, 3) := by decide +kernel
theorem dX9_round_16 : decode cX9_round 16 = .ok (.iadd, 1) := by decide +kernel
theorem dX9_round_17 : decode cX9_round 17 = .ok (.goto 4, 3) := by decide +kernel
theorem dX9_round_20 : decode cX9_round 20 = .ok (.iload_n 2, 1) := by decide +kernel
theorem dX9_round_21 : decode cX9_round 21 = .ok (.ireturn, 1) := by decide +kernel
theorem dX9_rowFrom_0 : decode cX9_rowFrom 0 = .ok (.iconst 0, 1) := by decide +kernel
theorem dX9_rowFrom_1 : decode cX9_rowFrom 1 = .ok (.istore_n 2, 1) := by decide +kernel
theorem dX9_rowFrom_2 : decode cX9_rowFrom 2 = .ok (.iload_n 2, 1) := by decide +kernel
theorem dX9_rowFrom_3 : decode cX9_rowFrom 3 = .ok (.aload_n 0, 1) := by decide +kernel
theorem dX9_rowFrom_4 : decode cX9_rowFrom 4 = .ok (.invokevirtual 214, 3) := by decide +kernel
theorem dX9_rowFrom_7 : decode cX9_rowFrom 7 = .ok (.if_icmp .ge 25, 3) := by decide +kernel
theorem dX9_rowFrom_10 : decode cX9_rowFrom 10 = .ok (.aload_n 0, 1) := by decide +kernel
theorem dX9_rowFrom_11 : decode cX9_rowFrom 11 = .ok (.getfield 54, 3) := by decide +kernel
theorem dX9_rowFrom_14 : decode cX9_rowFrom 14 = .ok (.aload_n 0, 1) := by decide +kernel
theorem dX9_rowFrom_15 : decode cX9_rowFrom 15 = .ok (.iload_n 1, 1) := by decide +kernel
theorem dX9_rowFrom_16 : decode cX9_rowFrom 16 = .ok (.iload_n 2, 1) := by decide +kernel
theorem dX9_rowFrom_17 : decode cX9_rowFrom 17 = .ok (.iadd, 1) := by decide +kernel
theorem dX9_rowFrom_18 : decode cX9_rowFrom 18 = .ok (.invokevirtual 218, 3) := by decide +kernel
theorem dX9_rowFrom_21 : decode cX9_rowFrom 21 = .ok (.iaload, 1) := by decide +kernel
theorem dX9_rowFrom_22 : decode cX9_rowFrom 22 = .ok (.iconst (-1), 1) := by decide +kernel
theorem dX9_rowFrom_23 : decode cX9_rowFrom 23 = .ok (.if_icmp .eq 9, 3) := by decide +kernel
theorem dX9_rowFrom_26 : decode cX9_rowFrom 26 = .ok (.iinc 2 1, 3) := by decide +kernel
theorem dX9_rowFrom_29 : decode cX9_rowFrom 29 = .ok (.goto (-27), 3) := by decide +kernel
theorem dX9_rowFrom_32 : decode cX9_rowFrom 32 = .ok (.iload_n 2, 1) := by decide +kernel
theorem dX9_rowFrom_33 : decode cX9_rowFrom 33 = .ok (.ireturn, 1) := by decide +kernel
theorem dX9_runOf_0 : decode cX9_runOf 0 = .ok (.iconst 0, 1) := by decide +kernel
theorem dX9_runOf_1 : decode cX9_runOf 1 = .ok (.istore_n 2, 1) := by decide +kernel
theorem dX9_runOf_2 : decode cX9_runOf 2 = .ok (.iload_n 2, 1) := by decide +kernel
theorem dX9_runOf_3 : decode cX9_runOf 3 = .ok (.aload_n 0, 1) := by decide +kernel
theorem dX9_runOf_4 : decode cX9_runOf 4 = .ok (.getfield 20, 3) := by decide +kernel
theorem dX9_runOf_7 : decode cX9_runOf 7 = .ok (.iconst 0, 1) := by decide +kernel
theorem dX9_runOf_8 : decode cX9_runOf 8 = .ok (.iaload, 1) := by decide +kernel
theorem dX9_runOf_9 : decode cX9_runOf 9 = .ok (.if_icmp .ge 29, 3) := by decide +kernel
theorem dX9_runOf_12 : decode cX9_runOf 12 = .ok (.aload_n 0, 1) := by decide +kernel
theorem dX9_runOf_13 : decode cX9_runOf 13 = .ok (.aload_n 0, 1) := by decide +kernel
theorem dX9_runOf_14 : decode cX9_runOf 14 = .ok (.aload_n 0, 1) := by decide +kernel
theorem dX9_runOf_15 : decode cX9_runOf 15 = .ok (.getfield 57, 3) := by decide +kernel
theorem dX9_runOf_18 : decode cX9_runOf 18 = .ok (.iload_n 1, 1) := by decide +kernel
theorem dX9_runOf_19 : decode cX9_runOf 19 = .ok (.iaload, 1) := by decide +kernel
theorem dX9_runOf_20 : decode cX9_runOf 20 = .ok (.iload_n 2, 1) := by decide +kernel
theorem dX9_runOf_21 : decode cX9_runOf 21 = .ok (.isub, 1) := by decide +kernel
theorem dX9_runOf_22 : decode cX9_runOf 22 = .ok (.invokevirtual 218, 3) := by decide +kernel
theorem dX9_runOf_25 : decode cX9_runOf 25 = .ok (.iload_n 1, 1) := by decide +kernel
theorem dX9_runOf_26 : decode cX9_runOf 26 = .ok (.invokevirtual 251, 3) := by decide +kernel
theorem dX9_runOf_29 : decode cX9_runOf 29 = .ok (.ifCond .eq 9, 3) := by decide +kernel
theorem dX9_runOf_32 : decode cX9_runOf 32 = .ok (.iinc 2 1, 3) := by decide +kernel
theorem dX9_runOf_35 : decode cX9_runOf 35 = .ok (.goto (-33), 3) := by decide +kernel
theorem dX9_runOf_38 : decode cX9_runOf 38 = .ok (.iload_n 2, 1) := by decide +kernel
theorem dX9_runOf_39 : decode cX9_runOf 39 = .ok (.ireturn, 1) := by decide +kernel
theorem dX9_runScript_0 : decode cX9_runScript 0 = .ok (.aload_n 0, 1) := by decide +kernel
theorem dX9_runScript_1 : decode cX9_runScript 1 = .ok (.invokevirtual 274, 3) := by decide +kernel
theorem dX9_runScript_4 : decode cX9_runScript 4 = .ok (.aload_n 0, 1) := by decide +kernel
theorem dX9_runScript_5 : decode cX9_runScript 5 = .ok (.iconst 0, 1) := by decide +kernel
theorem dX9_runScript_6 : decode cX9_runScript 6 = .ok (.putfield 511, 3) := by decide +kernel
theorem dX9_runScript_9 : decode cX9_runScript 9 = .ok (.aload_n 0, 1) := by decide +kernel
theorem dX9_runScript_10 : decode cX9_runScript 10 = .ok (.iconst 0, 1) := by decide +kernel
theorem dX9_runScript_11 : decode cX9_runScript 11 = .ok (.putfield 508, 3) := by decide +kernel
theorem dX9_runScript_14 : decode cX9_runScript 14 = .ok (.aload_n 0, 1) := by decide +kernel
theorem dX9_runScript_15 : decode cX9_runScript 15 = .ok (.iconst 0, 1) := by decide +kernel
theorem dX9_runScript_16 : decode cX9_runScript 16 = .ok (.putfield 505, 3) := by decide +kernel
theorem dX9_runScript_19 : decode cX9_runScript 19 = .ok (.aload_n 0, 1) := by decide +kernel
theorem dX9_runScript_20 : decode cX9_runScript 20 = .ok (.invokevirtual 167, 3) := by decide +kernel
theorem dX9_runScript_23 : decode cX9_runScript 23 = .ok (.ifCond .eq 40, 3) := by decide +kernel
theorem dX9_runScript_26 : decode cX9_runScript 26 = .ok (.aload_n 0, 1) := by decide +kernel
theorem dX9_runScript_27 : decode cX9_runScript 27 = .ok (.getfield 154, 3) := by decide +kernel
theorem dX9_runScript_30 : decode cX9_runScript 30 = .ok (.ifCond .eq 33, 3) := by decide +kernel
theorem dX9_runScript_33 : decode cX9_runScript 33 = .ok (.aload_n 0, 1) := by decide +kernel
theorem dX9_runScript_34 : decode cX9_runScript 34 = .ok (.getfield 505, 3) := by decide +kernel
theorem dX9_runScript_37 : decode cX9_runScript 37 = .ok (.istore_n 1, 1) := by decide +kernel
theorem dX9_runScript_38 : decode cX9_runScript 38 = .ok (.aload_n 0, 1) := by decide +kernel
theorem dX9_runScript_39 : decode cX9_runScript 39 = .ok (.invokevirtual 517, 3) := by decide +kernel
theorem dX9_runScript_42 : decode cX9_runScript 42 = .ok (.aload_n 0, 1) := by decide +kernel
theorem dX9_runScript_43 : decode cX9_runScript 43 = .ok (.getfield 505, 3) := by decide +kernel
theorem dX9_runScript_46 : decode cX9_runScript 46 = .ok (.iload_n 1, 1) := by decide +kernel
theorem dX9_runScript_47 : decode cX9_runScript 47 = .ok (.if_icmp .ne 9, 3) := by decide +kernel
theorem dX9_runScript_50 : decode cX9_runScript 50 = .ok (.aload_n 0, 1) := by decide +kernel
theorem dX9_runScript_51 : decode cX9_runScript 51 = .ok (.bipush 59, 2) := by decide +kernel
theorem dX9_runScript_53 : decode cX9_runScript 53 = .ok (.invokevirtual 283, 3) := by decide +kernel
theorem dX9_runScript_56 : decode cX9_runScript 56 = .ok (.aload_n 0, 1) := by decide +kernel
theorem dX9_runScript_57 : decode cX9_runScript 57 = .ok (.invokevirtual 520, 3) := by decide +kernel
theorem dX9_runScript_60 : decode cX9_runScript 60 = .ok (.goto (-41), 3) := by decide +kernel
theorem dX9_runScript_63 : decode cX9_runScript 63 = .ok (.aload_n 0, 1) := by decide +kernel
theorem dX9_runScript_64 : decode cX9_runScript 64 = .ok (.invokevirtual 167, 3) := by decide +kernel
theorem dX9_runScript_67 : decode cX9_runScript 67 = .ok (.ifCond .eq 15, 3) := by decide +kernel
theorem dX9_runScript_70 : decode cX9_runScript 70 = .ok (.aload_n 0, 1) := by decide +kernel
theorem dX9_runScript_71 : decode cX9_runScript 71 = .ok (.getfield 505, 3) := by decide +kernel
theorem dX9_runScript_74 : decode cX9_runScript 74 = .ok (.ifCond .le 8, 3) := by decide +kernel
theorem dX9_runScript_77 : decode cX9_runScript 77 = .ok (.aload_n 0, 1) := by decide +kernel
theorem dX9_runScript_78 : decode cX9_runScript 78 = .ok (.iconst 1, 1) := by decide +kernel
theorem dX9_runScript_79 : decode cX9_runScript 79 = .ok (.invokevirtual 174, 3) := by decide +kernel
theorem dX9_runScript_82 : decode cX9_runScript 82 = .ok (.aload_n 0, 1) := by decide +kernel
theorem dX9_runScript_83 : decode cX9_runScript 83 = .ok (.invokevirtual 291, 3) := by decide +kernel
theorem dX9_runScript_86 : decode cX9_runScript 86 = .ok (.ifCond .ne 5, 3) := by decide +kernel
theorem dX9_runScript_89 : decode cX9_runScript 89 = .ok (.iconst 0, 1) := by decide +kernel
theorem dX9_runScript_90 : decode cX9_runScript 90 = .ok (.ireturn, 1) := by decide +kernel
theorem dX9_runScript_91 : decode cX9_runScript 91 = .ok (.aload_n 0, 1) := by decide +kernel
theorem dX9_runScript_92 : decode cX9_runScript 92 = .ok (.invokevirtual 271, 3) := by decide +kernel
theorem dX9_runScript_95 : decode cX9_runScript 95 = .ok (.aload_n 0, 1) := by decide +kernel
theorem dX9_runScript_96 : decode cX9_runScript 96 = .ok (.invokevirtual 523, 3) := by decide +kernel
theorem dX9_runScript_99 : decode cX9_runScript 99 = .ok (.istore_n 1, 1) := by decide +kernel
theorem dX9_runScript_100 : decode cX9_runScript 100 = .ok (.aload_n 0, 1) := by decide +kernel
theorem dX9_runScript_101 : decode cX9_runScript 101 = .ok (.invokevirtual 202, 3) := by decide +kernel
theorem dX9_runScript_104 : decode cX9_runScript 104 = .ok (.iload_n 1, 1) := by decide +kernel
theorem dX9_runScript_105 : decode cX9_runScript 105 = .ok (.ireturn, 1) := by decide +kernel
theorem dX9_save_0 : decode cX9_save 0 = .ok (.aload_n 0, 1) := by decide +kernel
theorem dX9_save_1 : decode cX9_save 1 = .ok (.iconst 0, 1) := by decide +kernel
theorem dX9_save_2 : decode cX9_save 2 = .ok (.putfield 112, 3) := by decide +kernel
theorem dX9_save_5 : decode cX9_save 5 = .ok (.aload_n 0, 1) := by decide +kernel
theorem dX9_save_6 : decode cX9_save 6 = .ok (.getfield 20, 3) := by decide +kernel
theorem dX9_save_9 : decode cX9_save 9 = .ok (.iconst 0, 1) := by decide +kernel
theorem dX9_save_10 : decode cX9_save 10 = .ok (.aload_n 0, 1) := by decide +kernel
theorem dX9_save_11 : decode cX9_save 11 = .ok (.getfield 23, 3) := by decide +kernel
theorem dX9_save_14 : decode cX9_save 14 = .ok (.iconst 0, 1) := by decide +kernel
theorem dX9_save_15 : decode cX9_save 15 = .ok (.invokestatic 191, 3) := by decide +kernel
theorem dX9_save_18 : decode cX9_save 18 = .ok (.aload_n 0, 1) := by decide +kernel
theorem dX9_save_19 : decode cX9_save 19 = .ok (.getfield 35, 3) := by decide +kernel
theorem dX9_save_22 : decode cX9_save 22 = .ok (.iconst 0, 1) := by decide +kernel
theorem dX9_save_23 : decode cX9_save 23 = .ok (.aload_n 0, 1) := by decide +kernel
theorem dX9_save_24 : decode cX9_save 24 = .ok (.getfield 39, 3) := by decide +kernel
theorem dX9_save_27 : decode cX9_save 27 = .ok (.iconst 0, 1) := by decide +kernel
theorem dX9_save_28 : decode cX9_save 28 = .ok (.invokestatic 195, 3) := by decide +kernel
theorem dX9_save_31 : decode cX9_save 31 = .ok (.aload_n 0, 1) := by decide +kernel
theorem dX9_save_32 : decode cX9_save 32 = .ok (.iconst 1, 1) := by decide +kernel
theorem dX9_save_33 : decode cX9_save 33 = .ok (.putfield 205, 3) := by decide +kernel
theorem dX9_save_36 : decode cX9_save 36 = .ok (.aload_n 0, 1) := by decide +kernel
theorem dX9_save_37 : decode cX9_save 37 = .ok (.getfield 20, 3) := by decide +kernel
theorem dX9_save_40 : decode cX9_save 40 = .ok (.iconst 0, 1) := by decide +kernel
theorem dX9_save_41 : decode cX9_save 41 = .ok (.iaload, 1) := by decide +kernel
theorem dX9_save_42 : decode cX9_save 42 = .ok (.ireturn, 1) := by decide +kernel
theorem dX9_setBack_0 : decode cX9_setBack 0 = .ok (.aload_n 0, 1) := by decide +kernel
theorem dX9_setBack_1 : decode cX9_setBack 1 = .ok (.iload_n 1, 1) := by decide +kernel
theorem dX9_setBack_2 : decode cX9_setBack 2 = .ok (.invokestatic 415, 3) := by decide +kernel
theorem dX9_setBack_5 : decode cX9_setBack 5 = .ok (.invokevirtual 122, 3) := by decide +kernel
theorem dX9_setBack_8 : decode cX9_setBack 8 = .ok (.ifCond .ne 5, 3) := by decide +kernel
theorem dX9_setBack_11 : decode cX9_setBack 11 = .ok (.iconst 0, 1) := by decide +kernel
theorem dX9_setBack_12 : decode cX9_setBack 12 = .ok (.ireturn, 1) := by decide +kernel
theorem dX9_setBack_13 : decode cX9_setBack 13 = .ok (.aload_n 0, 1) := by decide +kernel
theorem dX9_setBack_14 : decode cX9_setBack 14 = .ok (.invokevirtual 271, 3) := by decide +kernel
theorem dX9_setBack_17 : decode cX9_setBack 17 = .ok (.aload_n 0, 1) := by decide +kernel
theorem dX9_setBack_18 : decode cX9_setBack 18 = .ok (.aload_n 0, 1) := by decide +kernel
theorem dX9_setBack_19 : decode cX9_setBack 19 = .ok (.iload_n 1, 1) := by decide +kernel
theorem dX9_setBack_20 : decode cX9_setBack 20 = .ok (.invokevirtual 447, 3) := by decide +kernel
theorem dX9_setBack_23 : decode cX9_setBack 23 = .ok (.invokevirtual 427, 3) := by decide +kernel
theorem dX9_setBack_26 : decode cX9_setBack 26 = .ok (.ireturn, 1) := by decide +kernel
theorem dX9_setting_0 : decode cX9_setting 0 = .ok (.aload_n 0, 1) := by decide +kernel
theorem dX9_setting_1 : decode cX9_setting 1 = .ok (.iload_n 1, 1) := by decide +kernel
theorem dX9_setting_2 : decode cX9_setting 2 = .ok (.invokestatic 314, 3) := by decide +kernel
theorem dX9_setting_5 : decode cX9_setting 5 = .ok (.invokevirtual 122, 3) := by decide +kernel
theorem dX9_setting_8 : decode cX9_setting 8 = .ok (.ifCond .eq 11, 3) := by decide +kernel
theorem dX9_setting_11 : decode cX9_setting 11 = .ok (.aload_n 0, 1) := by decide +kernel
theorem dX9_setting_12 : decode cX9_setting 12 = .ok (.iload_n 1, 1) := by decide +kernel
theorem dX9_setting_13 : decode cX9_setting 13 = .ok (.invokevirtual 317, 3) := by decide +kernel
theorem dX9_setting_16 : decode cX9_setting 16 = .ok (.goto 4, 3) := by decide +kernel
theorem dX9_setting_19 : decode cX9_setting 19 = .ok (.iconst 0, 1) := by decide +kernel
theorem dX9_setting_20 : decode cX9_setting 20 = .ok (.ireturn, 1) := by decide +kernel
theorem dX9_settingIf_0 : decode cX9_settingIf 0 = .ok (.aload_n 0, 1) := by decide +kernel
theorem dX9_settingIf_1 : decode cX9_settingIf 1 = .ok (.aload_n 0, 1) := by decide +kernel
theorem dX9_settingIf_2 : decode cX9_settingIf 2 = .ok (.iload_n 1, 1) := by decide +kernel
theorem dX9_settingIf_3 : decode cX9_settingIf 3 = .ok (.invokevirtual 325, 3) := by decide +kernel
theorem dX9_settingIf_6 : decode cX9_settingIf 6 = .ok (.aload_n 0, 1) := by decide +kernel
theorem dX9_settingIf_7 : decode cX9_settingIf 7 = .ok (.iload_n 2, 1) := by decide +kernel
theorem dX9_settingIf_8 : decode cX9_settingIf 8 = .ok (.invokevirtual 341, 3) := by decide +kernel
theorem dX9_settingIf_11 : decode cX9_settingIf 11 = .ok (.ifCond .eq 14, 3) := by decide +kernel
theorem dX9_settingIf_14 : decode cX9_settingIf 14 = .ok (.iload_n 3, 1) := by decide +kernel
theorem dX9_settingIf_15 : decode cX9_settingIf 15 = .ok (.invokestatic 314, 3) := by decide +kernel
theorem dX9_settingIf_18 : decode cX9_settingIf 18 = .ok (.ifCond .eq 7, 3) := by decide +kernel
theorem dX9_settingIf_21 : decode cX9_settingIf 21 = .ok (.iconst 1, 1) := by decide +kernel
theorem dX9_settingIf_22 : decode cX9_settingIf 22 = .ok (.goto 4, 3) := by decide +kernel
theorem dX9_settingIf_25 : decode cX9_settingIf 25 = .ok (.iconst 0, 1) := by decide +kernel
theorem dX9_settingIf_26 : decode cX9_settingIf 26 = .ok (.invokevirtual 334, 3) := by decide +kernel
theorem dX9_settingIf_29 : decode cX9_settingIf 29 = .ok (.ifCond .ne 5, 3) := by decide +kernel
theorem dX9_settingIf_32 : decode cX9_settingIf 32 = .ok (.iconst 0, 1) := by decide +kernel
theorem dX9_settingIf_33 : decode cX9_settingIf 33 = .ok (.ireturn, 1) := by decide +kernel
theorem dX9_settingIf_34 : decode cX9_settingIf 34 = .ok (.aload_n 0, 1) := by decide +kernel
theorem dX9_settingIf_35 : decode cX9_settingIf 35 = .ok (.invokevirtual 403, 3) := by decide +kernel
theorem dX9_settingIf_38 : decode cX9_settingIf 38 = .ok (.aload_n 0, 1) := by decide +kernel
theorem dX9_settingIf_39 : decode cX9_settingIf 39 = .ok (.getfield 20, 3) := by decide +kernel
theorem dX9_settingIf_42 : decode cX9_settingIf 42 = .ok (.iconst 2, 1) := by decide +kernel
theorem dX9_settingIf_43 : decode cX9_settingIf 43 = .ok (.iload_n 1, 1) := by decide +kernel
theorem dX9_settingIf_44 : decode cX9_settingIf 44 = .ok (.iadd, 1) := by decide +kernel
theorem dX9_settingIf_45 : decode cX9_settingIf 45 = .ok (.iload_n 2, 1) := by decide +kernel
theorem dX9_settingIf_46 : decode cX9_settingIf 46 = .ok (.iastore, 1) := by decide +kernel
theorem dX9_settingIf_47 : decode cX9_settingIf 47 = .ok (.aload_n 0, 1) := by decide +kernel
theorem dX9_settingIf_48 : decode cX9_settingIf 48 = .ok (.aload_n 0, 1) := by decide +kernel
theorem dX9_settingIf_49 : decode cX9_settingIf 49 = .ok (.iload_n 3, 1) := by decide +kernel
theorem dX9_settingIf_50 : decode cX9_settingIf 50 = .ok (.invokevirtual 317, 3) := by decide +kernel
theorem dX9_settingIf_53 : decode cX9_settingIf 53 = .ok (.invokevirtual 406, 3) := by decide +kernel
theorem dX9_settingIf_56 : decode cX9_settingIf 56 = .ok (.ireturn, 1) := by decide +kernel
theorem dX9_settingOf_0 : decode cX9_settingOf 0 = .ok (.aload_n 0, 1) := by decide +kernel
theorem dX9_settingOf_1 : decode cX9_settingOf 1 = .ok (.aload_n 0, 1) := by decide +kernel
theorem dX9_settingOf_2 : decode cX9_settingOf 2 = .ok (.getfield 20, 3) := by decide +kernel
theorem dX9_settingOf_5 : decode cX9_settingOf 5 = .ok (.iconst 0, 1) := by decide +kernel
theorem dX9_settingOf_6 : decode cX9_settingOf 6 = .ok (.iaload, 1) := by decide +kernel
theorem dX9_settingOf_7 : decode cX9_settingOf 7 = .ok (.invokevirtual 230, 3) := by decide +kernel
theorem dX9_settingOf_10 : decode cX9_settingOf 10 = .ok (.iload_n 1, 1) := by decide +kernel
theorem dX9_settingOf_11 : decode cX9_settingOf 11 = .ok (.tableswitch 98 0 8 #[49, 56, 61, 68, 73, 78, 83, 88, 93], 49) := by decide +kernel
theorem dX9_settingOf_60 : decode cX9_settingOf 60 = .ok (.aload_n 0, 1) := by decide +kernel
theorem dX9_settingOf_61 : decode cX9_settingOf 61 = .ok (.getfield 20, 3) := by decide +kernel
theorem dX9_settingOf_64 : decode cX9_settingOf 64 = .ok (.iconst 0, 1) := by decide +kernel
theorem dX9_settingOf_65 : decode cX9_settingOf 65 = .ok (.iaload, 1) := by decide +kernel
theorem dX9_settingOf_66 : decode cX9_settingOf 66 = .ok (.ireturn, 1) := by decide +kernel
theorem dX9_settingOf_67 : decode cX9_settingOf 67 = .ok (.aload_n 0, 1) := by decide +kernel
theorem dX9_settingOf_68 : decode cX9_settingOf 68 = .ok (.invokevirtual 214, 3) := by decide +kernel
theorem dX9_settingOf_71 : decode cX9_settingOf 71 = .ok (.ireturn, 1) := by decide +kernel
theorem dX9_settingOf_72 : decode cX9_settingOf 72 = .ok (.aload_n 0, 1) := by decide +kernel
theorem dX9_settingOf_73 : decode cX9_settingOf 73 = .ok (.getfield 20, 3) := by decide +kernel
theorem dX9_settingOf_76 : decode cX9_settingOf 76 = .ok (.iconst 1, 1) := by decide +kernel
theorem dX9_settingOf_77 : decode cX9_settingOf 77 = .ok (.iaload, 1) := by decide +kernel
theorem dX9_settingOf_78 : decode cX9_settingOf 78 = .ok (.ireturn, 1) := by decide +kernel
theorem dX9_settingOf_79 : decode cX9_settingOf 79 = .ok (.aload_n 0, 1) := by decide +kernel
theorem dX9_settingOf_80 : decode cX9_settingOf 80 = .ok (.invokevirtual 227, 3) := by decide +kernel
theorem dX9_settingOf_83 : decode cX9_settingOf 83 = .ok (.ireturn, 1) := by decide +kernel
theorem dX9_settingOf_84 : decode cX9_settingOf 84 = .ok (.aload_n 0, 1) := by decide +kernel
theorem dX9_settingOf_85 : decode cX9_settingOf 85 = .ok (.invokevirtual 297, 3) := by decide +kernel
theorem dX9_settingOf_88 : decode cX9_settingOf 88 = .ok (.ireturn, 1) := by decide +kernel
theorem dX9_settingOf_89 : decode cX9_settingOf 89 = .ok (.aload_n 0, 1) := by decide +kernel
theorem dX9_settingOf_90 : decode cX9_settingOf 90 = .ok (.invokevirtual 300, 3) := by decide +kernel
theorem dX9_settingOf_93 : decode cX9_settingOf 93 = .ok (.ireturn, 1) := by decide +kernel
theorem dX9_settingOf_94 : decode cX9_settingOf 94 = .ok (.aload_n 0, 1) := by decide +kernel
theorem dX9_settingOf_95 : decode cX9_settingOf 95 = .ok (.invokevirtual 303, 3) := by decide +kernel
theorem dX9_settingOf_98 : decode cX9_settingOf 98 = .ok (.ireturn, 1) := by decide +kernel
theorem dX9_settingOf_99 : decode cX9_settingOf 99 = .ok (.aload_n 0, 1) := by decide +kernel
theorem dX9_settingOf_100 : decode cX9_settingOf 100 = .ok (.invokevirtual 233, 3) := by decide +kernel
theorem dX9_settingOf_103 : decode cX9_settingOf 103 = .ok (.ireturn, 1) := by decide +kernel
theorem dX9_settingOf_104 : decode cX9_settingOf 104 = .ok (.aload_n 0, 1) := by decide +kernel
theorem dX9_settingOf_105 : decode cX9_settingOf 105 = .ok (.invokevirtual 306, 3) := by decide +kernel
theorem dX9_settingOf_108 : decode cX9_settingOf 108 = .ok (.ireturn, 1) := by decide +kernel
theorem dX9_settingOf_109 : decode cX9_settingOf 109 = .ok (.aload_n 0, 1) := by decide +kernel
theorem dX9_settingOf_110 : decode cX9_settingOf 110 = .ok (.invokevirtual 309, 3) := by decide +kernel
theorem dX9_settingOf_113 : decode cX9_settingOf 113 = .ok (.ireturn, 1) := by decide +kernel
theorem dX9_sort_0 : decode cX9_sort 0 = .ok (.aload_n 0, 1) := by decide +kernel
theorem dX9_sort_1 : decode cX9_sort 1 = .ok (.iconst 0, 1) := by decide +kernel
theorem dX9_sort_2 : decode cX9_sort 2 = .ok (.putfield 112, 3) := by decide +kernel
theorem dX9_sort_5 : decode cX9_sort 5 = .ok (.aload_n 0, 1) := by decide +kernel
theorem dX9_sort_6 : decode cX9_sort 6 = .ok (.invokevirtual 271, 3) := by decide +kernel
theorem dX9_sort_9 : decode cX9_sort 9 = .ok (.aload_n 0, 1) := by decide +kernel
theorem dX9_sort_10 : decode cX9_sort 10 = .ok (.aload_n 0, 1) := by decide +kernel
theorem dX9_sort_11 : decode cX9_sort 11 = .ok (.invokevirtual 478, 3) := by decide +kernel
theorem dX9_sort_14 : decode cX9_sort 14 = .ok (.invokevirtual 427, 3) := by decide +kernel
theorem dX9_sort_17 : decode cX9_sort 17 = .ok (.ireturn, 1) := by decide +kernel
theorem dX9_sorts_0 : decode cX9_sorts 0 = .ok (.aload_n 0, 1) := by decide +kernel
theorem dX9_sorts_1 : decode cX9_sorts 1 = .ok (.invokevirtual 403, 3) := by decide +kernel
theorem dX9_sorts_4 : decode cX9_sorts 4 = .ok (.iconst 0, 1) := by decide +kernel
theorem dX9_sorts_5 : decode cX9_sorts 5 = .ok (.istore_n 1, 1) := by decide +kernel
theorem dX9_sorts_6 : decode cX9_sorts 6 = .ok (.iconst 0, 1) := by decide +kernel
theorem dX9_sorts_7 : decode cX9_sorts 7 = .ok (.istore_n 2, 1) := by decide +kernel
theorem dX9_sorts_8 : decode cX9_sorts 8 = .ok (.iload_n 2, 1) := by decide +kernel
theorem dX9_sorts_9 : decode cX9_sorts 9 = .ok (.aload_n 0, 1) := by decide +kernel
theorem dX9_sorts_10 : decode cX9_sorts 10 = .ok (.getfield 20, 3) := by decide +kernel
theorem dX9_sorts_13 : decode cX9_sorts 13 = .ok (.iconst 0, 1) := by decide +kernel
theorem dX9_sorts_14 : decode cX9_sorts 14 = .ok (.iaload, 1) := by decide +kernel
theorem dX9_sorts_15 : decode cX9_sorts 15 = .ok (.if_icmp .ge 20, 3) := by decide +kernel
theorem dX9_sorts_18 : decode cX9_sorts 18 = .ok (.aload_n 0, 1) := by decide +kernel
theorem dX9_sorts_19 : decode cX9_sorts 19 = .ok (.getfield 81, 3) := by decide +kernel
theorem dX9_sorts_22 : decode cX9_sorts 22 = .ok (.iload_n 2, 1) := by decide +kernel
theorem dX9_sorts_23 : decode cX9_sorts 23 = .ok (.aload_n 0, 1) := by decide +kernel
theorem dX9_sorts_24 : decode cX9_sorts 24 = .ok (.iload_n 2, 1) := by decide +kernel
theorem dX9_sorts_25 : decode cX9_sorts 25 = .ok (.invokevirtual 344, 3) := by decide +kernel
theorem dX9_sorts_28 : decode cX9_sorts 28 = .ok (.iastore, 1) := by decide +kernel
theorem dX9_sorts_29 : decode cX9_sorts 29 = .ok (.iinc 2 1, 3) := by decide +kernel
theorem dX9_sorts_32 : decode cX9_sorts 32 = .ok (.goto (-24), 3) := by decide +kernel
theorem dX9_sorts_35 : decode cX9_sorts 35 = .ok (.iconst 0, 1) := by decide +kernel
theorem dX9_sorts_36 : decode cX9_sorts 36 = .ok (.istore_n 2, 1) := by decide +kernel
theorem dX9_sorts_37 : decode cX9_sorts 37 = .ok (.iload_n 2, 1) := by decide +kernel
theorem dX9_sorts_38 : decode cX9_sorts 38 = .ok (.aload_n 0, 1) := by decide +kernel
theorem dX9_sorts_39 : decode cX9_sorts 39 = .ok (.getfield 20, 3) := by decide +kernel
theorem dX9_sorts_42 : decode cX9_sorts 42 = .ok (.iconst 0, 1) := by decide +kernel
theorem dX9_sorts_43 : decode cX9_sorts 43 = .ok (.iaload, 1) := by decide +kernel
theorem dX9_sorts_44 : decode cX9_sorts 44 = .ok (.if_icmp .ge 68, 3) := by decide +kernel
theorem dX9_sorts_47 : decode cX9_sorts 47 = .ok (.aload_n 0, 1) := by decide +kernel
theorem dX9_sorts_48 : decode cX9_sorts 48 = .ok (.getfield 20, 3) := by decide +kernel
theorem dX9_sorts_51 : decode cX9_sorts 51 = .ok (.iconst 2, 1) := by decide +kernel
theorem dX9_sorts_52 : decode cX9_sorts 52 = .ok (.aload_n 0, 1) := by decide +kernel
theorem dX9_sorts_53 : decode cX9_sorts 53 = .ok (.getfield 81, 3) := by decide +kernel
theorem dX9_sorts_56 : decode cX9_sorts 56 = .ok (.iload_n 2, 1) := by decide +kernel
theorem dX9_sorts_57 : decode cX9_sorts 57 = .ok (.iaload, 1) := by decide +kernel
theorem dX9_sorts_58 : decode cX9_sorts 58 = .ok (.iadd, 1) := by decide +kernel
theorem dX9_sorts_59 : decode cX9_sorts 59 = .ok (.aload_n 0, 1) := by decide +kernel
theorem dX9_sorts_60 : decode cX9_sorts 60 = .ok (.getfield 29, 3) := by decide +kernel
theorem dX9_sorts_63 : decode cX9_sorts 63 = .ok (.iconst 2, 1) := by decide +kernel
theorem dX9_sorts_64 : decode cX9_sorts 64 = .ok (.iload_n 2, 1) := by decide +kernel
theorem dX9_sorts_65 : decode cX9_sorts 65 = .ok (.iadd, 1) := by decide +kernel
theorem dX9_sorts_66 : decode cX9_sorts 66 = .ok (.iaload, 1) := by decide +kernel
theorem dX9_sorts_67 : decode cX9_sorts 67 = .ok (.iastore, 1) := by decide +kernel
theorem dX9_sorts_68 : decode cX9_sorts 68 = .ok (.aload_n 0, 1) := by decide +kernel
theorem dX9_sorts_69 : decode cX9_sorts 69 = .ok (.getfield 35, 3) := by decide +kernel
theorem dX9_sorts_72 : decode cX9_sorts 72 = .ok (.aload_n 0, 1) := by decide +kernel
theorem dX9_sorts_73 : decode cX9_sorts 73 = .ok (.getfield 81, 3) := by decide +kernel
theorem dX9_sorts_76 : decode cX9_sorts 76 = .ok (.iload_n 2, 1) := by decide +kernel
theorem dX9_sorts_77 : decode cX9_sorts 77 = .ok (.iaload, 1) := by decide +kernel
theorem dX9_sorts_78 : decode cX9_sorts 78 = .ok (.aload_n 0, 1) := by decide +kernel
theorem dX9_sorts_79 : decode cX9_sorts 79 = .ok (.getfield 45, 3) := by decide +kernel
theorem dX9_sorts_82 : decode cX9_sorts 82 = .ok (.iload_n 2, 1) := by decide +kernel
theorem dX9_sorts_83 : decode cX9_sorts 83 = .ok (.laload, 1) := by decide +kernel
theorem dX9_sorts_84 : decode cX9_sorts 84 = .ok (.lastore, 1) := by decide +kernel
theorem dX9_sorts_85 : decode cX9_sorts 85 = .ok (.iload_n 1, 1) := by decide +kernel
theorem dX9_sorts_86 : decode cX9_sorts 86 = .ok (.aload_n 0, 1) := by decide +kernel
theorem dX9_sorts_87 : decode cX9_sorts 87 = .ok (.getfield 81, 3) := by decide +kernel
theorem dX9_sorts_90 : decode cX9_sorts 90 = .ok (.iload_n 2, 1) := by decide +kernel
theorem dX9_sorts_91 : decode cX9_sorts 91 = .ok (.iaload, 1) := by decide +kernel
theorem dX9_sorts_92 : decode cX9_sorts 92 = .ok (.iload_n 2, 1) := by decide +kernel
theorem dX9_sorts_93 : decode cX9_sorts 93 = .ok (.if_icmp .eq 7, 3) := by decide +kernel
theorem dX9_sorts_96 : decode cX9_sorts 96 = .ok (.iconst 1, 1) := by decide +kernel
theorem dX9_sorts_97 : decode cX9_sorts 97 = .ok (.goto 4, 3) := by decide +kernel
theorem dX9_sorts_100 : decode cX9_sorts 100 = .ok (.iconst 0, 1) := by decide +kernel
theorem dX9_sorts_101 : decode cX9_sorts 101 = .ok (.invokestatic 115, 3) := by decide +kernel
theorem dX9_sorts_104 : decode cX9_sorts 104 = .ok (.iadd, 1) := by decide +kernel
theorem dX9_sorts_105 : decode cX9_sorts 105 = .ok (.istore_n 1, 1) := by decide +kernel
theorem dX9_sorts_106 : decode cX9_sorts 106 = .ok (.iinc 2 1, 3) := by decide +kernel
theorem dX9_sorts_109 : decode cX9_sorts 109 = .ok (.goto (-72), 3) := by decide +kernel
theorem dX9_sorts_112 : decode cX9_sorts 112 = .ok (.aload_n 0, 1) := by decide +kernel
theorem dX9_sorts_113 : decode cX9_sorts 113 = .ok (.iload_n 1, 1) := by decide +kernel
theorem dX9_sorts_114 : decode cX9_sorts 114 = .ok (.invokevirtual 421, 3) := by decide +kernel
theorem dX9_sorts_117 : decode cX9_sorts 117 = .ok (.ireturn, 1) := by decide +kernel
theorem dX9_spotByLine_0 : decode cX9_spotByLine 0 = .ok (.aload_n 0, 1) := by decide +kernel
theorem dX9_spotByLine_1 : decode cX9_spotByLine 1 = .ok (.aload_n 0, 1) := by decide +kernel
theorem dX9_spotByLine_2 : decode cX9_spotByLine 2 = .ok (.iload_n 1, 1) := by decide +kernel
theorem dX9_spotByLine_3 : decode cX9_spotByLine 3 = .ok (.invokevirtual 325, 3) := by decide +kernel
theorem dX9_spotByLine_6 : decode cX9_spotByLine 6 = .ok (.invokevirtual 122, 3) := by decide +kernel
theorem dX9_spotByLine_9 : decode cX9_spotByLine 9 = .ok (.ifCond .ne 5, 3) := by decide +kernel
theorem dX9_spotByLine_12 : decode cX9_spotByLine 12 = .ok (.iconst 0, 1) := by decide +kernel
theorem dX9_spotByLine_13 : decode cX9_spotByLine 13 = .ok (.ireturn, 1) := by decide +kernel
theorem dX9_spotByLine_14 : decode cX9_spotByLine 14 = .ok (.aload_n 0, 1) := by decide +kernel
theorem dX9_spotByLine_15 : decode cX9_spotByLine 15 = .ok (.invokevirtual 347, 3) := by decide +kernel
theorem dX9_spotByLine_18 : decode cX9_spotByLine 18 = .ok (.aload_n 0, 1) := by decide +kernel
theorem dX9_spotByLine_19 : decode cX9_spotByLine 19 = .ok (.getfield 66, 3) := by decide +kernel
theorem dX9_spotByLine_22 : decode cX9_spotByLine 22 = .ok (.iload_n 1, 1) := by decide +kernel
theorem dX9_spotByLine_23 : decode cX9_spotByLine 23 = .ok (.iaload, 1) := by decide +kernel
theorem dX9_spotByLine_24 : decode cX9_spotByLine 24 = .ok (.ireturn, 1) := by decide +kernel
theorem dX9_spotIf_0 : decode cX9_spotIf 0 = .ok (.aload_n 0, 1) := by decide +kernel
theorem dX9_spotIf_1 : decode cX9_spotIf 1 = .ok (.aload_n 0, 1) := by decide +kernel
theorem dX9_spotIf_2 : decode cX9_spotIf 2 = .ok (.iload_n 1, 1) := by decide +kernel
theorem dX9_spotIf_3 : decode cX9_spotIf 3 = .ok (.invokevirtual 325, 3) := by decide +kernel
theorem dX9_spotIf_6 : decode cX9_spotIf 6 = .ok (.aload_n 0, 1) := by decide +kernel
theorem dX9_spotIf_7 : decode cX9_spotIf 7 = .ok (.iload_n 2, 1) := by decide +kernel
theorem dX9_spotIf_8 : decode cX9_spotIf 8 = .ok (.invokevirtual 341, 3) := by decide +kernel
theorem dX9_spotIf_11 : decode cX9_spotIf 11 = .ok (.invokevirtual 334, 3) := by decide +kernel
theorem dX9_spotIf_14 : decode cX9_spotIf 14 = .ok (.ifCond .ne 5, 3) := by decide +kernel
theorem dX9_spotIf_17 : decode cX9_spotIf 17 = .ok (.iconst 0, 1) := by decide +kernel
theorem dX9_spotIf_18 : decode cX9_spotIf 18 = .ok (.ireturn, 1) := by decide +kernel
theorem dX9_spotIf_19 : decode cX9_spotIf 19 = .ok (.aload_n 0, 1) := by decide +kernel
theorem dX9_spotIf_20 : decode cX9_spotIf 20 = .ok (.invokevirtual 403, 3) := by decide +kernel
theorem dX9_spotIf_23 : decode cX9_spotIf 23 = .ok (.aload_n 0, 1) := by decide +kernel
theorem dX9_spotIf_24 : decode cX9_spotIf 24 = .ok (.getfield 20, 3) := by decide +kernel
theorem dX9_spotIf_27 : decode cX9_spotIf 27 = .ok (.iconst 2, 1) := by decide +kernel
theorem dX9_spotIf_28 : decode cX9_spotIf 28 = .ok (.iload_n 1, 1) := by decide +kernel
theorem dX9_spotIf_29 : decode cX9_spotIf 29 = .ok (.iadd, 1) := by decide +kernel
theorem dX9_spotIf_30 : decode cX9_spotIf 30 = .ok (.iload_n 2, 1) := by decide +kernel
theorem dX9_spotIf_31 : decode cX9_spotIf 31 = .ok (.iastore, 1) := by decide +kernel
theorem dX9_spotIf_32 : decode cX9_spotIf 32 = .ok (.aload_n 0, 1) := by decide +kernel
theorem dX9_spotIf_33 : decode cX9_spotIf 33 = .ok (.aload_n 0, 1) := by decide +kernel
theorem dX9_spotIf_34 : decode cX9_spotIf 34 = .ok (.getfield 20, 3) := by decide +kernel
theorem dX9_spotIf_37 : decode cX9_spotIf 37 = .ok (.iconst 0, 1) := by decide +kernel
theorem dX9_spotIf_38 : decode cX9_spotIf 38 = .ok (.iaload, 1) := by decide +kernel
theorem dX9_spotIf_39 : decode cX9_spotIf 39 = .ok (.invokevirtual 230, 3) := by decide +kernel
theorem dX9_spotIf_42 : decode cX9_spotIf 42 = .ok (.aload_n 0, 1) := by decide +kernel
theorem dX9_spotIf_43 : decode cX9_spotIf 43 = .ok (.aload_n 0, 1) := by decide +kernel
theorem dX9_spotIf_44 : decode cX9_spotIf 44 = .ok (.getfield 57, 3) := by decide +kernel
theorem dX9_spotIf_47 : decode cX9_spotIf 47 = .ok (.iload_n 1, 1) := by decide +kernel
theorem dX9_spotIf_48 : decode cX9_spotIf 48 = .ok (.iaload, 1) := by decide +kernel
theorem dX9_spotIf_49 : decode cX9_spotIf 49 = .ok (.invokevirtual 406, 3) := by decide +kernel
theorem dX9_spotIf_52 : decode cX9_spotIf 52 = .ok (.ireturn, 1) := by decide +kernel
theorem dX9_spots_0 : decode cX9_spots 0 = .ok (.aload_n 0, 1) := by decide +kernel
theorem dX9_spots_1 : decode cX9_spots 1 = .ok (.getfield 20, 3) := by decide +kernel
theorem dX9_spots_4 : decode cX9_spots 4 = .ok (.iconst 0, 1) := by decide +kernel
theorem dX9_spots_5 : decode cX9_spots 5 = .ok (.iaload, 1) := by decide +kernel
theorem dX9_spots_6 : decode cX9_spots 6 = .ok (.iconst 1, 1) := by decide +kernel
theorem dX9_spots_7 : decode cX9_spots 7 = .ok (.iadd, 1) := by decide +kernel
theorem dX9_spots_8 : decode cX9_spots 8 = .ok (.ireturn, 1) := by decide +kernel
theorem dX9_swap_0 : decode cX9_swap 0 = .ok (.aload_n 0, 1) := by decide +kernel
theorem dX9_swap_1 : decode cX9_swap 1 = .ok (.aload_n 0, 1) := by decide +kernel
theorem dX9_swap_2 : decode cX9_swap 2 = .ok (.iload_n 1, 1) := by decide +kernel
theorem dX9_swap_3 : decode cX9_swap 3 = .ok (.invokevirtual 325, 3) := by decide +kernel
theorem dX9_swap_6 : decode cX9_swap 6 = .ok (.invokevirtual 122, 3) := by decide +kernel
theorem dX9_swap_9 : decode cX9_swap 9 = .ok (.ifCond .eq 15, 3) := by decide +kernel
theorem dX9_swap_12 : decode cX9_swap 12 = .ok (.aload_n 0, 1) := by decide +kernel
theorem dX9_swap_13 : decode cX9_swap 13 = .ok (.aload_n 0, 1) := by decide +kernel
theorem dX9_swap_14 : decode cX9_swap 14 = .ok (.iload_n 1, 1) := by decide +kernel
theorem dX9_swap_15 : decode cX9_swap 15 = .ok (.invokevirtual 430, 3) := by decide +kernel
theorem dX9_swap_18 : decode cX9_swap 18 = .ok (.invokevirtual 433, 3) := by decide +kernel
theorem dX9_swap_21 : decode cX9_swap 21 = .ok (.ifCond .eq 5, 3) := by decide +kernel
theorem dX9_swap_24 : decode cX9_swap 24 = .ok (.iconst 0, 1) := by decide +kernel
theorem dX9_swap_25 : decode cX9_swap 25 = .ok (.ireturn, 1) := by decide +kernel
theorem dX9_swap_26 : decode cX9_swap 26 = .ok (.aload_n 0, 1) := by decide +kernel
theorem dX9_swap_27 : decode cX9_swap 27 = .ok (.invokevirtual 271, 3) := by decide +kernel
theorem dX9_swap_30 : decode cX9_swap 30 = .ok (.aload_n 0, 1) := by decide +kernel
theorem dX9_swap_31 : decode cX9_swap 31 = .ok (.aload_n 0, 1) := by decide +kernel
theorem dX9_swap_32 : decode cX9_swap 32 = .ok (.iload_n 1, 1) := by decide +kernel
theorem dX9_swap_33 : decode cX9_swap 33 = .ok (.invokevirtual 436, 3) := by decide +kernel
theorem dX9_swap_36 : decode cX9_swap 36 = .ok (.invokevirtual 427, 3) := by decide +kernel
theorem dX9_swap_39 : decode cX9_swap 39 = .ok (.ifCond .lt 7, 3) := by decide +kernel
theorem dX9_swap_42 : decode cX9_swap 42 = .ok (.iconst 1, 1) := by decide +kernel
theorem dX9_swap_43 : decode cX9_swap 43 = .ok (.goto 4, 3) := by decide +kernel
theorem dX9_swap_46 : decode cX9_swap 46 = .ok (.iconst 0, 1) := by decide +kernel
theorem dX9_swap_47 : decode cX9_swap 47 = .ok (.ireturn, 1) := by decide +kernel
theorem dX9_swaps_0 : decode cX9_swaps 0 = .ok (.aload_n 0, 1) := by decide +kernel
theorem dX9_swaps_1 : decode cX9_swaps 1 = .ok (.iload_n 1, 1) := by decide +kernel
theorem dX9_swaps_2 : decode cX9_swaps 2 = .ok (.iload_n 1, 1) := by decide +kernel
theorem dX9_swaps_3 : decode cX9_swaps 3 = .ok (.iconst 1, 1) := by decide +kernel
theorem dX9_swaps_4 : decode cX9_swaps 4 = .ok (.iadd, 1) := by decide +kernel
theorem dX9_swaps_5 : decode cX9_swaps 5 = .ok (.invokevirtual 409, 3) := by decide +kernel
theorem dX9_swaps_8 : decode cX9_swaps 8 = .ok (.aload_n 0, 1) := by decide +kernel
theorem dX9_swaps_9 : decode cX9_swaps 9 = .ok (.iload_n 1, 1) := by decide +kernel
theorem dX9_swaps_10 : decode cX9_swaps 10 = .ok (.invokevirtual 421, 3) := by decide +kernel
theorem dX9_swaps_13 : decode cX9_swaps 13 = .ok (.ireturn, 1) := by decide +kernel
theorem dX9_tell_0 : decode cX9_tell 0 = .ok (.aload_n 0, 1) := by decide +kernel
theorem dX9_tell_1 : decode cX9_tell 1 = .ok (.getfield 106, 3) := by decide +kernel
theorem dX9_tell_4 : decode cX9_tell 4 = .ok (.aload_n 0, 1) := by decide +kernel
theorem dX9_tell_5 : decode cX9_tell 5 = .ok (.getfield 532, 3) := by decide +kernel
theorem dX9_tell_8 : decode cX9_tell 8 = .ok (.iload_n 1, 1) := by decide +kernel
theorem dX9_tell_9 : decode cX9_tell 9 = .ok (.iastore, 1) := by decide +kernel
theorem dX9_tell_10 : decode cX9_tell 10 = .ok (.aload_n 0, 1) := by decide +kernel
theorem dX9_tell_11 : decode cX9_tell 11 = .ok (.dup, 1) := by decide +kernel
theorem dX9_tell_12 : decode cX9_tell 12 = .ok (.getfield 532, 3) := by decide +kernel
theorem dX9_tell_15 : decode cX9_tell 15 = .ok (.iconst 1, 1) := by decide +kernel
theorem dX9_tell_16 : decode cX9_tell 16 = .ok (.iadd, 1) := by decide +kernel
theorem dX9_tell_17 : decode cX9_tell 17 = .ok (.putfield 532, 3) := by decide +kernel
theorem dX9_tell_20 : decode cX9_tell 20 = .ok (.return_, 1) := by decide +kernel
theorem dX9_tellName_0 : decode cX9_tellName 0 = .ok (.iconst 0, 1) := by decide +kernel
theorem dX9_tellName_1 : decode cX9_tellName 1 = .ok (.istore_n 3, 1) := by decide +kernel
theorem dX9_tellName_2 : decode cX9_tellName 2 = .ok (.iload_n 3, 1) := by decide +kernel
theorem dX9_tellName_3 : decode cX9_tellName 3 = .ok (.lload_n 1, 1) := by decide +kernel
theorem dX9_tellName_4 : decode cX9_tellName 4 = .ok (.invokestatic 320, 3) := by decide +kernel
theorem dX9_tellName_7 : decode cX9_tellName 7 = .ok (.if_icmp .ge 21, 3) := by decide +kernel
theorem dX9_tellName_10 : decode cX9_tellName 10 = .ok (.aload_n 0, 1) := by decide +kernel
theorem dX9_tellName_11 : decode cX9_tellName 11 = .ok (.bipush 96, 2) := by decide +kernel
theorem dX9_tellName_13 : decode cX9_tellName 13 = .ok (.lload_n 1, 1) := by decide +kernel
theorem dX9_tellName_14 : decode cX9_tellName 14 = .ok (.iload_n 3, 1) := by decide +kernel
theorem dX9_tellName_15 : decode cX9_tellName 15 = .ok (.invokestatic 328, 3) := by decide +kernel
theorem dX9_tellName_18 : decode cX9_tellName 18 = .ok (.iadd, 1) := by decide +kernel
theorem dX9_tellName_19 : decode cX9_tellName 19 = .ok (.invokevirtual 535, 3) := by decide +kernel
theorem dX9_tellName_22 : decode cX9_tellName 22 = .ok (.iinc 3 1, 3) := by decide +kernel
theorem dX9_tellName_25 : decode cX9_tellName 25 = .ok (.goto (-23), 3) := by decide +kernel
theorem dX9_tellName_28 : decode cX9_tellName 28 = .ok (.return_, 1) := by decide +kernel
theorem dX9_tellSpot_0 : decode cX9_tellSpot 0 = .ok (.aload_n 0, 1) := by decide +kernel
theorem dX9_tellSpot_1 : decode cX9_tellSpot 1 = .ok (.getfield 54, 3) := by decide +kernel
theorem dX9_tellSpot_4 : decode cX9_tellSpot 4 = .ok (.iload_n 1, 1) := by decide +kernel
theorem dX9_tellSpot_5 : decode cX9_tellSpot 5 = .ok (.iaload, 1) := by decide +kernel
theorem dX9_tellSpot_6 : decode cX9_tellSpot 6 = .ok (.istore_n 2, 1) := by decide +kernel
theorem dX9_tellSpot_7 : decode cX9_tellSpot 7 = .ok (.iload_n 2, 1) := by decide +kernel
theorem dX9_tellSpot_8 : decode cX9_tellSpot 8 = .ok (.iconst (-1), 1) := by decide +kernel
theorem dX9_tellSpot_9 : decode cX9_tellSpot 9 = .ok (.if_icmp .ne 10, 3) := by decide +kernel
theorem dX9_tellSpot_12 : decode cX9_tellSpot 12 = .ok (.aload_n 0, 1) := by decide +kernel
theorem dX9_tellSpot_13 : decode cX9_tellSpot 13 = .ok (.bipush 46, 2) := by decide +kernel
theorem dX9_tellSpot_15 : decode cX9_tellSpot 15 = .ok (.invokevirtual 535, 3) := by decide +kernel
theorem dX9_tellSpot_18 : decode cX9_tellSpot 18 = .ok (.return_, 1) := by decide +kernel
theorem dX9_tellSpot_19 : decode cX9_tellSpot 19 = .ok (.aload_n 0, 1) := by decide +kernel
theorem dX9_tellSpot_20 : decode cX9_tellSpot 20 = .ok (.aload_n 0, 1) := by decide +kernel
theorem dX9_tellSpot_21 : decode cX9_tellSpot 21 = .ok (.getfield 35, 3) := by decide +kernel
theorem dX9_tellSpot_24 : decode cX9_tellSpot 24 = .ok (.iload_n 2, 1) := by decide +kernel
theorem dX9_tellSpot_25 : decode cX9_tellSpot 25 = .ok (.laload, 1) := by decide +kernel
theorem dX9_tellSpot_26 : decode cX9_tellSpot 26 = .ok (.invokevirtual 538, 3) := by decide +kernel
theorem dX9_tellSpot_29 : decode cX9_tellSpot 29 = .ok (.aload_n 0, 1) := by decide +kernel
theorem dX9_tellSpot_30 : decode cX9_tellSpot 30 = .ok (.getfield 60, 3) := by decide +kernel
theorem dX9_tellSpot_33 : decode cX9_tellSpot 33 = .ok (.iload_n 2, 1) := by decide +kernel
theorem dX9_tellSpot_34 : decode cX9_tellSpot 34 = .ok (.iaload, 1) := by decide +kernel
theorem dX9_tellSpot_35 : decode cX9_tellSpot 35 = .ok (.ifCond .ne 9, 3) := by decide +kernel
theorem dX9_tellSpot_38 : decode cX9_tellSpot 38 = .ok (.aload_n 0, 1) := by decide +kernel
theorem dX9_tellSpot_39 : decode cX9_tellSpot 39 = .ok (.bipush 33, 2) := by decide +kernel
theorem dX9_tellSpot_41 : decode cX9_tellSpot 41 = .ok (.invokevirtual 535, 3) := by decide +kernel
theorem dX9_tellSpot_44 : decode cX9_tellSpot 44 = .ok (.return_, 1) := by decide +kernel
theorem dX9_thrown_0 : decode cX9_thrown 0 = .ok (.aload_n 0, 1) := by decide +kernel
theorem dX9_thrown_1 : decode cX9_thrown 1 = .ok (.getfield 112, 3) := by decide +kernel
theorem dX9_thrown_4 : decode cX9_thrown 4 = .ok (.ireturn, 1) := by decide +kernel
theorem dX9_truncate_0 : decode cX9_truncate 0 = .ok (.aload_n 0, 1) := by decide +kernel
theorem dX9_truncate_1 : decode cX9_truncate 1 = .ok (.iload_n 1, 1) := by decide +kernel
theorem dX9_truncate_2 : decode cX9_truncate 2 = .ok (.i2l, 1) := by decide +kernel
theorem dX9_truncate_3 : decode cX9_truncate 3 = .ok (.lconst 0, 1) := by decide +kernel
theorem dX9_truncate_4 : decode cX9_truncate 4 = .ok (.aload_n 0, 1) := by decide +kernel
theorem dX9_truncate_5 : decode cX9_truncate 5 = .ok (.getfield 119, 3) := by decide +kernel
theorem dX9_truncate_8 : decode cX9_truncate 8 = .ok (.i2l, 1) := by decide +kernel
theorem dX9_truncate_9 : decode cX9_truncate 9 = .ok (.invokestatic 130, 3) := by decide +kernel
theorem dX9_truncate_12 : decode cX9_truncate 12 = .ok (.invokevirtual 122, 3) := by decide +kernel
theorem dX9_truncate_15 : decode cX9_truncate 15 = .ok (.ifCond .ne 5, 3) := by decide +kernel
theorem dX9_truncate_18 : decode cX9_truncate 18 = .ok (.iconst 0, 1) := by decide +kernel
theorem dX9_truncate_19 : decode cX9_truncate 19 = .ok (.ireturn, 1) := by decide +kernel
theorem dX9_truncate_20 : decode cX9_truncate 20 = .ok (.aload_n 0, 1) := by decide +kernel
theorem dX9_truncate_21 : decode cX9_truncate 21 = .ok (.iload_n 1, 1) := by decide +kernel
theorem dX9_truncate_22 : decode cX9_truncate 22 = .ok (.putfield 119, 3) := by decide +kernel
theorem dX9_truncate_25 : decode cX9_truncate 25 = .ok (.iload_n 1, 1) := by decide +kernel
theorem dX9_truncate_26 : decode cX9_truncate 26 = .ok (.ireturn, 1) := by decide +kernel
theorem dX9_truth_0 : decode cX9_truth 0 = .ok (.iload_n 0, 1) := by decide +kernel
theorem dX9_truth_1 : decode cX9_truth 1 = .ok (.ifCond .eq 7, 3) := by decide +kernel
theorem dX9_truth_4 : decode cX9_truth 4 = .ok (.iconst 1, 1) := by decide +kernel
theorem dX9_truth_5 : decode cX9_truth 5 = .ok (.goto 4, 3) := by decide +kernel
theorem dX9_truth_8 : decode cX9_truth 8 = .ok (.iconst 0, 1) := by decide +kernel
theorem dX9_truth_9 : decode cX9_truth 9 = .ok (.ireturn, 1) := by decide +kernel
theorem dX9_turn_0 : decode cX9_turn 0 = .ok (.aload_n 0, 1) := by decide +kernel
theorem dX9_turn_1 : decode cX9_turn 1 = .ok (.iload_n 1, 1) := by decide +kernel
theorem dX9_turn_2 : decode cX9_turn 2 = .ok (.invokestatic 441, 3) := by decide +kernel
theorem dX9_turn_5 : decode cX9_turn 5 = .ok (.invokevirtual 122, 3) := by decide +kernel
theorem dX9_turn_8 : decode cX9_turn 8 = .ok (.ifCond .ne 5, 3) := by decide +kernel
theorem dX9_turn_11 : decode cX9_turn 11 = .ok (.iconst 0, 1) := by decide +kernel
theorem dX9_turn_12 : decode cX9_turn 12 = .ok (.ireturn, 1) := by decide +kernel
theorem dX9_turn_13 : decode cX9_turn 13 = .ok (.aload_n 0, 1) := by decide +kernel
theorem dX9_turn_14 : decode cX9_turn 14 = .ok (.invokevirtual 271, 3) := by decide +kernel
theorem dX9_turn_17 : decode cX9_turn 17 = .ok (.aload_n 0, 1) := by decide +kernel
theorem dX9_turn_18 : decode cX9_turn 18 = .ok (.aload_n 0, 1) := by decide +kernel
theorem dX9_turn_19 : decode cX9_turn 19 = .ok (.iload_n 1, 1) := by decide +kernel
theorem dX9_turn_20 : decode cX9_turn 20 = .ok (.invokevirtual 444, 3) := by decide +kernel
theorem dX9_turn_23 : decode cX9_turn 23 = .ok (.invokevirtual 427, 3) := by decide +kernel
theorem dX9_turn_26 : decode cX9_turn 26 = .ok (.ireturn, 1) := by decide +kernel
theorem dX9_turnNow_0 : decode cX9_turnNow 0 = .ok (.aload_n 0, 1) := by decide +kernel
theorem dX9_turnNow_1 : decode cX9_turnNow 1 = .ok (.getfield 20, 3) := by decide +kernel
theorem dX9_turnNow_4 : decode cX9_turnNow 4 = .ok (.iconst 0, 1) := by decide +kernel
theorem dX9_turnNow_5 : decode cX9_turnNow 5 = .ok (.iaload, 1) := by decide +kernel
theorem dX9_turnNow_6 : decode cX9_turnNow 6 = .ok (.aload_n 0, 1) := by decide +kernel
theorem dX9_turnNow_7 : decode cX9_turnNow 7 = .ok (.invokevirtual 227, 3) := by decide +kernel
theorem dX9_turnNow_10 : decode cX9_turnNow 10 = .ok (.isub, 1) := by decide +kernel
theorem dX9_turnNow_11 : decode cX9_turnNow 11 = .ok (.ireturn, 1) := by decide +kernel
theorem dX9_turnedWish_0 : decode cX9_turnedWish 0 = .ok (.aload_n 0, 1) := by decide +kernel
theorem dX9_turnedWish_1 : decode cX9_turnedWish 1 = .ok (.aload_n 0, 1) := by decide +kernel
theorem dX9_turnedWish_2 : decode cX9_turnedWish 2 = .ok (.iload_n 1, 1) := by decide +kernel
theorem dX9_turnedWish_3 : decode cX9_turnedWish 3 = .ok (.invokevirtual 221, 3) := by decide +kernel
theorem dX9_turnedWish_6 : decode cX9_turnedWish 6 = .ok (.iload_n 2, 1) := by decide +kernel
theorem dX9_turnedWish_7 : decode cX9_turnedWish 7 = .ok (.iadd, 1) := by decide +kernel
theorem dX9_turnedWish_8 : decode cX9_turnedWish 8 = .ok (.invokevirtual 218, 3) := by decide +kernel
theorem dX9_turnedWish_11 : decode cX9_turnedWish 11 = .ok (.ireturn, 1) := by decide +kernel
theorem dX9_turns_0 : decode cX9_turns 0 = .ok (.iconst 0, 1) := by decide +kernel
theorem dX9_turns_1 : decode cX9_turns 1 = .ok (.istore_n 2, 1) := by decide +kernel
theorem dX9_turns_2 : decode cX9_turns 2 = .ok (.iload_n 2, 1) := by decide +kernel
theorem dX9_turns_3 : decode cX9_turns 3 = .ok (.aload_n 0, 1) := by decide +kernel
theorem dX9_turns_4 : decode cX9_turns 4 = .ok (.getfield 20, 3) := by decide +kernel
theorem dX9_turns_7 : decode cX9_turns 7 = .ok (.iconst 0, 1) := by decide +kernel
theorem dX9_turns_8 : decode cX9_turns 8 = .ok (.iaload, 1) := by decide +kernel
theorem dX9_turns_9 : decode cX9_turns 9 = .ok (.if_icmp .ge 28, 3) := by decide +kernel
theorem dX9_turns_12 : decode cX9_turns 12 = .ok (.aload_n 0, 1) := by decide +kernel
theorem dX9_turns_13 : decode cX9_turns 13 = .ok (.getfield 20, 3) := by decide +kernel
theorem dX9_turns_16 : decode cX9_turns 16 = .ok (.iconst 2, 1) := by decide +kernel
theorem dX9_turns_17 : decode cX9_turns 17 = .ok (.iload_n 2, 1) := by decide +kernel
theorem dX9_turns_18 : decode cX9_turns 18 = .ok (.iadd, 1) := by decide +kernel
theorem dX9_turns_19 : decode cX9_turns 19 = .ok (.aload_n 0, 1) := by decide +kernel
theorem dX9_turns_20 : decode cX9_turns 20 = .ok (.aload_n 0, 1) := by decide +kernel
theorem dX9_turns_21 : decode cX9_turns 21 = .ok (.iload_n 2, 1) := by decide +kernel
theorem dX9_turns_22 : decode cX9_turns 22 = .ok (.invokevirtual 221, 3) := by decide +kernel
theorem dX9_turns_25 : decode cX9_turns 25 = .ok (.iload_n 1, 1) := by decide +kernel
theorem dX9_turns_26 : decode cX9_turns 26 = .ok (.iadd, 1) := by decide +kernel
theorem dX9_turns_27 : decode cX9_turns 27 = .ok (.invokevirtual 218, 3) := by decide +kernel
theorem dX9_turns_30 : decode cX9_turns 30 = .ok (.iastore, 1) := by decide +kernel
theorem dX9_turns_31 : decode cX9_turns 31 = .ok (.iinc 2 1, 3) := by decide +kernel
theorem dX9_turns_34 : decode cX9_turns 34 = .ok (.goto (-32), 3) := by decide +kernel
theorem dX9_turns_37 : decode cX9_turns 37 = .ok (.aload_n 0, 1) := by decide +kernel
theorem dX9_turns_38 : decode cX9_turns 38 = .ok (.aload_n 0, 1) := by decide +kernel
theorem dX9_turns_39 : decode cX9_turns 39 = .ok (.bipush 7, 2) := by decide +kernel
theorem dX9_turns_41 : decode cX9_turns 41 = .ok (.invokevirtual 317, 3) := by decide +kernel
theorem dX9_turns_44 : decode cX9_turns 44 = .ok (.invokevirtual 421, 3) := by decide +kernel
theorem dX9_turns_47 : decode cX9_turns 47 = .ok (.ireturn, 1) := by decide +kernel
theorem dX9_undo_0 : decode cX9_undo 0 = .ok (.aload_n 0, 1) := by decide +kernel
theorem dX9_undo_1 : decode cX9_undo 1 = .ok (.iconst 0, 1) := by decide +kernel
theorem dX9_undo_2 : decode cX9_undo 2 = .ok (.putfield 112, 3) := by decide +kernel
theorem dX9_undo_5 : decode cX9_undo 5 = .ok (.aload_n 0, 1) := by decide +kernel
theorem dX9_undo_6 : decode cX9_undo 6 = .ok (.getfield 199, 3) := by decide +kernel
theorem dX9_undo_9 : decode cX9_undo 9 = .ok (.ifCond .ne 5, 3) := by decide +kernel
theorem dX9_undo_12 : decode cX9_undo 12 = .ok (.iconst (-1), 1) := by decide +kernel
theorem dX9_undo_13 : decode cX9_undo 13 = .ok (.ireturn, 1) := by decide +kernel
theorem dX9_undo_14 : decode cX9_undo 14 = .ok (.aload_n 0, 1) := by decide +kernel
theorem dX9_undo_15 : decode cX9_undo 15 = .ok (.dup, 1) := by decide +kernel
theorem dX9_undo_16 : decode cX9_undo 16 = .ok (.getfield 199, 3) := by decide +kernel
theorem dX9_undo_19 : decode cX9_undo 19 = .ok (.iconst 1, 1) := by decide +kernel
theorem dX9_undo_20 : decode cX9_undo 20 = .ok (.isub, 1) := by decide +kernel
theorem dX9_undo_21 : decode cX9_undo 21 = .ok (.putfield 199, 3) := by decide +kernel
theorem dX9_undo_24 : decode cX9_undo 24 = .ok (.aload_n 0, 1) := by decide +kernel
theorem dX9_undo_25 : decode cX9_undo 25 = .ok (.getfield 32, 3) := by decide +kernel
theorem dX9_undo_28 : decode cX9_undo 28 = .ok (.bipush 13, 2) := by decide +kernel
theorem dX9_undo_30 : decode cX9_undo 30 = .ok (.aload_n 0, 1) := by decide +kernel
theorem dX9_undo_31 : decode cX9_undo 31 = .ok (.getfield 199, 3) := by decide +kernel
theorem dX9_undo_34 : decode cX9_undo 34 = .ok (.imul, 1) := by decide +kernel
theorem dX9_undo_35 : decode cX9_undo 35 = .ok (.aload_n 0, 1) := by decide +kernel
