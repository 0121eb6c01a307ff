theorem dX4_init_0 : decode cX4_init 0 = .ok (.aload_n 0, 1) := by decide +kernel
theorem dX4_init_1 : decode cX4_init 1 = .ok (.invokespecial 1, 3) := by decide +kernel
theorem dX4_init_4 : decode cX4_init 4 = .ok (.aload_n 0, 1) := by decide +kernel
theorem dX4_init_5 : decode cX4_init 5 = .ok (.bipush 7, 2) := by decide +kernel
theorem dX4_init_7 : decode cX4_init 7 = .ok (.newarray .int, 2) := by decide +kernel
theorem dX4_init_9 : decode cX4_init 9 = .ok (.putfield 7, 3) := by decide +kernel
theorem dX4_init_12 : decode cX4_init 12 = .ok (.aload_n 0, 1) := by decide +kernel
theorem dX4_init_13 : decode cX4_init 13 = .ok (.bipush 56, 2) := by decide +kernel
theorem dX4_init_15 : decode cX4_init 15 = .ok (.newarray .int, 2) := by decide +kernel
theorem dX4_init_17 : decode cX4_init 17 = .ok (.putfield 13, 3) := by decide +kernel
theorem dX4_init_20 : decode cX4_init 20 = .ok (.aload_n 0, 1) := by decide +kernel
theorem dX4_init_21 : decode cX4_init 21 = .ok (.bipush 56, 2) := by decide +kernel
theorem dX4_init_23 : decode cX4_init 23 = .ok (.newarray .long, 2) := by decide +kernel
theorem dX4_init_25 : decode cX4_init 25 = .ok (.putfield 16, 3) := by decide +kernel
theorem dX4_init_28 : decode cX4_init 28 = .ok (.aload_n 0, 1) := by decide +kernel
theorem dX4_init_29 : decode cX4_init 29 = .ok (.bipush 7, 2) := by decide +kernel
theorem dX4_init_31 : decode cX4_init 31 = .ok (.newarray .boolean, 2) := by decide +kernel
theorem dX4_init_33 : decode cX4_init 33 = .ok (.putfield 20, 3) := by decide +kernel
theorem dX4_init_36 : decode cX4_init 36 = .ok (.aload_n 0, 1) := by decide +kernel
theorem dX4_init_37 : decode cX4_init 37 = .ok (.bipush 25, 2) := by decide +kernel
theorem dX4_init_39 : decode cX4_init 39 = .ok (.newarray .int, 2) := by decide +kernel
theorem dX4_init_41 : decode cX4_init 41 = .ok (.putfield 24, 3) := by decide +kernel
theorem dX4_init_44 : decode cX4_init 44 = .ok (.aload_n 0, 1) := by decide +kernel
theorem dX4_init_45 : decode cX4_init 45 = .ok (.bipush 25, 2) := by decide +kernel
theorem dX4_init_47 : decode cX4_init 47 = .ok (.newarray .int, 2) := by decide +kernel
theorem dX4_init_49 : decode cX4_init 49 = .ok (.putfield 27, 3) := by decide +kernel
theorem dX4_init_52 : decode cX4_init 52 = .ok (.aload_n 0, 1) := by decide +kernel
theorem dX4_init_53 : decode cX4_init 53 = .ok (.bipush 25, 2) := by decide +kernel
theorem dX4_init_55 : decode cX4_init 55 = .ok (.newarray .int, 2) := by decide +kernel
theorem dX4_init_57 : decode cX4_init 57 = .ok (.putfield 30, 3) := by decide +kernel
theorem dX4_init_60 : decode cX4_init 60 = .ok (.aload_n 0, 1) := by decide +kernel
theorem dX4_init_61 : decode cX4_init 61 = .ok (.bipush 25, 2) := by decide +kernel
theorem dX4_init_63 : decode cX4_init 63 = .ok (.newarray .int, 2) := by decide +kernel
theorem dX4_init_65 : decode cX4_init 65 = .ok (.putfield 33, 3) := by decide +kernel
theorem dX4_init_68 : decode cX4_init 68 = .ok (.aload_n 0, 1) := by decide +kernel
theorem dX4_init_69 : decode cX4_init 69 = .ok (.bipush 25, 2) := by decide +kernel
theorem dX4_init_71 : decode cX4_init 71 = .ok (.newarray .int, 2) := by decide +kernel
theorem dX4_init_73 : decode cX4_init 73 = .ok (.putfield 36, 3) := by decide +kernel
theorem dX4_init_76 : decode cX4_init 76 = .ok (.aload_n 0, 1) := by decide +kernel
theorem dX4_init_77 : decode cX4_init 77 = .ok (.bipush 25, 2) := by decide +kernel
theorem dX4_init_79 : decode cX4_init 79 = .ok (.newarray .int, 2) := by decide +kernel
theorem dX4_init_81 : decode cX4_init 81 = .ok (.putfield 39, 3) := by decide +kernel
theorem dX4_init_84 : decode cX4_init 84 = .ok (.aload_n 0, 1) := by decide +kernel
theorem dX4_init_85 : decode cX4_init 85 = .ok (.bipush 25, 2) := by decide +kernel
theorem dX4_init_87 : decode cX4_init 87 = .ok (.newarray .int, 2) := by decide +kernel
theorem dX4_init_89 : decode cX4_init 89 = .ok (.putfield 42, 3) := by decide +kernel
theorem dX4_init_92 : decode cX4_init 92 = .ok (.aload_n 0, 1) := by decide +kernel
theorem dX4_init_93 : decode cX4_init 93 = .ok (.bipush 25, 2) := by decide +kernel
theorem dX4_init_95 : decode cX4_init 95 = .ok (.newarray .int, 2) := by decide +kernel
theorem dX4_init_97 : decode cX4_init 97 = .ok (.putfield 45, 3) := by decide +kernel
theorem dX4_init_100 : decode cX4_init 100 = .ok (.aload_n 0, 1) := by decide +kernel
theorem dX4_init_101 : decode cX4_init 101 = .ok (.bipush 25, 2) := by decide +kernel
theorem dX4_init_103 : decode cX4_init 103 = .ok (.newarray .int, 2) := by decide +kernel
theorem dX4_init_105 : decode cX4_init 105 = .ok (.putfield 48, 3) := by decide +kernel
theorem dX4_init_108 : decode cX4_init 108 = .ok (.aload_n 0, 1) := by decide +kernel
theorem dX4_init_109 : decode cX4_init 109 = .ok (.sipush 200, 3) := by decide +kernel
theorem dX4_init_112 : decode cX4_init 112 = .ok (.newarray .int, 2) := by decide +kernel
theorem dX4_init_114 : decode cX4_init 114 = .ok (.putfield 51, 3) := by decide +kernel
theorem dX4_init_117 : decode cX4_init 117 = .ok (.aload_n 0, 1) := by decide +kernel
theorem dX4_init_118 : decode cX4_init 118 = .ok (.sipush 200, 3) := by decide +kernel
theorem dX4_init_121 : decode cX4_init 121 = .ok (.newarray .int, 2) := by decide +kernel
theorem dX4_init_123 : decode cX4_init 123 = .ok (.putfield 54, 3) := by decide +kernel
theorem dX4_init_126 : decode cX4_init 126 = .ok (.aload_n 0, 1) := by decide +kernel
theorem dX4_init_127 : decode cX4_init 127 = .ok (.sipush 200, 3) := by decide +kernel
theorem dX4_init_130 : decode cX4_init 130 = .ok (.newarray .int, 2) := by decide +kernel
theorem dX4_init_132 : decode cX4_init 132 = .ok (.putfield 57, 3) := by decide +kernel
theorem dX4_init_135 : decode cX4_init 135 = .ok (.aload_n 0, 1) := by decide +kernel
theorem dX4_init_136 : decode cX4_init 136 = .ok (.sipush 200, 3) := by decide +kernel
theorem dX4_init_139 : decode cX4_init 139 = .ok (.newarray .long, 2) := by decide +kernel
theorem dX4_init_141 : decode cX4_init 141 = .ok (.putfield 60, 3) := by decide +kernel
theorem dX4_init_144 : decode cX4_init 144 = .ok (.aload_n 0, 1) := by decide +kernel
theorem dX4_init_145 : decode cX4_init 145 = .ok (.sipush 400, 3) := by decide +kernel
theorem dX4_init_148 : decode cX4_init 148 = .ok (.newarray .int, 2) := by decide +kernel
theorem dX4_init_150 : decode cX4_init 150 = .ok (.putfield 63, 3) := by decide +kernel
theorem dX4_init_153 : decode cX4_init 153 = .ok (.aload_n 0, 1) := by decide +kernel
theorem dX4_init_154 : decode cX4_init 154 = .ok (.sipush 400, 3) := by decide +kernel
theorem dX4_init_157 : decode cX4_init 157 = .ok (.newarray .int, 2) := by decide +kernel
theorem dX4_init_159 : decode cX4_init 159 = .ok (.putfield 66, 3) := by decide +kernel
theorem dX4_init_162 : decode cX4_init 162 = .ok (.aload_n 0, 1) := by decide +kernel
theorem dX4_init_163 : decode cX4_init 163 = .ok (.sipush 400, 3) := by decide +kernel
theorem dX4_init_166 : decode cX4_init 166 = .ok (.newarray .int, 2) := by decide +kernel
theorem dX4_init_168 : decode cX4_init 168 = .ok (.putfield 69, 3) := by decide +kernel
theorem dX4_init_171 : decode cX4_init 171 = .ok (.aload_n 0, 1) := by decide +kernel
theorem dX4_init_172 : decode cX4_init 172 = .ok (.sipush 400, 3) := by decide +kernel
theorem dX4_init_175 : decode cX4_init 175 = .ok (.newarray .int, 2) := by decide +kernel
theorem dX4_init_177 : decode cX4_init 177 = .ok (.putfield 72, 3) := by decide +kernel
theorem dX4_init_180 : decode cX4_init 180 = .ok (.aload_n 0, 1) := by decide +kernel
theorem dX4_init_181 : decode cX4_init 181 = .ok (.sipush 3200, 3) := by decide +kernel
theorem dX4_init_184 : decode cX4_init 184 = .ok (.newarray .int, 2) := by decide +kernel
theorem dX4_init_186 : decode cX4_init 186 = .ok (.putfield 75, 3) := by decide +kernel
theorem dX4_init_189 : decode cX4_init 189 = .ok (.aload_n 0, 1) := by decide +kernel
theorem dX4_init_190 : decode cX4_init 190 = .ok (.sipush 400, 3) := by decide +kernel
theorem dX4_init_193 : decode cX4_init 193 = .ok (.newarray .long, 2) := by decide +kernel
theorem dX4_init_195 : decode cX4_init 195 = .ok (.putfield 78, 3) := by decide +kernel
theorem dX4_init_198 : decode cX4_init 198 = .ok (.aload_n 0, 1) := by decide +kernel
theorem dX4_init_199 : decode cX4_init 199 = .ok (.sipush 3200, 3) := by decide +kernel
theorem dX4_init_202 : decode cX4_init 202 = .ok (.newarray .long, 2) := by decide +kernel
theorem dX4_init_204 : decode cX4_init 204 = .ok (.putfield 81, 3) := by decide +kernel
theorem dX4_init_207 : decode cX4_init 207 = .ok (.aload_n 0, 1) := by decide +kernel
theorem dX4_init_208 : decode cX4_init 208 = .ok (.bipush 8, 2) := by decide +kernel
theorem dX4_init_210 : decode cX4_init 210 = .ok (.newarray .int, 2) := by decide +kernel
theorem dX4_init_212 : decode cX4_init 212 = .ok (.putfield 84, 3) := by decide +kernel
theorem dX4_init_215 : decode cX4_init 215 = .ok (.aload_n 0, 1) := by decide +kernel
theorem dX4_init_216 : decode cX4_init 216 = .ok (.bipush 8, 2) := by decide +kernel
theorem dX4_init_218 : decode cX4_init 218 = .ok (.newarray .long, 2) := by decide +kernel
theorem dX4_init_220 : decode cX4_init 220 = .ok (.putfield 87, 3) := by decide +kernel
theorem dX4_init_223 : decode cX4_init 223 = .ok (.aload_n 0, 1) := by decide +kernel
theorem dX4_init_224 : decode cX4_init 224 = .ok (.iload_n 1, 1) := by decide +kernel
theorem dX4_init_225 : decode cX4_init 225 = .ok (.iconst 1, 1) := by decide +kernel
theorem dX4_init_226 : decode cX4_init 226 = .ok (.if_icmp .ge 7, 3) := by decide +kernel
theorem dX4_init_229 : decode cX4_init 229 = .ok (.iconst 1, 1) := by decide +kernel
theorem dX4_init_230 : decode cX4_init 230 = .ok (.goto 15, 3) := by decide +kernel
theorem dX4_init_233 : decode cX4_init 233 = .ok (.iload_n 1, 1) := by decide +kernel
theorem dX4_init_234 : decode cX4_init 234 = .ok (.bipush 7, 2) := by decide +kernel
theorem dX4_init_236 : decode cX4_init 236 = .ok (.if_icmp .le 8, 3) := by decide +kernel
theorem dX4_init_239 : decode cX4_init 239 = .ok (.bipush 7, 2) := by decide +kernel
theorem dX4_init_241 : decode cX4_init 241 = .ok (.goto 4, 3) := by decide +kernel
theorem dX4_init_244 : decode cX4_init 244 = .ok (.iload_n 1, 1) := by decide +kernel
theorem dX4_init_245 : decode cX4_init 245 = .ok (.putfield 90, 3) := by decide +kernel
theorem dX4_init_248 : decode cX4_init 248 = .ok (.return_, 1) := by decide +kernel
theorem dX4_isVoter_0 : decode cX4_isVoter 0 = .ok (.iload_n 1, 1) := by decide +kernel
theorem dX4_isVoter_1 : decode cX4_isVoter 1 = .ok (.ifCond .lt 15, 3) := by decide +kernel
theorem dX4_isVoter_4 : decode cX4_isVoter 4 = .ok (.iload_n 1, 1) := by decide +kernel
theorem dX4_isVoter_5 : decode cX4_isVoter 5 = .ok (.aload_n 0, 1) := by decide +kernel
theorem dX4_isVoter_6 : decode cX4_isVoter 6 = .ok (.getfield 90, 3) := by decide +kernel
theorem dX4_isVoter_9 : decode cX4_isVoter 9 = .ok (.if_icmp .ge 7, 3) := by decide +kernel
theorem dX4_isVoter_12 : decode cX4_isVoter 12 = .ok (.iconst 1, 1) := by decide +kernel
theorem dX4_isVoter_13 : decode cX4_isVoter 13 = .ok (.goto 4, 3) := by decide +kernel
theorem dX4_isVoter_16 : decode cX4_isVoter 16 = .ok (.iconst 0, 1) := by decide +kernel
theorem dX4_isVoter_17 : decode cX4_isVoter 17 = .ok (.ireturn, 1) := by decide +kernel
theorem dX4_isBallot_0 : decode cX4_isBallot 0 = .ok (.iload_n 1, 1) := by decide +kernel
theorem dX4_isBallot_1 : decode cX4_isBallot 1 = .ok (.iconst 1, 1) := by decide +kernel
theorem dX4_isBallot_2 : decode cX4_isBallot 2 = .ok (.if_icmp .lt 15, 3) := by decide +kernel
theorem dX4_isBallot_5 : decode cX4_isBallot 5 = .ok (.iload_n 1, 1) := by decide +kernel
theorem dX4_isBallot_6 : decode cX4_isBallot 6 = .ok (.aload_n 0, 1) := by decide +kernel
theorem dX4_isBallot_7 : decode cX4_isBallot 7 = .ok (.getfield 94, 3) := by decide +kernel
theorem dX4_isBallot_10 : decode cX4_isBallot 10 = .ok (.if_icmp .gt 7, 3) := by decide +kernel
theorem dX4_isBallot_13 : decode cX4_isBallot 13 = .ok (.iconst 1, 1) := by decide +kernel
theorem dX4_isBallot_14 : decode cX4_isBallot 14 = .ok (.goto 4, 3) := by decide +kernel
theorem dX4_isBallot_17 : decode cX4_isBallot 17 = .ok (.iconst 0, 1) := by decide +kernel
theorem dX4_isBallot_18 : decode cX4_isBallot 18 = .ok (.ireturn, 1) := by decide +kernel
theorem dX4_isPlace_0 : decode cX4_isPlace 0 = .ok (.iload_n 0, 1) := by decide +kernel
theorem dX4_isPlace_1 : decode cX4_isPlace 1 = .ok (.ifCond .lt 13, 3) := by decide +kernel
theorem dX4_isPlace_4 : decode cX4_isPlace 4 = .ok (.iload_n 0, 1) := by decide +kernel
theorem dX4_isPlace_5 : decode cX4_isPlace 5 = .ok (.bipush 8, 2) := by decide +kernel
theorem dX4_isPlace_7 : decode cX4_isPlace 7 = .ok (.if_icmp .ge 7, 3) := by decide +kernel
theorem dX4_isPlace_10 : decode cX4_isPlace 10 = .ok (.iconst 1, 1) := by decide +kernel
theorem dX4_isPlace_11 : decode cX4_isPlace 11 = .ok (.goto 4, 3) := by decide +kernel
theorem dX4_isPlace_14 : decode cX4_isPlace 14 = .ok (.iconst 0, 1) := by decide +kernel
theorem dX4_isPlace_15 : decode cX4_isPlace 15 = .ok (.ireturn, 1) := by decide +kernel
theorem dX4_many_0 : decode cX4_many 0 = .ok (.iconst 0, 1) := by decide +kernel
theorem dX4_many_1 : decode cX4_many 1 = .ok (.istore_n 1, 1) := by decide +kernel
theorem dX4_many_2 : decode cX4_many 2 = .ok (.iconst 0, 1) := by decide +kernel
theorem dX4_many_3 : decode cX4_many 3 = .ok (.istore_n 2, 1) := by decide +kernel
theorem dX4_many_4 : decode cX4_many 4 = .ok (.iload_n 2, 1) := by decide +kernel
theorem dX4_many_5 : decode cX4_many 5 = .ok (.bipush 7, 2) := by decide +kernel
theorem dX4_many_7 : decode cX4_many 7 = .ok (.if_icmp .ge 17, 3) := by decide +kernel
theorem dX4_many_10 : decode cX4_many 10 = .ok (.iload_n 1, 1) := by decide +kernel
theorem dX4_many_11 : decode cX4_many 11 = .ok (.iload_n 0, 1) := by decide +kernel
theorem dX4_many_12 : decode cX4_many 12 = .ok (.iload_n 2, 1) := by decide +kernel
theorem dX4_many_13 : decode cX4_many 13 = .ok (.ishr, 1) := by decide +kernel
theorem dX4_many_14 : decode cX4_many 14 = .ok (.iconst 1, 1) := by decide +kernel
theorem dX4_many_15 : decode cX4_many 15 = .ok (.iand, 1) := by decide +kernel
theorem dX4_many_16 : decode cX4_many 16 = .ok (.iadd, 1) := by decide +kernel
theorem dX4_many_17 : decode cX4_many 17 = .ok (.istore_n 1, 1) := by decide +kernel
theorem dX4_many_18 : decode cX4_many 18 = .ok (.iinc 2 1, 3) := by decide +kernel
theorem dX4_many_21 : decode cX4_many 21 = .ok (.goto (-17), 3) := by decide +kernel
theorem dX4_many_24 : decode cX4_many 24 = .ok (.iload_n 1, 1) := by decide +kernel
theorem dX4_many_25 : decode cX4_many 25 = .ok (.ireturn, 1) := by decide +kernel
theorem dX4_put_0 : decode cX4_put 0 = .ok (.aload_n 0, 1) := by decide +kernel
theorem dX4_put_1 : decode cX4_put 1 = .ok (.getfield 97, 3) := by decide +kernel
theorem dX4_put_4 : decode cX4_put 4 = .ok (.sipush 400, 3) := by decide +kernel
theorem dX4_put_7 : decode cX4_put 7 = .ok (.if_icmp .ne 14, 3) := by decide +kernel
theorem dX4_put_10 : decode cX4_put 10 = .ok (.aload_n 0, 1) := by decide +kernel
theorem dX4_put_11 : decode cX4_put 11 = .ok (.dup, 1) := by decide +kernel
theorem dX4_put_12 : decode cX4_put 12 = .ok (.getfield 100, 3) := by decide +kernel
theorem dX4_put_15 : decode cX4_put 15 = .ok (.iconst 1, 1) := by decide +kernel
theorem dX4_put_16 : decode cX4_put 16 = .ok (.iadd, 1) := by decide +kernel
theorem dX4_put_17 : decode cX4_put 17 = .ok (.putfield 100, 3) := by decide +kernel
theorem dX4_put_20 : decode cX4_put 20 = .ok (.return_, 1) := by decide +kernel
theorem dX4_put_21 : decode cX4_put 21 = .ok (.aload_n 0, 1) := by decide +kernel
theorem dX4_put_22 : decode cX4_put 22 = .ok (.getfield 63, 3) := by decide +kernel
theorem dX4_put_25 : decode cX4_put 25 = .ok (.aload_n 0, 1) := by decide +kernel
theorem dX4_put_26 : decode cX4_put 26 = .ok (.getfield 97, 3) := by decide +kernel
theorem dX4_put_29 : decode cX4_put 29 = .ok (.iload_n 1, 1) := by decide +kernel
theorem dX4_put_30 : decode cX4_put 30 = .ok (.iastore, 1) := by decide +kernel
theorem dX4_put_31 : decode cX4_put 31 = .ok (.aload_n 0, 1) := by decide +kernel
theorem dX4_put_32 : decode cX4_put 32 = .ok (.getfield 66, 3) := by decide +kernel
theorem dX4_put_35 : decode cX4_put 35 = .ok (.aload_n 0, 1) := by decide +kernel
theorem dX4_put_36 : decode cX4_put 36 = .ok (.getfield 97, 3) := by decide +kernel
theorem dX4_put_39 : decode cX4_put 39 = .ok (.iload_n 2, 1) := by decide +kernel
theorem dX4_put_40 : decode cX4_put 40 = .ok (.iastore, 1) := by decide +kernel
theorem dX4_put_41 : decode cX4_put 41 = .ok (.aload_n 0, 1) := by decide +kernel
theorem dX4_put_42 : decode cX4_put 42 = .ok (.getfield 69, 3) := by decide +kernel
theorem dX4_put_45 : decode cX4_put 45 = .ok (.aload_n 0, 1) := by decide +kernel
theorem dX4_put_46 : decode cX4_put 46 = .ok (.getfield 97, 3) := by decide +kernel
theorem dX4_put_49 : decode cX4_put 49 = .ok (.iload_n 3, 1) := by decide +kernel
theorem dX4_put_50 : decode cX4_put 50 = .ok (.iastore, 1) := by decide +kernel
theorem dX4_put_51 : decode cX4_put 51 = .ok (.aload_n 0, 1) := by decide +kernel
theorem dX4_put_52 : decode cX4_put 52 = .ok (.getfield 72, 3) := by decide +kernel
theorem dX4_put_55 : decode cX4_put 55 = .ok (.aload_n 0, 1) := by decide +kernel
theorem dX4_put_56 : decode cX4_put 56 = .ok (.getfield 97, 3) := by decide +kernel
theorem dX4_put_59 : decode cX4_put 59 = .ok (.iload 4, 2) := by decide +kernel
theorem dX4_put_61 : decode cX4_put 61 = .ok (.iastore, 1) := by decide +kernel
theorem dX4_put_62 : decode cX4_put 62 = .ok (.aload_n 0, 1) := by decide +kernel
theorem dX4_put_63 : decode cX4_put 63 = .ok (.getfield 78, 3) := by decide +kernel
theorem dX4_put_66 : decode cX4_put 66 = .ok (.aload_n 0, 1) := by decide +kernel
theorem dX4_put_67 : decode cX4_put 67 = .ok (.getfield 97, 3) := by decide +kernel
theorem dX4_put_70 : decode cX4_put 70 = .ok (.lload 5, 2) := by decide +kernel
theorem dX4_put_72 : decode cX4_put 72 = .ok (.lastore, 1) := by decide +kernel
theorem dX4_put_73 : decode cX4_put 73 = .ok (.iconst 0, 1) := by decide +kernel
theorem dX4_put_74 : decode cX4_put 74 = .ok (.istore 7, 2) := by decide +kernel
theorem dX4_put_76 : decode cX4_put 76 = .ok (.iload 7, 2) := by decide +kernel
theorem dX4_put_78 : decode cX4_put 78 = .ok (.bipush 8, 2) := by decide +kernel
theorem dX4_put_80 : decode cX4_put 80 = .ok (.if_icmp .ge 81, 3) := by decide +kernel
theorem dX4_put_83 : decode cX4_put 83 = .ok (.aload_n 0, 1) := by decide +kernel
theorem dX4_put_84 : decode cX4_put 84 = .ok (.getfield 75, 3) := by decide +kernel
theorem dX4_put_87 : decode cX4_put 87 = .ok (.bipush 8, 2) := by decide +kernel
theorem dX4_put_89 : decode cX4_put 89 = .ok (.aload_n 0, 1) := by decide +kernel
theorem dX4_put_90 : decode cX4_put 90 = .ok (.getfield 97, 3) := by decide +kernel
theorem dX4_put_93 : decode cX4_put 93 = .ok (.imul, 1) := by decide +kernel
theorem dX4_put_94 : decode cX4_put 94 = .ok (.iload 7, 2) := by decide +kernel
theorem dX4_put_96 : decode cX4_put 96 = .ok (.iadd, 1) := by decide +kernel
theorem dX4_put_97 : decode cX4_put 97 = .ok (.iload_n 1, 1) := by decide +kernel
theorem dX4_put_98 : decode cX4_put 98 = .ok (.iconst 3, 1) := by decide +kernel
theorem dX4_put_99 : decode cX4_put 99 = .ok (.if_icmp .ne 18, 3) := by decide +kernel
theorem dX4_put_102 : decode cX4_put 102 = .ok (.aload_n 0, 1) := by decide +kernel
theorem dX4_put_103 : decode cX4_put 103 = .ok (.getfield 13, 3) := by decide +kernel
theorem dX4_put_106 : decode cX4_put 106 = .ok (.bipush 8, 2) := by decide +kernel
theorem dX4_put_108 : decode cX4_put 108 = .ok (.iload_n 3, 1) := by decide +kernel
theorem dX4_put_109 : decode cX4_put 109 = .ok (.imul, 1) := by decide +kernel
theorem dX4_put_110 : decode cX4_put 110 = .ok (.iload 7, 2) := by decide +kernel
theorem dX4_put_112 : decode cX4_put 112 = .ok (.iadd, 1) := by decide +kernel
theorem dX4_put_113 : decode cX4_put 113 = .ok (.iaload, 1) := by decide +kernel
theorem dX4_put_114 : decode cX4_put 114 = .ok (.goto 4, 3) := by decide +kernel
theorem dX4_put_117 : decode cX4_put 117 = .ok (.iconst 0, 1) := by decide +kernel
theorem dX4_put_118 : decode cX4_put 118 = .ok (.iastore, 1) := by decide +kernel
theorem dX4_put_119 : decode cX4_put 119 = .ok (.aload_n 0, 1) := by decide +kernel
theorem dX4_put_120 : decode cX4_put 120 = .ok (.getfield 81, 3) := by decide +kernel
theorem dX4_put_123 : decode cX4_put 123 = .ok (.bipush 8, 2) := by decide +kernel
theorem dX4_put_125 : decode cX4_put 125 = .ok (.aload_n 0, 1) := by decide +kernel
theorem dX4_put_126 : decode cX4_put 126 = .ok (.getfield 97, 3) := by decide +kernel
theorem dX4_put_129 : decode cX4_put 129 = .ok (.imul, 1) := by decide +kernel
theorem dX4_put_130 : decode cX4_put 130 = .ok (.iload 7, 2) := by decide +kernel
theorem dX4_put_132 : decode cX4_put 132 = .ok (.iadd, 1) := by decide +kernel
theorem dX4_put_133 : decode cX4_put 133 = .ok (.iload_n 1, 1) := by decide +kernel
theorem dX4_put_134 : decode cX4_put 134 = .ok (.iconst 3, 1) := by decide +kernel
theorem dX4_put_135 : decode cX4_put 135 = .ok (.if_icmp .ne 18, 3) := by decide +kernel
theorem dX4_put_138 : decode cX4_put 138 = .ok (.aload_n 0, 1) := by decide +kernel
theorem dX4_put_139 : decode cX4_put 139 = .ok (.getfield 16, 3) := by decide +kernel
theorem dX4_put_142 : decode cX4_put 142 = .ok (.bipush 8, 2) := by decide +kernel
theorem dX4_put_144 : decode cX4_put 144 = .ok (.iload_n 3, 1) := by decide +kernel
theorem dX4_put_145 : decode cX4_put 145 = .ok (.imul, 1) := by decide +kernel
theorem dX4_put_146 : decode cX4_put 146 = .ok (.iload 7, 2) := by decide +kernel
theorem dX4_put_148 : decode cX4_put 148 = .ok (.iadd, 1) := by decide +kernel
theorem dX4_put_149 : decode cX4_put 149 = .ok (.laload, 1) := by decide +kernel
theorem dX4_put_150 : decode cX4_put 150 = .ok (.goto 4, 3) := by decide +kernel
theorem dX4_put_153 : decode cX4_put 153 = .ok (.lconst 0, 1) := by decide +kernel
theorem dX4_put_154 : decode cX4_put 154 = .ok (.lastore, 1) := by decide +kernel
theorem dX4_put_155 : decode cX4_put 155 = .ok (.iinc 7 1, 3) := by decide +kernel
theorem dX4_put_158 : decode cX4_put 158 = .ok (.goto (-82), 3) := by decide +kernel
theorem dX4_put_161 : decode cX4_put 161 = .ok (.aload_n 0, 1) := by decide +kernel
theorem dX4_put_162 : decode cX4_put 162 = .ok (.dup, 1) := by decide +kernel
theorem dX4_put_163 : decode cX4_put 163 = .ok (.getfield 97, 3) := by decide +kernel
theorem dX4_put_166 : decode cX4_put 166 = .ok (.iconst 1, 1) := by decide +kernel
theorem dX4_put_167 : decode cX4_put 167 = .ok (.iadd, 1) := by decide +kernel
theorem dX4_put_168 : decode cX4_put 168 = .ok (.putfield 97, 3) := by decide +kernel
theorem dX4_put_171 : decode cX4_put 171 = .ok (.return_, 1) := by decide +kernel
theorem dX4_copy_0 : decode cX4_copy 0 = .ok (.aload_n 0, 1) := by decide +kernel
theorem dX4_copy_1 : decode cX4_copy 1 = .ok (.getfield 63, 3) := by decide +kernel
theorem dX4_copy_4 : decode cX4_copy 4 = .ok (.iload_n 2, 1) := by decide +kernel
theorem dX4_copy_5 : decode cX4_copy 5 = .ok (.aload_n 0, 1) := by decide +kernel
theorem dX4_copy_6 : decode cX4_copy 6 = .ok (.getfield 63, 3) := by decide +kernel
theorem dX4_copy_9 : decode cX4_copy 9 = .ok (.iload_n 1, 1) := by decide +kernel
theorem dX4_copy_10 : decode cX4_copy 10 = .ok (.iaload, 1) := by decide +kernel
theorem dX4_copy_11 : decode cX4_copy 11 = .ok (.iastore, 1) := by decide +kernel
theorem dX4_copy_12 : decode cX4_copy 12 = .ok (.aload_n 0, 1) := by decide +kernel
theorem dX4_copy_13 : decode cX4_copy 13 = .ok (.getfield 66, 3) := by decide +kernel
theorem dX4_copy_16 : decode cX4_copy 16 = .ok (.iload_n 2, 1) := by decide +kernel
theorem dX4_copy_17 : decode cX4_copy 17 = .ok (.aload_n 0, 1) := by decide +kernel
theorem dX4_copy_18 : decode cX4_copy 18 = .ok (.getfield 66, 3) := by decide +kernel
theorem dX4_copy_21 : decode cX4_copy 21 = .ok (.iload_n 1, 1) := by decide +kernel
theorem dX4_copy_22 : decode cX4_copy 22 = .ok (.iaload, 1) := by decide +kernel
theorem dX4_copy_23 : decode cX4_copy 23 = .ok (.iastore, 1) := by decide +kernel
theorem dX4_copy_24 : decode cX4_copy 24 = .ok (.aload_n 0, 1) := by decide +kernel
theorem dX4_copy_25 : decode cX4_copy 25 = .ok (.getfield 69, 3) := by decide +kernel
theorem dX4_copy_28 : decode cX4_copy 28 = .ok (.iload_n 2, 1) := by decide +kernel
theorem dX4_copy_29 : decode cX4_copy 29 = .ok (.aload_n 0, 1) := by decide +kernel
theorem dX4_copy_30 : decode cX4_copy 30 = .ok (.getfield 69, 3) := by decide +kernel
theorem dX4_copy_33 : decode cX4_copy 33 = .ok (.iload_n 1, 1) := by decide +kernel
theorem dX4_copy_34 : decode cX4_copy 34 = .ok (.iaload, 1) := by decide +kernel
theorem dX4_copy_35 : decode cX4_copy 35 = .ok (.iastore, 1) := by decide +kernel
theorem dX4_copy_36 : decode cX4_copy 36 = .ok (.aload_n 0, 1) := by decide +kernel
theorem dX4_copy_37 : decode cX4_copy 37 = .ok (.getfield 72, 3) := by decide +kernel
theorem dX4_copy_40 : decode cX4_copy 40 = .ok (.iload_n 2, 1) := by decide +kernel
theorem dX4_copy_41 : decode cX4_copy 41 = .ok (.aload_n 0, 1) := by decide +kernel
theorem dX4_copy_42 : decode cX4_copy 42 = .ok (.getfield 72, 3) := by decide +kernel
theorem dX4_copy_45 : decode cX4_copy 45 = .ok (.iload_n 1, 1) := by decide +kernel
theorem dX4_copy_46 : decode cX4_copy 46 = .ok (.iaload, 1) := by decide +kernel
theorem dX4_copy_47 : decode cX4_copy 47 = .ok (.iastore, 1) := by decide +kernel
theorem dX4_copy_48 : decode cX4_copy 48 = .ok (.aload_n 0, 1) := by decide +kernel
theorem dX4_copy_49 : decode cX4_copy 49 = .ok (.getfield 78, 3) := by decide +kernel
theorem dX4_copy_52 : decode cX4_copy 52 = .ok (.iload_n 2, 1) := by decide +kernel
theorem dX4_copy_53 : decode cX4_copy 53 = .ok (.aload_n 0, 1) := by decide +kernel
theorem dX4_copy_54 : decode cX4_copy 54 = .ok (.getfield 78, 3) := by decide +kernel
theorem dX4_copy_57 : decode cX4_copy 57 = .ok (.iload_n 1, 1) := by decide +kernel
theorem dX4_copy_58 : decode cX4_copy 58 = .ok (.laload, 1) := by decide +kernel
theorem dX4_copy_59 : decode cX4_copy 59 = .ok (.lastore, 1) := by decide +kernel
theorem dX4_copy_60 : decode cX4_copy 60 = .ok (.iconst 0, 1) := by decide +kernel
theorem dX4_copy_61 : decode cX4_copy 61 = .ok (.istore_n 3, 1) := by decide +kernel
theorem dX4_copy_62 : decode cX4_copy 62 = .ok (.iload_n 3, 1) := by decide +kernel
theorem dX4_copy_63 : decode cX4_copy 63 = .ok (.bipush 8, 2) := by decide +kernel
theorem dX4_copy_65 : decode cX4_copy 65 = .ok (.if_icmp .ge 53, 3) := by decide +kernel
theorem dX4_copy_68 : decode cX4_copy 68 = .ok (.aload_n 0, 1) := by decide +kernel
theorem dX4_copy_69 : decode cX4_copy 69 = .ok (.getfield 75, 3) := by decide +kernel
theorem dX4_copy_72 : decode cX4_copy 72 = .ok (.bipush 8, 2) := by decide +kernel
theorem dX4_copy_74 : decode cX4_copy 74 = .ok (.iload_n 2, 1) := by decide +kernel
theorem dX4_copy_75 : decode cX4_copy 75 = .ok (.imul, 1) := by decide +kernel
theorem dX4_copy_76 : decode cX4_copy 76 = .ok (.iload_n 3, 1) := by decide +kernel
theorem dX4_copy_77 : decode cX4_copy 77 = .ok (.iadd, 1) := by decide +kernel
theorem dX4_copy_78 : decode cX4_copy 78 = .ok (.aload_n 0, 1) := by decide +kernel
theorem dX4_copy_79 : decode cX4_copy 79 = .ok (.getfield 75, 3) := by decide +kernel
theorem dX4_copy_82 : decode cX4_copy 82 = .ok (.bipush 8, 2) := by decide +kernel
theorem dX4_copy_84 : decode cX4_copy 84 = .ok (.iload_n 1, 1) := by decide +kernel
theorem dX4_copy_85 : decode cX4_copy 85 = .ok (.imul, 1) := by decide +kernel
theorem dX4_copy_86 : decode cX4_copy 86 = .ok (.iload_n 3, 1) := by decide +kernel
theorem dX4_copy_87 : decode cX4_copy 87 = .ok (.iadd, 1) := by decide +kernel
theorem dX4_copy_88 : decode cX4_copy 88 = .ok (.iaload, 1) := by decide +kernel
theorem dX4_copy_89 : decode cX4_copy 89 = .ok (.iastore, 1) := by decide +kernel
theorem dX4_copy_90 : decode cX4_copy 90 = .ok (.aload_n 0, 1) := by decide +kernel
theorem dX4_copy_91 : decode cX4_copy 91 = .ok (.getfield 81, 3) := by decide +kernel
theorem dX4_copy_94 : decode cX4_copy 94 = .ok (.bipush 8, 2) := by decide +kernel
theorem dX4_copy_96 : decode cX4_copy 96 = .ok (.iload_n 2, 1) := by decide +kernel
theorem dX4_copy_97 : decode cX4_copy 97 = .ok (.imul, 1) := by decide +kernel
theorem dX4_copy_98 : decode cX4_copy 98 = .ok (.iload_n 3, 1) := by decide +kernel
theorem dX4_copy_99 : decode cX4_copy 99 = .ok (.iadd, 1) := by decide +kernel
theorem dX4_copy_100 : decode cX4_copy 100 = .ok (.aload_n 0, 1) := by decide +kernel
theorem dX4_copy_101 : decode cX4_copy 101 = .ok (.getfield 81, 3) := by decide +kernel
theorem dX4_copy_104 : decode cX4_copy 104 = .ok (.bipush 8, 2) := by decide +kernel
theorem dX4_copy_106 : decode cX4_copy 106 = .ok (.iload_n 1, 1) := by decide +kernel
theorem dX4_copy_107 : decode cX4_copy 107 = .ok (.imul, 1) := by decide +kernel
theorem dX4_copy_108 : decode cX4_copy 108 = .ok (.iload_n 3, 1) := by decide +kernel
theorem dX4_copy_109 : decode cX4_copy 109 = .ok (.iadd, 1) := by decide +kernel
theorem dX4_copy_110 : decode cX4_copy 110 = .ok (.laload, 1) := by decide +kernel
theorem dX4_copy_111 : decode cX4_copy 111 = .ok (.lastore, 1) := by decide +kernel
theorem dX4_copy_112 : decode cX4_copy 112 = .ok (.iinc 3 1, 3) := by decide +kernel
theorem dX4_copy_115 : decode cX4_copy 115 = .ok (.goto (-53), 3) := by decide +kernel
theorem dX4_copy_118 : decode cX4_copy 118 = .ok (.return_, 1) := by decide +kernel
theorem dX4_take_0 : decode cX4_take 0 = .ok (.aload_n 0, 1) := by decide +kernel
theorem dX4_take_1 : decode cX4_take 1 = .ok (.dup, 1) := by decide +kernel
theorem dX4_take_2 : decode cX4_take 2 = .ok (.getfield 97, 3) := by decide +kernel
theorem dX4_take_5 : decode cX4_take 5 = .ok (.iconst 1, 1) := by decide +kernel
theorem dX4_take_6 : decode cX4_take 6 = .ok (.isub, 1) := by decide +kernel
theorem dX4_take_7 : decode cX4_take 7 = .ok (.putfield 97, 3) := by decide +kernel
theorem dX4_take_10 : decode cX4_take 10 = .ok (.iload_n 1, 1) := by decide +kernel
theorem dX4_take_11 : decode cX4_take 11 = .ok (.istore_n 2, 1) := by decide +kernel
theorem dX4_take_12 : decode cX4_take 12 = .ok (.iload_n 2, 1) := by decide +kernel
theorem dX4_take_13 : decode cX4_take 13 = .ok (.aload_n 0, 1) := by decide +kernel
theorem dX4_take_14 : decode cX4_take 14 = .ok (.getfield 97, 3) := by decide +kernel
theorem dX4_take_17 : decode cX4_take 17 = .ok (.if_icmp .ge 17, 3) := by decide +kernel
theorem dX4_take_20 : decode cX4_take 20 = .ok (.aload_n 0, 1) := by decide +kernel
theorem dX4_take_21 : decode cX4_take 21 = .ok (.iload_n 2, 1) := by decide +kernel
theorem dX4_take_22 : decode cX4_take 22 = .ok (.iconst 1, 1) := by decide +kernel
theorem dX4_take_23 : decode cX4_take 23 = .ok (.iadd, 1) := by decide +kernel
theorem dX4_take_24 : decode cX4_take 24 = .ok (.iload_n 2, 1) := by decide +kernel
theorem dX4_take_25 : decode cX4_take 25 = .ok (.invokevirtual 103, 3) := by decide +kernel
theorem dX4_take_28 : decode cX4_take 28 = .ok (.iinc 2 1, 3) := by decide +kernel
theorem dX4_take_31 : decode cX4_take 31 = .ok (.goto (-19), 3) := by decide +kernel
theorem dX4_take_34 : decode cX4_take 34 = .ok (.return_, 1) := by decide +kernel
theorem dX4_ballot_0 : decode cX4_ballot 0 = .ok (.iload_n 1, 1) := by decide +kernel
theorem dX4_ballot_1 : decode cX4_ballot 1 = .ok (.ifCond .lt 13, 3) := by decide +kernel
theorem dX4_ballot_4 : decode cX4_ballot 4 = .ok (.iload_n 1, 1) := by decide +kernel
theorem dX4_ballot_5 : decode cX4_ballot 5 = .ok (.iconst 1, 1) := by decide +kernel
theorem dX4_ballot_6 : decode cX4_ballot 6 = .ok (.aload_n 0, 1) := by decide +kernel
theorem dX4_ballot_7 : decode cX4_ballot 7 = .ok (.getfield 90, 3) := by decide +kernel
theorem dX4_ballot_10 : decode cX4_ballot 10 = .ok (.ishl, 1) := by decide +kernel
theorem dX4_ballot_11 : decode cX4_ballot 11 = .ok (.if_icmp .lt 7, 3) := by decide +kernel
theorem dX4_ballot_14 : decode cX4_ballot 14 = .ok (.iconst 0, 1) := by decide +kernel
theorem dX4_ballot_15 : decode cX4_ballot 15 = .ok (.goto 7, 3) := by decide +kernel
theorem dX4_ballot_18 : decode cX4_ballot 18 = .ok (.iload_n 1, 1) := by decide +kernel
theorem dX4_ballot_19 : decode cX4_ballot 19 = .ok (.invokestatic 107, 3) := by decide +kernel
theorem dX4_ballot_22 : decode cX4_ballot 22 = .ok (.istore 4, 2) := by decide +kernel
theorem dX4_ballot_24 : decode cX4_ballot 24 = .ok (.iload 4, 2) := by decide +kernel
theorem dX4_ballot_26 : decode cX4_ballot 26 = .ok (.ifCond .eq 42, 3) := by decide +kernel
theorem dX4_ballot_29 : decode cX4_ballot 29 = .ok (.iload_n 2, 1) := by decide +kernel
theorem dX4_ballot_30 : decode cX4_ballot 30 = .ok (.iconst 1, 1) := by decide +kernel
theorem dX4_ballot_31 : decode cX4_ballot 31 = .ok (.if_icmp .lt 37, 3) := by decide +kernel
theorem dX4_ballot_34 : decode cX4_ballot 34 = .ok (.iload_n 2, 1) := by decide +kernel
theorem dX4_ballot_35 : decode cX4_ballot 35 = .ok (.iload 4, 2) := by decide +kernel
theorem dX4_ballot_37 : decode cX4_ballot 37 = .ok (.if_icmp .gt 31, 3) := by decide +kernel
theorem dX4_ballot_40 : decode cX4_ballot 40 = .ok (.iload_n 3, 1) := by decide +kernel
theorem dX4_ballot_41 : decode cX4_ballot 41 = .ok (.iconst 1, 1) := by decide +kernel
theorem dX4_ballot_42 : decode cX4_ballot 42 = .ok (.if_icmp .lt 26, 3) := by decide +kernel
theorem dX4_ballot_45 : decode cX4_ballot 45 = .ok (.iload_n 3, 1) := by decide +kernel
theorem dX4_ballot_46 : decode cX4_ballot 46 = .ok (.iload 4, 2) := by decide +kernel
theorem dX4_ballot_48 : decode cX4_ballot 48 = .ok (.if_icmp .gt 20, 3) := by decide +kernel
theorem dX4_ballot_51 : decode cX4_ballot 51 = .ok (.iload_n 2, 1) := by decide +kernel
theorem dX4_ballot_52 : decode cX4_ballot 52 = .ok (.iload_n 3, 1) := by decide +kernel
theorem dX4_ballot_53 : decode cX4_ballot 53 = .ok (.iadd, 1) := by decide +kernel
theorem dX4_ballot_54 : decode cX4_ballot 54 = .ok (.iload 4, 2) := by decide +kernel
theorem dX4_ballot_56 : decode cX4_ballot 56 = .ok (.if_icmp .le 12, 3) := by decide +kernel
theorem dX4_ballot_59 : decode cX4_ballot 59 = .ok (.aload_n 0, 1) := by decide +kernel
theorem dX4_ballot_60 : decode cX4_ballot 60 = .ok (.getfield 94, 3) := by decide +kernel
theorem dX4_ballot_63 : decode cX4_ballot 63 = .ok (.bipush 24, 2) := by decide +kernel
theorem dX4_ballot_65 : decode cX4_ballot 65 = .ok (.if_icmp .ne 5, 3) := by decide +kernel
theorem dX4_ballot_68 : decode cX4_ballot 68 = .ok (.iconst (-1), 1) := by decide +kernel
theorem dX4_ballot_69 : decode cX4_ballot 69 = .ok (.ireturn, 1) := by decide +kernel
theorem dX4_ballot_70 : decode cX4_ballot 70 = .ok (.aload_n 0, 1) := by decide +kernel
theorem dX4_ballot_71 : decode cX4_ballot 71 = .ok (.dup, 1) := by decide +kernel
theorem dX4_ballot_72 : decode cX4_ballot 72 = .ok (.getfield 94, 3) := by decide +kernel
theorem dX4_ballot_75 : decode cX4_ballot 75 = .ok (.iconst 1, 1) := by decide +kernel
theorem dX4_ballot_76 : decode cX4_ballot 76 = .ok (.iadd, 1) := by decide +kernel
theorem dX4_ballot_77 : decode cX4_ballot 77 = .ok (.putfield 94, 3) := by decide +kernel
theorem dX4_ballot_80 : decode cX4_ballot 80 = .ok (.aload_n 0, 1) := by decide +kernel
theorem dX4_ballot_81 : decode cX4_ballot 81 = .ok (.getfield 27, 3) := by decide +kernel
theorem dX4_ballot_84 : decode cX4_ballot 84 = .ok (.aload_n 0, 1) := by decide +kernel
theorem dX4_ballot_85 : decode cX4_ballot 85 = .ok (.getfield 94, 3) := by decide +kernel
theorem dX4_ballot_88 : decode cX4_ballot 88 = .ok (.iload_n 1, 1) := by decide +kernel
theorem dX4_ballot_89 : decode cX4_ballot 89 = .ok (.iastore, 1) := by decide +kernel
theorem dX4_ballot_90 : decode cX4_ballot 90 = .ok (.aload_n 0, 1) := by decide +kernel
theorem dX4_ballot_91 : decode cX4_ballot 91 = .ok (.getfield 30, 3) := by decide +kernel
theorem dX4_ballot_94 : decode cX4_ballot 94 = .ok (.aload_n 0, 1) := by decide +kernel
theorem dX4_ballot_95 : decode cX4_ballot 95 = .ok (.getfield 94, 3) := by decide +kernel
theorem dX4_ballot_98 : decode cX4_ballot 98 = .ok (.iload_n 2, 1) := by decide +kernel
theorem dX4_ballot_99 : decode cX4_ballot 99 = .ok (.iastore, 1) := by decide +kernel
theorem dX4_ballot_100 : decode cX4_ballot 100 = .ok (.aload_n 0, 1) := by decide +kernel
theorem dX4_ballot_101 : decode cX4_ballot 101 = .ok (.getfield 33, 3) := by decide +kernel
theorem dX4_ballot_104 : decode cX4_ballot 104 = .ok (.aload_n 0, 1) := by decide +kernel
theorem dX4_ballot_105 : decode cX4_ballot 105 = .ok (.getfield 94, 3) := by decide +kernel
theorem dX4_ballot_108 : decode cX4_ballot 108 = .ok (.iload_n 3, 1) := by decide +kernel
theorem dX4_ballot_109 : decode cX4_ballot 109 = .ok (.iastore, 1) := by decide +kernel
theorem dX4_ballot_110 : decode cX4_ballot 110 = .ok (.aload_n 0, 1) := by decide +kernel
theorem dX4_ballot_111 : decode cX4_ballot 111 = .ok (.getfield 36, 3) := by decide +kernel
theorem dX4_ballot_114 : decode cX4_ballot 114 = .ok (.aload_n 0, 1) := by decide +kernel
theorem dX4_ballot_115 : decode cX4_ballot 115 = .ok (.getfield 94, 3) := by decide +kernel
theorem dX4_ballot_118 : decode cX4_ballot 118 = .ok (.aload_n 0, 1) := by decide +kernel
theorem dX4_ballot_119 : decode cX4_ballot 119 = .ok (.getfield 111, 3) := by decide +kernel
theorem dX4_ballot_122 : decode cX4_ballot 122 = .ok (.iastore, 1) := by decide +kernel
theorem dX4_ballot_123 : decode cX4_ballot 123 = .ok (.aload_n 0, 1) := by decide +kernel
theorem dX4_ballot_124 : decode cX4_ballot 124 = .ok (.iconst 1, 1) := by decide +kernel
theorem dX4_ballot_125 : decode cX4_ballot 125 = .ok (.aload_n 0, 1) := by decide +kernel
theorem dX4_ballot_126 : decode cX4_ballot 126 = .ok (.getfield 94, 3) := by decide +kernel
theorem dX4_ballot_129 : decode cX4_ballot 129 = .ok (.iconst (-1), 1) := by decide +kernel
theorem dX4_ballot_130 : decode cX4_ballot 130 = .ok (.iconst (-1), 1) := by decide +kernel
theorem dX4_ballot_131 : decode cX4_ballot 131 = .ok (.lconst 0, 1) := by decide +kernel
theorem dX4_ballot_132 : decode cX4_ballot 132 = .ok (.invokevirtual 114, 3) := by decide +kernel
theorem dX4_ballot_135 : decode cX4_ballot 135 = .ok (.aload_n 0, 1) := by decide +kernel
theorem dX4_ballot_136 : decode cX4_ballot 136 = .ok (.getfield 94, 3) := by decide +kernel
theorem dX4_ballot_139 : decode cX4_ballot 139 = .ok (.ireturn, 1) := by decide +kernel
theorem dX4_firstRead_0 : decode cX4_firstRead 0 = .ok (.aload_n 0, 1) := by decide +kernel
theorem dX4_firstRead_1 : decode cX4_firstRead 1 = .ok (.getfield 36, 3) := by decide +kernel
theorem dX4_firstRead_4 : decode cX4_firstRead 4 = .ok (.iload_n 1, 1) := by decide +kernel
theorem dX4_firstRead_5 : decode cX4_firstRead 5 = .ok (.iaload, 1) := by decide +kernel
theorem dX4_firstRead_6 : decode cX4_firstRead 6 = .ok (.ifCond .ne 7, 3) := by decide +kernel
theorem dX4_firstRead_9 : decode cX4_firstRead 9 = .ok (.iconst 1, 1) := by decide +kernel
theorem dX4_firstRead_10 : decode cX4_firstRead 10 = .ok (.goto 9, 3) := by decide +kernel
theorem dX4_firstRead_13 : decode cX4_firstRead 13 = .ok (.aload_n 0, 1) := by decide +kernel
theorem dX4_firstRead_14 : decode cX4_firstRead 14 = .ok (.getfield 36, 3) := by decide +kernel
theorem dX4_firstRead_17 : decode cX4_firstRead 17 = .ok (.iload_n 1, 1) := by decide +kernel
theorem dX4_firstRead_18 : decode cX4_firstRead 18 = .ok (.iaload, 1) := by decide +kernel
theorem dX4_firstRead_19 : decode cX4_firstRead 19 = .ok (.ireturn, 1) := by decide +kernel
theorem dX4_asked_0 : decode cX4_asked 0 = .ok (.iconst 0, 1) := by decide +kernel
theorem dX4_asked_1 : decode cX4_asked 1 = .ok (.istore_n 2, 1) := by decide +kernel
theorem dX4_asked_2 : decode cX4_asked 2 = .ok (.aload_n 0, 1) := by decide +kernel
theorem dX4_asked_3 : decode cX4_asked 3 = .ok (.iload_n 1, 1) := by decide +kernel
theorem dX4_asked_4 : decode cX4_asked 4 = .ok (.invokevirtual 118, 3) := by decide +kernel
theorem dX4_asked_7 : decode cX4_asked 7 = .ok (.istore_n 3, 1) := by decide +kernel
theorem dX4_asked_8 : decode cX4_asked 8 = .ok (.iload_n 3, 1) := by decide +kernel
theorem dX4_asked_9 : decode cX4_asked 9 = .ok (.iload_n 1, 1) := by decide +kernel
theorem dX4_asked_10 : decode cX4_asked 10 = .ok (.if_icmp .ge 18, 3) := by decide +kernel
theorem dX4_asked_13 : decode cX4_asked 13 = .ok (.iload_n 2, 1) := by decide +kernel
theorem dX4_asked_14 : decode cX4_asked 14 = .ok (.aload_n 0, 1) := by decide +kernel
theorem dX4_asked_15 : decode cX4_asked 15 = .ok (.getfield 27, 3) := by decide +kernel
theorem dX4_asked_18 : decode cX4_asked 18 = .ok (.iload_n 3, 1) := by decide +kernel
theorem dX4_asked_19 : decode cX4_asked 19 = .ok (.iaload, 1) := by decide +kernel
theorem dX4_asked_20 : decode cX4_asked 20 = .ok (.ior, 1) := by decide +kernel
theorem dX4_asked_21 : decode cX4_asked 21 = .ok (.istore_n 2, 1) := by decide +kernel
theorem dX4_asked_22 : decode cX4_asked 22 = .ok (.iinc 3 1, 3) := by decide +kernel
theorem dX4_asked_25 : decode cX4_asked 25 = .ok (.goto (-17), 3) := by decide +kernel
theorem dX4_asked_28 : decode cX4_asked 28 = .ok (.iload_n 2, 1) := by decide +kernel
theorem dX4_asked_29 : decode cX4_asked 29 = .ok (.ireturn, 1) := by decide +kernel
theorem dX4_sendReads_0 : decode cX4_sendReads 0 = .ok (.iconst 0, 1) := by decide +kernel
theorem dX4_sendReads_1 : decode cX4_sendReads 1 = .ok (.istore_n 2, 1) := by decide +kernel
theorem dX4_sendReads_2 : decode cX4_sendReads 2 = .ok (.iconst 0, 1) := by decide +kernel
theorem dX4_sendReads_3 : decode cX4_sendReads 3 = .ok (.istore_n 3, 1) := by decide +kernel
theorem dX4_sendReads_4 : decode cX4_sendReads 4 = .ok (.iload_n 3, 1) := by decide +kernel
theorem dX4_sendReads_5 : decode cX4_sendReads 5 = .ok (.aload_n 0, 1) := by decide +kernel
theorem dX4_sendReads_6 : decode cX4_sendReads 6 = .ok (.getfield 90, 3) := by decide +kernel
theorem dX4_sendReads_9 : decode cX4_sendReads 9 = .ok (.if_icmp .ge 45, 3) := by decide +kernel
theorem dX4_sendReads_12 : decode cX4_sendReads 12 = .ok (.aload_n 0, 1) := by decide +kernel
theorem dX4_sendReads_13 : decode cX4_sendReads 13 = .ok (.iload_n 1, 1) := by decide +kernel
theorem dX4_sendReads_14 : decode cX4_sendReads 14 = .ok (.invokevirtual 121, 3) := by decide +kernel
theorem dX4_sendReads_17 : decode cX4_sendReads 17 = .ok (.aload_n 0, 1) := by decide +kernel
theorem dX4_sendReads_18 : decode cX4_sendReads 18 = .ok (.getfield 39, 3) := by decide +kernel
theorem dX4_sendReads_21 : decode cX4_sendReads 21 = .ok (.iload_n 1, 1) := by decide +kernel
theorem dX4_sendReads_22 : decode cX4_sendReads 22 = .ok (.iaload, 1) := by decide +kernel
theorem dX4_sendReads_23 : decode cX4_sendReads 23 = .ok (.iconst (-1), 1) := by decide +kernel
theorem dX4_sendReads_24 : decode cX4_sendReads 24 = .ok (.ixor, 1) := by decide +kernel
theorem dX4_sendReads_25 : decode cX4_sendReads 25 = .ok (.iand, 1) := by decide +kernel
theorem dX4_sendReads_26 : decode cX4_sendReads 26 = .ok (.iconst 1, 1) := by decide +kernel
theorem dX4_sendReads_27 : decode cX4_sendReads 27 = .ok (.iload_n 3, 1) := by decide +kernel
theorem dX4_sendReads_28 : decode cX4_sendReads 28 = .ok (.ishl, 1) := by decide +kernel
theorem dX4_sendReads_29 : decode cX4_sendReads 29 = .ok (.iand, 1) := by decide +kernel
theorem dX4_sendReads_30 : decode cX4_sendReads 30 = .ok (.ifCond .ne 6, 3) := by decide +kernel
theorem dX4_sendReads_33 : decode cX4_sendReads 33 = .ok (.goto 15, 3) := by decide +kernel
theorem dX4_sendReads_36 : decode cX4_sendReads 36 = .ok (.aload_n 0, 1) := by decide +kernel
theorem dX4_sendReads_37 : decode cX4_sendReads 37 = .ok (.iconst 2, 1) := by decide +kernel
theorem dX4_sendReads_38 : decode cX4_sendReads 38 = .ok (.iload_n 1, 1) := by decide +kernel
theorem dX4_sendReads_39 : decode cX4_sendReads 39 = .ok (.iload_n 3, 1) := by decide +kernel
theorem dX4_sendReads_40 : decode cX4_sendReads 40 = .ok (.iconst (-1), 1) := by decide +kernel
theorem dX4_sendReads_41 : decode cX4_sendReads 41 = .ok (.lconst 0, 1) := by decide +kernel
theorem dX4_sendReads_42 : decode cX4_sendReads 42 = .ok (.invokevirtual 114, 3) := by decide +kernel
theorem dX4_sendReads_45 : decode cX4_sendReads 45 = .ok (.iinc 2 1, 3) := by decide +kernel
theorem dX4_sendReads_48 : decode cX4_sendReads 48 = .ok (.iinc 3 1, 3) := by decide +kernel
theorem dX4_sendReads_51 : decode cX4_sendReads 51 = .ok (.goto (-47), 3) := by decide +kernel
theorem dX4_sendReads_54 : decode cX4_sendReads 54 = .ok (.iload_n 2, 1) := by decide +kernel
theorem dX4_sendReads_55 : decode cX4_sendReads 55 = .ok (.ireturn, 1) := by decide +kernel
theorem dX4_sendVotes_0 : decode cX4_sendVotes 0 = .ok (.iconst 0, 1) := by decide +kernel
theorem dX4_sendVotes_1 : decode cX4_sendVotes 1 = .ok (.istore_n 3, 1) := by decide +kernel
theorem dX4_sendVotes_2 : decode cX4_sendVotes 2 = .ok (.iconst 0, 1) := by decide +kernel
theorem dX4_sendVotes_3 : decode cX4_sendVotes 3 = .ok (.istore 4, 2) := by decide +kernel
theorem dX4_sendVotes_5 : decode cX4_sendVotes 5 = .ok (.iload 4, 2) := by decide +kernel
theorem dX4_sendVotes_7 : decode cX4_sendVotes 7 = .ok (.aload_n 0, 1) := by decide +kernel
theorem dX4_sendVotes_8 : decode cX4_sendVotes 8 = .ok (.getfield 90, 3) := by decide +kernel
theorem dX4_sendVotes_11 : decode cX4_sendVotes 11 = .ok (.if_icmp .ge 63, 3) := by decide +kernel
theorem dX4_sendVotes_14 : decode cX4_sendVotes 14 = .ok (.aload_n 0, 1) := by decide +kernel
theorem dX4_sendVotes_15 : decode cX4_sendVotes 15 = .ok (.getfield 27, 3) := by decide +kernel
theorem dX4_sendVotes_18 : decode cX4_sendVotes 18 = .ok (.iload_n 1, 1) := by decide +kernel
theorem dX4_sendVotes_19 : decode cX4_sendVotes 19 = .ok (.iaload, 1) := by decide +kernel
theorem dX4_sendVotes_20 : decode cX4_sendVotes 20 = .ok (.aload_n 0, 1) := by decide +kernel
theorem dX4_sendVotes_21 : decode cX4_sendVotes 21 = .ok (.getfield 54, 3) := by decide +kernel
theorem dX4_sendVotes_24 : decode cX4_sendVotes 24 = .ok (.bipush 8, 2) := by decide +kernel
theorem dX4_sendVotes_26 : decode cX4_sendVotes 26 = .ok (.iload_n 1, 1) := by decide +kernel
theorem dX4_sendVotes_27 : decode cX4_sendVotes 27 = .ok (.imul, 1) := by decide +kernel
theorem dX4_sendVotes_28 : decode cX4_sendVotes 28 = .ok (.iload_n 2, 1) := by decide +kernel
theorem dX4_sendVotes_29 : decode cX4_sendVotes 29 = .ok (.iadd, 1) := by decide +kernel
theorem dX4_sendVotes_30 : decode cX4_sendVotes 30 = .ok (.iaload, 1) := by decide +kernel
theorem dX4_sendVotes_31 : decode cX4_sendVotes 31 = .ok (.iconst (-1), 1) := by decide +kernel
theorem dX4_sendVotes_32 : decode cX4_sendVotes 32 = .ok (.ixor, 1) := by decide +kernel
theorem dX4_sendVotes_33 : decode cX4_sendVotes 33 = .ok (.iand, 1) := by decide +kernel
theorem dX4_sendVotes_34 : decode cX4_sendVotes 34 = .ok (.iconst 1, 1) := by decide +kernel
theorem dX4_sendVotes_35 : decode cX4_sendVotes 35 = .ok (.iload 4, 2) := by decide +kernel
theorem dX4_sendVotes_37 : decode cX4_sendVotes 37 = .ok (.ishl, 1) := by decide +kernel
theorem dX4_sendVotes_38 : decode cX4_sendVotes 38 = .ok (.iand, 1) := by decide +kernel
theorem dX4_sendVotes_39 : decode cX4_sendVotes 39 = .ok (.ifCond .ne 6, 3) := by decide +kernel
theorem dX4_sendVotes_42 : decode cX4_sendVotes 42 = .ok (.goto 26, 3) := by decide +kernel
theorem dX4_sendVotes_45 : decode cX4_sendVotes 45 = .ok (.aload_n 0, 1) := by decide +kernel
theorem dX4_sendVotes_46 : decode cX4_sendVotes 46 = .ok (.iconst 4, 1) := by decide +kernel
theorem dX4_sendVotes_47 : decode cX4_sendVotes 47 = .ok (.iload_n 1, 1) := by decide +kernel
theorem dX4_sendVotes_48 : decode cX4_sendVotes 48 = .ok (.iload 4, 2) := by decide +kernel
theorem dX4_sendVotes_50 : decode cX4_sendVotes 50 = .ok (.iload_n 2, 1) := by decide +kernel
theorem dX4_sendVotes_51 : decode cX4_sendVotes 51 = .ok (.aload_n 0, 1) := by decide +kernel
theorem dX4_sendVotes_52 : decode cX4_sendVotes 52 = .ok (.getfield 60, 3) := by decide +kernel
theorem dX4_sendVotes_55 : decode cX4_sendVotes 55 = .ok (.bipush 8, 2) := by decide +kernel
theorem dX4_sendVotes_57 : decode cX4_sendVotes 57 = .ok (.iload_n 1, 1) := by decide +kernel
theorem dX4_sendVotes_58 : decode cX4_sendVotes 58 = .ok (.imul, 1) := by decide +kernel
theorem dX4_sendVotes_59 : decode cX4_sendVotes 59 = .ok (.iload_n 2, 1) := by decide +kernel
theorem dX4_sendVotes_60 : decode cX4_sendVotes 60 = .ok (.iadd, 1) := by decide +kernel
theorem dX4_sendVotes_61 : decode cX4_sendVotes 61 = .ok (.laload, 1) := by decide +kernel
theorem dX4_sendVotes_62 : decode cX4_sendVotes 62 = .ok (.invokevirtual 114, 3) := by decide +kernel
theorem dX4_sendVotes_65 : decode cX4_sendVotes 65 = .ok (.iinc 3 1, 3) := by decide +kernel
theorem dX4_sendVotes_68 : decode cX4_sendVotes 68 = .ok (.iinc 4 1, 3) := by decide +kernel
theorem dX4_sendVotes_71 : decode cX4_sendVotes 71 = .ok (.goto (-66), 3) := by decide +kernel
theorem dX4_sendVotes_74 : decode cX4_sendVotes 74 = .ok (.iload_n 3, 1) := by decide +kernel
theorem dX4_sendVotes_75 : decode cX4_sendVotes 75 = .ok (.ireturn, 1) := by decide +kernel
theorem dX4_isRead_0 : decode cX4_isRead 0 = .ok (.iconst 1, 1) := by decide +kernel
theorem dX4_isRead_1 : decode cX4_isRead 1 = .ok (.istore_n 2, 1) := by decide +kernel
theorem dX4_isRead_2 : decode cX4_isRead 2 = .ok (.aload_n 0, 1) := by decide +kernel
theorem dX4_isRead_3 : decode cX4_isRead 3 = .ok (.iload_n 1, 1) := by decide +kernel
theorem dX4_isRead_4 : decode cX4_isRead 4 = .ok (.invokevirtual 118, 3) := by decide +kernel
theorem dX4_isRead_7 : decode cX4_isRead 7 = .ok (.istore_n 3, 1) := by decide +kernel
theorem dX4_isRead_8 : decode cX4_isRead 8 = .ok (.iload_n 3, 1) := by decide +kernel
theorem dX4_isRead_9 : decode cX4_isRead 9 = .ok (.iload_n 1, 1) := by decide +kernel
theorem dX4_isRead_10 : decode cX4_isRead 10 = .ok (.if_icmp .ge 44, 3) := by decide +kernel
theorem dX4_isRead_13 : decode cX4_isRead 13 = .ok (.iload_n 2, 1) := by decide +kernel
theorem dX4_isRead_14 : decode cX4_isRead 14 = .ok (.ifCond .eq 40, 3) := by decide +kernel
theorem dX4_isRead_17 : decode cX4_isRead 17 = .ok (.aload_n 0, 1) := by decide +kernel
theorem dX4_isRead_18 : decode cX4_isRead 18 = .ok (.getfield 39, 3) := by decide +kernel
theorem dX4_isRead_21 : decode cX4_isRead 21 = .ok (.iload_n 1, 1) := by decide +kernel
theorem dX4_isRead_22 : decode cX4_isRead 22 = .ok (.iaload, 1) := by decide +kernel
theorem dX4_isRead_23 : decode cX4_isRead 23 = .ok (.aload_n 0, 1) := by decide +kernel
theorem dX4_isRead_24 : decode cX4_isRead 24 = .ok (.getfield 27, 3) := by decide +kernel
theorem dX4_isRead_27 : decode cX4_isRead 27 = .ok (.iload_n 3, 1) := by decide +kernel
theorem dX4_isRead_28 : decode cX4_isRead 28 = .ok (.iaload, 1) := by decide +kernel
theorem dX4_isRead_29 : decode cX4_isRead 29 = .ok (.iand, 1) := by decide +kernel
theorem dX4_isRead_30 : decode cX4_isRead 30 = .ok (.invokestatic 107, 3) := by decide +kernel
theorem dX4_isRead_33 : decode cX4_isRead 33 = .ok (.aload_n 0, 1) := by decide +kernel
theorem dX4_isRead_34 : decode cX4_isRead 34 = .ok (.getfield 30, 3) := by decide +kernel
theorem dX4_isRead_37 : decode cX4_isRead 37 = .ok (.iload_n 3, 1) := by decide +kernel
theorem dX4_isRead_38 : decode cX4_isRead 38 = .ok (.iaload, 1) := by decide +kernel
theorem dX4_isRead_39 : decode cX4_isRead 39 = .ok (.if_icmp .lt 7, 3) := by decide +kernel
theorem dX4_isRead_42 : decode cX4_isRead 42 = .ok (.iconst 1, 1) := by decide +kernel
theorem dX4_isRead_43 : decode cX4_isRead 43 = .ok (.goto 4, 3) := by decide +kernel
theorem dX4_isRead_46 : decode cX4_isRead 46 = .ok (.iconst 0, 1) := by decide +kernel
theorem dX4_isRead_47 : decode cX4_isRead 47 = .ok (.istore_n 2, 1) := by decide +kernel
theorem dX4_isRead_48 : decode cX4_isRead 48 = .ok (.iinc 3 1, 3) := by decide +kernel
theorem dX4_isRead_51 : decode cX4_isRead 51 = .ok (.goto (-43), 3) := by decide +kernel
theorem dX4_isRead_54 : decode cX4_isRead 54 = .ok (.iload_n 2, 1) := by decide +kernel
theorem dX4_isRead_55 : decode cX4_isRead 55 = .ok (.ireturn, 1) := by decide +kernel
theorem dX4_isMoved_0 : decode cX4_isMoved 0 = .ok (.aload_n 0, 1) := by decide +kernel
theorem dX4_isMoved_1 : decode cX4_isMoved 1 = .ok (.getfield 42, 3) := by decide +kernel
theorem dX4_isMoved_4 : decode cX4_isMoved 4 = .ok (.iload_n 1, 1) := by decide +kernel
theorem dX4_isMoved_5 : decode cX4_isMoved 5 = .ok (.iaload, 1) := by decide +kernel
theorem dX4_isMoved_6 : decode cX4_isMoved 6 = .ok (.aload_n 0, 1) := by decide +kernel
theorem dX4_isMoved_7 : decode cX4_isMoved 7 = .ok (.getfield 48, 3) := by decide +kernel
theorem dX4_isMoved_10 : decode cX4_isMoved 10 = .ok (.iload_n 1, 1) := by decide +kernel
theorem dX4_isMoved_11 : decode cX4_isMoved 11 = .ok (.iaload, 1) := by decide +kernel
theorem dX4_isMoved_12 : decode cX4_isMoved 12 = .ok (.iconst (-1), 1) := by decide +kernel
theorem dX4_isMoved_13 : decode cX4_isMoved 13 = .ok (.ixor, 1) := by decide +kernel
theorem dX4_isMoved_14 : decode cX4_isMoved 14 = .ok (.iand, 1) := by decide +kernel
theorem dX4_isMoved_15 : decode cX4_isMoved 15 = .ok (.ifCond .ne 7, 3) := by decide +kernel
theorem dX4_isMoved_18 : decode cX4_isMoved 18 = .ok (.iconst 1, 1) := by decide +kernel
theorem dX4_isMoved_19 : decode cX4_isMoved 19 = .ok (.goto 4, 3) := by decide +kernel
theorem dX4_isMoved_22 : decode cX4_isMoved 22 = .ok (.iconst 0, 1) := by decide +kernel
theorem dX4_isMoved_23 : decode cX4_isMoved 23 = .ok (.ireturn, 1) := by decide +kernel
theorem dX4_beginReading_0 : decode cX4_beginReading 0 = .ok (.aload_n 0, 1) := by decide +kernel
theorem dX4_beginReading_1 : decode cX4_beginReading 1 = .ok (.getfield 24, 3) := by decide +kernel
theorem dX4_beginReading_4 : decode cX4_beginReading 4 = .ok (.iload_n 1, 1) := by decide +kernel
theorem dX4_beginReading_5 : decode cX4_beginReading 5 = .ok (.iconst 1, 1) := by decide +kernel
theorem dX4_beginReading_6 : decode cX4_beginReading 6 = .ok (.iastore, 1) := by decide +kernel
theorem dX4_beginReading_7 : decode cX4_beginReading 7 = .ok (.aload_n 0, 1) := by decide +kernel
theorem dX4_beginReading_8 : decode cX4_beginReading 8 = .ok (.iload_n 1, 1) := by decide +kernel
theorem dX4_beginReading_9 : decode cX4_beginReading 9 = .ok (.invokevirtual 124, 3) := by decide +kernel
theorem dX4_beginReading_12 : decode cX4_beginReading 12 = .ok (.pop, 1) := by decide +kernel
theorem dX4_beginReading_13 : decode cX4_beginReading 13 = .ok (.aload_n 0, 1) := by decide +kernel
theorem dX4_beginReading_14 : decode cX4_beginReading 14 = .ok (.iload_n 1, 1) := by decide +kernel
theorem dX4_beginReading_15 : decode cX4_beginReading 15 = .ok (.invokevirtual 127, 3) := by decide +kernel
theorem dX4_beginReading_18 : decode cX4_beginReading 18 = .ok (.ifCond .eq 8, 3) := by decide +kernel
theorem dX4_beginReading_21 : decode cX4_beginReading 21 = .ok (.aload_n 0, 1) := by decide +kernel
theorem dX4_beginReading_22 : decode cX4_beginReading 22 = .ok (.iload_n 1, 1) := by decide +kernel
theorem dX4_beginReading_23 : decode cX4_beginReading 23 = .ok (.invokevirtual 131, 3) := by decide +kernel
theorem dX4_beginReading_26 : decode cX4_beginReading 26 = .ok (.return_, 1) := by decide +kernel
theorem dX4_beginMoving_0 : decode cX4_beginMoving 0 = .ok (.aload_n 0, 1) := by decide +kernel
theorem dX4_beginMoving_1 : decode cX4_beginMoving 1 = .ok (.getfield 24, 3) := by decide +kernel
theorem dX4_beginMoving_4 : decode cX4_beginMoving 4 = .ok (.iload_n 1, 1) := by decide +kernel
theorem dX4_beginMoving_5 : decode cX4_beginMoving 5 = .ok (.iconst 2, 1) := by decide +kernel
theorem dX4_beginMoving_6 : decode cX4_beginMoving 6 = .ok (.iastore, 1) := by decide +kernel
theorem dX4_beginMoving_7 : decode cX4_beginMoving 7 = .ok (.iconst 0, 1) := by decide +kernel
theorem dX4_beginMoving_8 : decode cX4_beginMoving 8 = .ok (.istore_n 2, 1) := by decide +kernel
theorem dX4_beginMoving_9 : decode cX4_beginMoving 9 = .ok (.iload_n 2, 1) := by decide +kernel
theorem dX4_beginMoving_10 : decode cX4_beginMoving 10 = .ok (.bipush 8, 2) := by decide +kernel
theorem dX4_beginMoving_12 : decode cX4_beginMoving 12 = .ok (.if_icmp .ge 30, 3) := by decide +kernel
theorem dX4_beginMoving_15 : decode cX4_beginMoving 15 = .ok (.aload_n 0, 1) := by decide +kernel
theorem dX4_beginMoving_16 : decode cX4_beginMoving 16 = .ok (.getfield 42, 3) := by decide +kernel
theorem dX4_beginMoving_19 : decode cX4_beginMoving 19 = .ok (.iload_n 1, 1) := by decide +kernel
theorem dX4_beginMoving_20 : decode cX4_beginMoving 20 = .ok (.iaload, 1) := by decide +kernel
theorem dX4_beginMoving_21 : decode cX4_beginMoving 21 = .ok (.iload_n 2, 1) := by decide +kernel
theorem dX4_beginMoving_22 : decode cX4_beginMoving 22 = .ok (.ishr, 1) := by decide +kernel
theorem dX4_beginMoving_23 : decode cX4_beginMoving 23 = .ok (.iconst 1, 1) := by decide +kernel
theorem dX4_beginMoving_24 : decode cX4_beginMoving 24 = .ok (.iand, 1) := by decide +kernel
theorem dX4_beginMoving_25 : decode cX4_beginMoving 25 = .ok (.iconst 1, 1) := by decide +kernel
theorem dX4_beginMoving_26 : decode cX4_beginMoving 26 = .ok (.if_icmp .ne 10, 3) := by decide +kernel
theorem dX4_beginMoving_29 : decode cX4_beginMoving 29 = .ok (.aload_n 0, 1) := by decide +kernel
theorem dX4_beginMoving_30 : decode cX4_beginMoving 30 = .ok (.iload_n 1, 1) := by decide +kernel
theorem dX4_beginMoving_31 : decode cX4_beginMoving 31 = .ok (.iload_n 2, 1) := by decide +kernel
theorem dX4_beginMoving_32 : decode cX4_beginMoving 32 = .ok (.invokevirtual 135, 3) := by decide +kernel
theorem dX4_beginMoving_35 : decode cX4_beginMoving 35 = .ok (.pop, 1) := by decide +kernel
theorem dX4_beginMoving_36 : decode cX4_beginMoving 36 = .ok (.iinc 2 1, 3) := by decide +kernel
theorem dX4_beginMoving_39 : decode cX4_beginMoving 39 = .ok (.goto (-30), 3) := by decide +kernel
theorem dX4_beginMoving_42 : decode cX4_beginMoving 42 = .ok (.aload_n 0, 1) := by decide +kernel
theorem dX4_beginMoving_43 : decode cX4_beginMoving 43 = .ok (.iload_n 1, 1) := by decide +kernel
theorem dX4_beginMoving_44 : decode cX4_beginMoving 44 = .ok (.invokevirtual 139, 3) := by decide +kernel
theorem dX4_beginMoving_47 : decode cX4_beginMoving 47 = .ok (.ifCond .eq 8, 3) := by decide +kernel
theorem dX4_beginMoving_50 : decode cX4_beginMoving 50 = .ok (.aload_n 0, 1) := by decide +kernel
theorem dX4_beginMoving_51 : decode cX4_beginMoving 51 = .ok (.iload_n 1, 1) := by decide +kernel
theorem dX4_beginMoving_52 : decode cX4_beginMoving 52 = .ok (.invokevirtual 142, 3) := by decide +kernel
theorem dX4_beginMoving_55 : decode cX4_beginMoving 55 = .ok (.return_, 1) := by decide +kernel
theorem dX4_beginAsking_0 : decode cX4_beginAsking 0 = .ok (.aload_n 0, 1) := by decide +kernel
theorem dX4_beginAsking_1 : decode cX4_beginAsking 1 = .ok (.getfield 24, 3) := by decide +kernel
theorem dX4_beginAsking_4 : decode cX4_beginAsking 4 = .ok (.iload_n 1, 1) := by decide +kernel
theorem dX4_beginAsking_5 : decode cX4_beginAsking 5 = .ok (.iconst 3, 1) := by decide +kernel
theorem dX4_beginAsking_6 : decode cX4_beginAsking 6 = .ok (.iastore, 1) := by decide +kernel
theorem dX4_beginAsking_7 : decode cX4_beginAsking 7 = .ok (.aload_n 0, 1) := by decide +kernel
theorem dX4_beginAsking_8 : decode cX4_beginAsking 8 = .ok (.bipush 6, 2) := by decide +kernel
theorem dX4_beginAsking_10 : decode cX4_beginAsking 10 = .ok (.iload_n 1, 1) := by decide +kernel
theorem dX4_beginAsking_11 : decode cX4_beginAsking 11 = .ok (.iconst (-1), 1) := by decide +kernel
theorem dX4_beginAsking_12 : decode cX4_beginAsking 12 = .ok (.iconst (-1), 1) := by decide +kernel
theorem dX4_beginAsking_13 : decode cX4_beginAsking 13 = .ok (.lconst 0, 1) := by decide +kernel
theorem dX4_beginAsking_14 : decode cX4_beginAsking 14 = .ok (.invokevirtual 114, 3) := by decide +kernel
theorem dX4_beginAsking_17 : decode cX4_beginAsking 17 = .ok (.return_, 1) := by decide +kernel
theorem dX4_propose_0 : decode cX4_propose 0 = .ok (.aload_n 0, 1) := by decide +kernel
theorem dX4_propose_1 : decode cX4_propose 1 = .ok (.iload_n 1, 1) := by decide +kernel
theorem dX4_propose_2 : decode cX4_propose 2 = .ok (.invokevirtual 145, 3) := by decide +kernel
theorem dX4_propose_5 : decode cX4_propose 5 = .ok (.ifCond .eq 41, 3) := by decide +kernel
theorem dX4_propose_8 : decode cX4_propose 8 = .ok (.iload_n 2, 1) := by decide +kernel
theorem dX4_propose_9 : decode cX4_propose 9 = .ok (.invokestatic 148, 3) := by decide +kernel
theorem dX4_propose_12 : decode cX4_propose 12 = .ok (.ifCond .eq 34, 3) := by decide +kernel
theorem dX4_propose_15 : decode cX4_propose 15 = .ok (.aload_n 0, 1) := by decide +kernel
theorem dX4_propose_16 : decode cX4_propose 16 = .ok (.getfield 24, 3) := by decide +kernel
theorem dX4_propose_19 : decode cX4_propose 19 = .ok (.iload_n 1, 1) := by decide +kernel
theorem dX4_propose_20 : decode cX4_propose 20 = .ok (.iaload, 1) := by decide +kernel
theorem dX4_propose_21 : decode cX4_propose 21 = .ok (.iconst 4, 1) := by decide +kernel
theorem dX4_propose_22 : decode cX4_propose 22 = .ok (.if_icmp .ne 24, 3) := by decide +kernel
theorem dX4_propose_25 : decode cX4_propose 25 = .ok (.aload_n 0, 1) := by decide +kernel
theorem dX4_propose_26 : decode cX4_propose 26 = .ok (.getfield 42, 3) := by decide +kernel
theorem dX4_propose_29 : decode cX4_propose 29 = .ok (.iload_n 1, 1) := by decide +kernel
theorem dX4_propose_30 : decode cX4_propose 30 = .ok (.iaload, 1) := by decide +kernel
theorem dX4_propose_31 : decode cX4_propose 31 = .ok (.aload_n 0, 1) := by decide +kernel
theorem dX4_propose_32 : decode cX4_propose 32 = .ok (.getfield 45, 3) := by decide +kernel
theorem dX4_propose_35 : decode cX4_propose 35 = .ok (.iload_n 1, 1) := by decide +kernel
theorem dX4_propose_36 : decode cX4_propose 36 = .ok (.iaload, 1) := by decide +kernel
theorem dX4_propose_37 : decode cX4_propose 37 = .ok (.ior, 1) := by decide +kernel
theorem dX4_propose_38 : decode cX4_propose 38 = .ok (.iload_n 2, 1) := by decide +kernel
theorem dX4_propose_39 : decode cX4_propose 39 = .ok (.ishr, 1) := by decide +kernel
theorem dX4_propose_40 : decode cX4_propose 40 = .ok (.iconst 1, 1) := by decide +kernel
theorem dX4_propose_41 : decode cX4_propose 41 = .ok (.iand, 1) := by decide +kernel
theorem dX4_propose_42 : decode cX4_propose 42 = .ok (.iconst 1, 1) := by decide +kernel
theorem dX4_propose_43 : decode cX4_propose 43 = .ok (.if_icmp .ne 5, 3) := by decide +kernel
theorem dX4_propose_46 : decode cX4_propose 46 = .ok (.iconst 0, 1) := by decide +kernel
theorem dX4_propose_47 : decode cX4_propose 47 = .ok (.ireturn, 1) := by decide +kernel
theorem dX4_propose_48 : decode cX4_propose 48 = .ok (.aload_n 0, 1) := by decide +kernel
theorem dX4_propose_49 : decode cX4_propose 49 = .ok (.getfield 45, 3) := by decide +kernel
theorem dX4_propose_52 : decode cX4_propose 52 = .ok (.iload_n 1, 1) := by decide +kernel
theorem dX4_propose_53 : decode cX4_propose 53 = .ok (.dup2, 1) := by decide +kernel
theorem dX4_propose_54 : decode cX4_propose 54 = .ok (.iaload, 1) := by decide +kernel
theorem dX4_propose_55 : decode cX4_propose 55 = .ok (.iconst 1, 1) := by decide +kernel
theorem dX4_propose_56 : decode cX4_propose 56 = .ok (.iload_n 2, 1) := by decide +kernel
theorem dX4_propose_57 : decode cX4_propose 57 = .ok (.ishl, 1) := by decide +kernel
theorem dX4_propose_58 : decode cX4_propose 58 = .ok (.ior, 1) := by decide +kernel
theorem dX4_propose_59 : decode cX4_propose 59 = .ok (.iastore, 1) := by decide +kernel
theorem dX4_propose_60 : decode cX4_propose 60 = .ok (.aload_n 0, 1) := by decide +kernel
theorem dX4_propose_61 : decode cX4_propose 61 = .ok (.getfield 60, 3) := by decide +kernel
theorem dX4_propose_64 : decode cX4_propose 64 = .ok (.bipush 8, 2) := by decide +kernel
theorem dX4_propose_66 : decode cX4_propose 66 = .ok (.iload_n 1, 1) := by decide +kernel
theorem dX4_propose_67 : decode cX4_propose 67 = .ok (.imul, 1) := by decide +kernel
theorem dX4_propose_68 : decode cX4_propose 68 = .ok (.iload_n 2, 1) := by decide +kernel
theorem dX4_propose_69 : decode cX4_propose 69 = .ok (.iadd, 1) := by decide +kernel
theorem dX4_propose_70 : decode cX4_propose 70 = .ok (.lload_n 3, 1) := by decide +kernel
theorem dX4_propose_71 : decode cX4_propose 71 = .ok (.lastore, 1) := by decide +kernel
theorem dX4_propose_72 : decode cX4_propose 72 = .ok (.aload_n 0, 1) := by decide +kernel
theorem dX4_propose_73 : decode cX4_propose 73 = .ok (.iload_n 1, 1) := by decide +kernel
theorem dX4_propose_74 : decode cX4_propose 74 = .ok (.iload_n 2, 1) := by decide +kernel
theorem dX4_propose_75 : decode cX4_propose 75 = .ok (.invokevirtual 135, 3) := by decide +kernel
theorem dX4_propose_78 : decode cX4_propose 78 = .ok (.pop, 1) := by decide +kernel
theorem dX4_propose_79 : decode cX4_propose 79 = .ok (.iconst 1, 1) := by decide +kernel
theorem dX4_propose_80 : decode cX4_propose 80 = .ok (.ireturn, 1) := by decide +kernel
theorem dX4_again_0 : decode cX4_again 0 = .ok (.aload_n 0, 1) := by decide +kernel
theorem dX4_again_1 : decode cX4_again 1 = .ok (.iload_n 1, 1) := by decide +kernel
theorem dX4_again_2 : decode cX4_again 2 = .ok (.invokevirtual 145, 3) := by decide +kernel
theorem dX4_again_5 : decode cX4_again 5 = .ok (.ifCond .ne 5, 3) := by decide +kernel
theorem dX4_again_8 : decode cX4_again 8 = .ok (.iconst (-1), 1) := by decide +kernel
theorem dX4_again_9 : decode cX4_again 9 = .ok (.ireturn, 1) := by decide +kernel
theorem dX4_again_10 : decode cX4_again 10 = .ok (.aload_n 0, 1) := by decide +kernel
theorem dX4_again_11 : decode cX4_again 11 = .ok (.getfield 24, 3) := by decide +kernel
theorem dX4_again_14 : decode cX4_again 14 = .ok (.iload_n 1, 1) := by decide +kernel
theorem dX4_again_15 : decode cX4_again 15 = .ok (.iaload, 1) := by decide +kernel
theorem dX4_again_16 : decode cX4_again 16 = .ok (.tableswitch 61 0 3 #[32, 43, 61, 49], 32) := by decide +kernel
theorem dX4_again_48 : decode cX4_again 48 = .ok (.aload_n 0, 1) := by decide +kernel
theorem dX4_again_49 : decode cX4_again 49 = .ok (.iconst 1, 1) := by decide +kernel
theorem dX4_again_50 : decode cX4_again 50 = .ok (.iload_n 1, 1) := by decide +kernel
theorem dX4_again_51 : decode cX4_again 51 = .ok (.iconst (-1), 1) := by decide +kernel
theorem dX4_again_52 : decode cX4_again 52 = .ok (.iconst (-1), 1) := by decide +kernel
theorem dX4_again_53 : decode cX4_again 53 = .ok (.lconst 0, 1) := by decide +kernel
theorem dX4_again_54 : decode cX4_again 54 = .ok (.invokevirtual 114, 3) := by decide +kernel
theorem dX4_again_57 : decode cX4_again 57 = .ok (.iconst 1, 1) := by decide +kernel
theorem dX4_again_58 : decode cX4_again 58 = .ok (.ireturn, 1) := by decide +kernel
theorem dX4_again_59 : decode cX4_again 59 = .ok (.aload_n 0, 1) := by decide +kernel
theorem dX4_again_60 : decode cX4_again 60 = .ok (.iload_n 1, 1) := by decide +kernel
theorem dX4_again_61 : decode cX4_again 61 = .ok (.invokevirtual 124, 3) := by decide +kernel
theorem dX4_again_64 : decode cX4_again 64 = .ok (.ireturn, 1) := by decide +kernel
theorem dX4_again_65 : decode cX4_again 65 = .ok (.aload_n 0, 1) := by decide +kernel
theorem dX4_again_66 : decode cX4_again 66 = .ok (.bipush 6, 2) := by decide +kernel
theorem dX4_again_68 : decode cX4_again 68 = .ok (.iload_n 1, 1) := by decide +kernel
theorem dX4_again_69 : decode cX4_again 69 = .ok (.iconst (-1), 1) := by decide +kernel
theorem dX4_again_70 : decode cX4_again 70 = .ok (.iconst (-1), 1) := by decide +kernel
theorem dX4_again_71 : decode cX4_again 71 = .ok (.lconst 0, 1) := by decide +kernel
theorem dX4_again_72 : decode cX4_again 72 = .ok (.invokevirtual 114, 3) := by decide +kernel
theorem dX4_again_75 : decode cX4_again 75 = .ok (.iconst 1, 1) := by decide +kernel
theorem dX4_again_76 : decode cX4_again 76 = .ok (.ireturn, 1) := by decide +kernel
theorem dX4_again_77 : decode cX4_again 77 = .ok (.iconst 0, 1) := by decide +kernel
theorem dX4_again_78 : decode cX4_again 78 = .ok (.istore_n 2, 1) := by decide +kernel
theorem dX4_again_79 : decode cX4_again 79 = .ok (.iconst 0, 1) := by decide +kernel
theorem dX4_again_80 : decode cX4_again 80 = .ok (.istore_n 3, 1) := by decide +kernel
theorem dX4_again_81 : decode cX4_again 81 = .ok (.iload_n 3, 1) := by decide +kernel
theorem dX4_again_82 : decode cX4_again 82 = .ok (.bipush 8, 2) := by decide +kernel
theorem dX4_again_84 : decode cX4_again 84 = .ok (.if_icmp .ge 48, 3) := by decide +kernel
theorem dX4_again_87 : decode cX4_again 87 = .ok (.aload_n 0, 1) := by decide +kernel
theorem dX4_again_88 : decode cX4_again 88 = .ok (.getfield 42, 3) := by decide +kernel
theorem dX4_again_91 : decode cX4_again 91 = .ok (.iload_n 1, 1) := by decide +kernel
theorem dX4_again_92 : decode cX4_again 92 = .ok (.iaload, 1) := by decide +kernel
theorem dX4_again_93 : decode cX4_again 93 = .ok (.aload_n 0, 1) := by decide +kernel
theorem dX4_again_94 : decode cX4_again 94 = .ok (.getfield 45, 3) := by decide +kernel
theorem dX4_again_97 : decode cX4_again 97 = .ok (.iload_n 1, 1) := by decide +kernel
theorem dX4_again_98 : decode cX4_again 98 = .ok (.iaload, 1) := by decide +kernel
theorem dX4_again_99 : decode cX4_again 99 = .ok (.ior, 1) := by decide +kernel
theorem dX4_again_100 : decode cX4_again 100 = .ok (.aload_n 0, 1) := by decide +kernel
theorem dX4_again_101 : decode cX4_again 101 = .ok (.getfield 48, 3) := by decide +kernel
theorem dX4_again_104 : decode cX4_again 104 = .ok (.iload_n 1, 1) := by decide +kernel
theorem dX4_again_105 : decode cX4_again 105 = .ok (.iaload, 1) := by decide +kernel
theorem dX4_again_106 : decode cX4_again 106 = .ok (.iconst (-1), 1) := by decide +kernel
theorem dX4_again_107 : decode cX4_again 107 = .ok (.ixor, 1) := by decide +kernel
theorem dX4_again_108 : decode cX4_again 108 = .ok (.iand, 1) := by decide +kernel
theorem dX4_again_109 : decode cX4_again 109 = .ok (.iload_n 3, 1) := by decide +kernel
theorem dX4_again_110 : decode cX4_again 110 = .ok (.ishr, 1) := by decide +kernel
theorem dX4_again_111 : decode cX4_again 111 = .ok (.iconst 1, 1) := by decide +kernel
theorem dX4_again_112 : decode cX4_again 112 = .ok (.iand, 1) := by decide +kernel
theorem dX4_again_113 : decode cX4_again 113 = .ok (.iconst 1, 1) := by decide +kernel
theorem dX4_again_114 : decode cX4_again 114 = .ok (.if_icmp .ne 12, 3) := by decide +kernel
theorem dX4_again_117 : decode cX4_again 117 = .ok (.iload_n 2, 1) := by decide +kernel
theorem dX4_again_118 : decode cX4_again 118 = .ok (.aload_n 0, 1) := by decide +kernel
theorem dX4_again_119 : decode cX4_again 119 = .ok (.iload_n 1, 1) := by decide +kernel
theorem dX4_again_120 : decode cX4_again 120 = .ok (.iload_n 3, 1) := by decide +kernel
theorem dX4_again_121 : decode cX4_again 121 = .ok (.invokevirtual 135, 3) := by decide +kernel
theorem dX4_again_124 : decode cX4_again 124 = .ok (.iadd, 1) := by decide +kernel
theorem dX4_again_125 : decode cX4_again 125 = .ok (.istore_n 2, 1) := by decide +kernel
theorem dX4_again_126 : decode cX4_again 126 = .ok (.iinc 3 1, 3) := by decide +kernel
theorem dX4_again_129 : decode cX4_again 129 = .ok (.goto (-48), 3) := by decide +kernel
theorem dX4_again_132 : decode cX4_again 132 = .ok (.iload_n 2, 1) := by decide +kernel
theorem dX4_again_133 : decode cX4_again 133 = .ok (.ireturn, 1) := by decide +kernel
theorem dX4_comesRead_0 : decode cX4_comesRead 0 = .ok (.aload_n 0, 1) := by decide +kernel
theorem dX4_comesRead_1 : decode cX4_comesRead 1 = .ok (.getfield 7, 3) := by decide +kernel
theorem dX4_comesRead_4 : decode cX4_comesRead 4 = .ok (.iload_n 2, 1) := by decide +kernel
theorem dX4_comesRead_5 : decode cX4_comesRead 5 = .ok (.iaload, 1) := by decide +kernel
theorem dX4_comesRead_6 : decode cX4_comesRead 6 = .ok (.iload_n 1, 1) := by decide +kernel
theorem dX4_comesRead_7 : decode cX4_comesRead 7 = .ok (.if_icmp .le 4, 3) := by decide +kernel
theorem dX4_comesRead_10 : decode cX4_comesRead 10 = .ok (.return_, 1) := by decide +kernel
theorem dX4_comesRead_11 : decode cX4_comesRead 11 = .ok (.aload_n 0, 1) := by decide +kernel
theorem dX4_comesRead_12 : decode cX4_comesRead 12 = .ok (.getfield 7, 3) := by decide +kernel
theorem dX4_comesRead_15 : decode cX4_comesRead 15 = .ok (.iload_n 2, 1) := by decide +kernel
theorem dX4_comesRead_16 : decode cX4_comesRead 16 = .ok (.iload_n 1, 1) := by decide +kernel
theorem dX4_comesRead_17 : decode cX4_comesRead 17 = .ok (.iastore, 1) := by decide +kernel
theorem dX4_comesRead_18 : decode cX4_comesRead 18 = .ok (.aload_n 0, 1) := by decide +kernel
theorem dX4_comesRead_19 : decode cX4_comesRead 19 = .ok (.iconst 3, 1) := by decide +kernel
theorem dX4_comesRead_20 : decode cX4_comesRead 20 = .ok (.iload_n 1, 1) := by decide +kernel
theorem dX4_comesRead_21 : decode cX4_comesRead 21 = .ok (.iload_n 2, 1) := by decide +kernel
theorem dX4_comesRead_22 : decode cX4_comesRead 22 = .ok (.iconst (-1), 1) := by decide +kernel
theorem dX4_comesRead_23 : decode cX4_comesRead 23 = .ok (.lconst 0, 1) := by decide +kernel
theorem dX4_comesRead_24 : decode cX4_comesRead 24 = .ok (.invokevirtual 114, 3) := by decide +kernel
theorem dX4_comesRead_27 : decode cX4_comesRead 27 = .ok (.return_, 1) := by decide +kernel
theorem dX4_comesVote_0 : decode cX4_comesVote 0 = .ok (.aload_n 0, 1) := by decide +kernel
theorem dX4_comesVote_1 : decode cX4_comesVote 1 = .ok (.getfield 7, 3) := by decide +kernel
theorem dX4_comesVote_4 : decode cX4_comesVote 4 = .ok (.iload_n 2, 1) := by decide +kernel
theorem dX4_comesVote_5 : decode cX4_comesVote 5 = .ok (.iaload, 1) := by decide +kernel
theorem dX4_comesVote_6 : decode cX4_comesVote 6 = .ok (.iload_n 1, 1) := by decide +kernel
theorem dX4_comesVote_7 : decode cX4_comesVote 7 = .ok (.if_icmp .le 4, 3) := by decide +kernel
theorem dX4_comesVote_10 : decode cX4_comesVote 10 = .ok (.return_, 1) := by decide +kernel
theorem dX4_comesVote_11 : decode cX4_comesVote 11 = .ok (.aload_n 0, 1) := by decide +kernel
theorem dX4_comesVote_12 : decode cX4_comesVote 12 = .ok (.getfield 7, 3) := by decide +kernel
theorem dX4_comesVote_15 : decode cX4_comesVote 15 = .ok (.iload_n 2, 1) := by decide +kernel
theorem dX4_comesVote_16 : decode cX4_comesVote 16 = .ok (.iload_n 1, 1) := by decide +kernel
theorem dX4_comesVote_17 : decode cX4_comesVote 17 = .ok (.iastore, 1) := by decide +kernel
theorem dX4_comesVote_18 : decode cX4_comesVote 18 = .ok (.aload_n 0, 1) := by decide +kernel
theorem dX4_comesVote_19 : decode cX4_comesVote 19 = .ok (.getfield 13, 3) := by decide +kernel
theorem dX4_comesVote_22 : decode cX4_comesVote 22 = .ok (.bipush 8, 2) := by decide +kernel
theorem dX4_comesVote_24 : decode cX4_comesVote 24 = .ok (.iload_n 2, 1) := by decide +kernel
theorem dX4_comesVote_25 : decode cX4_comesVote 25 = .ok (.imul, 1) := by decide +kernel
theorem dX4_comesVote_26 : decode cX4_comesVote 26 = .ok (.iload_n 3, 1) := by decide +kernel
theorem dX4_comesVote_27 : decode cX4_comesVote 27 = .ok (.iadd, 1) := by decide +kernel
theorem dX4_comesVote_28 : decode cX4_comesVote 28 = .ok (.iload_n 1, 1) := by decide +kernel
theorem dX4_comesVote_29 : decode cX4_comesVote 29 = .ok (.iastore, 1) := by decide +kernel
theorem dX4_comesVote_30 : decode cX4_comesVote 30 = .ok (.aload_n 0, 1) := by decide +kernel
theorem dX4_comesVote_31 : decode cX4_comesVote 31 = .ok (.getfield 16, 3) := by decide +kernel
theorem dX4_comesVote_34 : decode cX4_comesVote 34 = .ok (.bipush 8, 2) := by decide +kernel
theorem dX4_comesVote_36 : decode cX4_comesVote 36 = .ok (.iload_n 2, 1) := by decide +kernel
theorem dX4_comesVote_37 : decode cX4_comesVote 37 = .ok (.imul, 1) := by decide +kernel
theorem dX4_comesVote_38 : decode cX4_comesVote 38 = .ok (.iload_n 3, 1) := by decide +kernel
theorem dX4_comesVote_39 : decode cX4_comesVote 39 = .ok (.iadd, 1) := by decide +kernel
theorem dX4_comesVote_40 : decode cX4_comesVote 40 = .ok (.lload 4, 2) := by decide +kernel
theorem dX4_comesVote_42 : decode cX4_comesVote 42 = .ok (.lastore, 1) := by decide +kernel
theorem dX4_comesVote_43 : decode cX4_comesVote 43 = .ok (.aload_n 0, 1) := by decide +kernel
theorem dX4_comesVote_44 : decode cX4_comesVote 44 = .ok (.getfield 57, 3) := by decide +kernel
theorem dX4_comesVote_47 : decode cX4_comesVote 47 = .ok (.bipush 8, 2) := by decide +kernel
theorem dX4_comesVote_49 : decode cX4_comesVote 49 = .ok (.iload_n 1, 1) := by decide +kernel
theorem dX4_comesVote_50 : decode cX4_comesVote 50 = .ok (.imul, 1) := by decide +kernel
theorem dX4_comesVote_51 : decode cX4_comesVote 51 = .ok (.iload_n 3, 1) := by decide +kernel
theorem dX4_comesVote_52 : decode cX4_comesVote 52 = .ok (.iadd, 1) := by decide +kernel
theorem dX4_comesVote_53 : decode cX4_comesVote 53 = .ok (.dup2, 1) := by decide +kernel
theorem dX4_comesVote_54 : decode cX4_comesVote 54 = .ok (.iaload, 1) := by decide +kernel
theorem dX4_comesVote_55 : decode cX4_comesVote 55 = .ok (.iconst 1, 1) := by decide +kernel
theorem dX4_comesVote_56 : decode cX4_comesVote 56 = .ok (.iload_n 2, 1) := by decide +kernel
theorem dX4_comesVote_57 : decode cX4_comesVote 57 = .ok (.ishl, 1) := by decide +kernel
theorem dX4_comesVote_58 : decode cX4_comesVote 58 = .ok (.ior, 1) := by decide +kernel
theorem dX4_comesVote_59 : decode cX4_comesVote 59 = .ok (.iastore, 1) := by decide +kernel
theorem dX4_comesVote_60 : decode cX4_comesVote 60 = .ok (.aload_n 0, 1) := by decide +kernel
theorem dX4_comesVote_61 : decode cX4_comesVote 61 = .ok (.iconst 5, 1) := by decide +kernel
theorem dX4_comesVote_62 : decode cX4_comesVote 62 = .ok (.iload_n 1, 1) := by decide +kernel
theorem dX4_comesVote_63 : decode cX4_comesVote 63 = .ok (.iload_n 2, 1) := by decide +kernel
theorem dX4_comesVote_64 : decode cX4_comesVote 64 = .ok (.iload_n 3, 1) := by decide +kernel
theorem dX4_comesVote_65 : decode cX4_comesVote 65 = .ok (.lconst 0, 1) := by decide +kernel
theorem dX4_comesVote_66 : decode cX4_comesVote 66 = .ok (.invokevirtual 114, 3) := by decide +kernel
theorem dX4_comesVote_69 : decode cX4_comesVote 69 = .ok (.return_, 1) := by decide +kernel
theorem dX4_comesReadAnswer_0 : decode cX4_comesReadAnswer 0 = .ok (.aload_n 0, 1) := by decide +kernel
theorem dX4_comesReadAnswer_1 : decode cX4_comesReadAnswer 1 = .ok (.getfield 24, 3) := by decide +kernel
theorem dX4_comesReadAnswer_4 : decode cX4_comesReadAnswer 4 = .ok (.iload_n 1, 1) := by decide +kernel
theorem dX4_comesReadAnswer_5 : decode cX4_comesReadAnswer 5 = .ok (.iaload, 1) := by decide +kernel
theorem dX4_comesReadAnswer_6 : decode cX4_comesReadAnswer 6 = .ok (.iconst 1, 1) := by decide +kernel
theorem dX4_comesReadAnswer_7 : decode cX4_comesReadAnswer 7 = .ok (.if_icmp .ne 17, 3) := by decide +kernel
theorem dX4_comesReadAnswer_10 : decode cX4_comesReadAnswer 10 = .ok (.aload_n 0, 1) := by decide +kernel
theorem dX4_comesReadAnswer_11 : decode cX4_comesReadAnswer 11 = .ok (.getfield 39, 3) := by decide +kernel
theorem dX4_comesReadAnswer_14 : decode cX4_comesReadAnswer 14 = .ok (.iload_n 1, 1) := by decide +kernel
theorem dX4_comesReadAnswer_15 : decode cX4_comesReadAnswer 15 = .ok (.iaload, 1) := by decide +kernel
theorem dX4_comesReadAnswer_16 : decode cX4_comesReadAnswer 16 = .ok (.iload_n 2, 1) := by decide +kernel
theorem dX4_comesReadAnswer_17 : decode cX4_comesReadAnswer 17 = .ok (.ishr, 1) := by decide +kernel
theorem dX4_comesReadAnswer_18 : decode cX4_comesReadAnswer 18 = .ok (.iconst 1, 1) := by decide +kernel
theorem dX4_comesReadAnswer_19 : decode cX4_comesReadAnswer 19 = .ok (.iand, 1) := by decide +kernel
theorem dX4_comesReadAnswer_20 : decode cX4_comesReadAnswer 20 = .ok (.iconst 1, 1) := by decide +kernel
theorem dX4_comesReadAnswer_21 : decode cX4_comesReadAnswer 21 = .ok (.if_icmp .ne 4, 3) := by decide +kernel
theorem dX4_comesReadAnswer_24 : decode cX4_comesReadAnswer 24 = .ok (.return_, 1) := by decide +kernel
theorem dX4_comesReadAnswer_25 : decode cX4_comesReadAnswer 25 = .ok (.aload_n 0, 1) := by decide +kernel
theorem dX4_comesReadAnswer_26 : decode cX4_comesReadAnswer 26 = .ok (.getfield 39, 3) := by decide +kernel
theorem dX4_comesReadAnswer_29 : decode cX4_comesReadAnswer 29 = .ok (.iload_n 1, 1) := by decide +kernel
theorem dX4_comesReadAnswer_30 : decode cX4_comesReadAnswer 30 = .ok (.dup2, 1) := by decide +kernel
theorem dX4_comesReadAnswer_31 : decode cX4_comesReadAnswer 31 = .ok (.iaload, 1) := by decide +kernel
theorem dX4_comesReadAnswer_32 : decode cX4_comesReadAnswer 32 = .ok (.iconst 1, 1) := by decide +kernel
theorem dX4_comesReadAnswer_33 : decode cX4_comesReadAnswer 33 = .ok (.iload_n 2, 1) := by decide +kernel
theorem dX4_comesReadAnswer_34 : decode cX4_comesReadAnswer 34 = .ok (.ishl, 1) := by decide +kernel
theorem dX4_comesReadAnswer_35 : decode cX4_comesReadAnswer 35 = .ok (.ior, 1) := by decide +kernel
theorem dX4_comesReadAnswer_36 : decode cX4_comesReadAnswer 36 = .ok (.iastore, 1) := by decide +kernel
theorem dX4_comesReadAnswer_37 : decode cX4_comesReadAnswer 37 = .ok (.iconst 0, 1) := by decide +kernel
theorem dX4_comesReadAnswer_38 : decode cX4_comesReadAnswer 38 = .ok (.istore_n 3, 1) := by decide +kernel
theorem dX4_comesReadAnswer_39 : decode cX4_comesReadAnswer 39 = .ok (.iload_n 3, 1) := by decide +kernel
theorem dX4_comesReadAnswer_40 : decode cX4_comesReadAnswer 40 = .ok (.bipush 8, 2) := by decide +kernel
theorem dX4_comesReadAnswer_42 : decode cX4_comesReadAnswer 42 = .ok (.if_icmp .ge 78, 3) := by decide +kernel
theorem dX4_comesReadAnswer_45 : decode cX4_comesReadAnswer 45 = .ok (.aload_n 0, 1) := by decide +kernel
theorem dX4_comesReadAnswer_46 : decode cX4_comesReadAnswer 46 = .ok (.getfield 84, 3) := by decide +kernel
theorem dX4_comesReadAnswer_49 : decode cX4_comesReadAnswer 49 = .ok (.iload_n 3, 1) := by decide +kernel
theorem dX4_comesReadAnswer_50 : decode cX4_comesReadAnswer 50 = .ok (.iaload, 1) := by decide +kernel
theorem dX4_comesReadAnswer_51 : decode cX4_comesReadAnswer 51 = .ok (.aload_n 0, 1) := by decide +kernel
theorem dX4_comesReadAnswer_52 : decode cX4_comesReadAnswer 52 = .ok (.getfield 51, 3) := by decide +kernel
theorem dX4_comesReadAnswer_55 : decode cX4_comesReadAnswer 55 = .ok (.bipush 8, 2) := by decide +kernel
theorem dX4_comesReadAnswer_57 : decode cX4_comesReadAnswer 57 = .ok (.iload_n 1, 1) := by decide +kernel
theorem dX4_comesReadAnswer_58 : decode cX4_comesReadAnswer 58 = .ok (.imul, 1) := by decide +kernel
theorem dX4_comesReadAnswer_59 : decode cX4_comesReadAnswer 59 = .ok (.iload_n 3, 1) := by decide +kernel
theorem dX4_comesReadAnswer_60 : decode cX4_comesReadAnswer 60 = .ok (.iadd, 1) := by decide +kernel
theorem dX4_comesReadAnswer_61 : decode cX4_comesReadAnswer 61 = .ok (.iaload, 1) := by decide +kernel
theorem dX4_comesReadAnswer_62 : decode cX4_comesReadAnswer 62 = .ok (.if_icmp .gt 6, 3) := by decide +kernel
theorem dX4_comesReadAnswer_65 : decode cX4_comesReadAnswer 65 = .ok (.goto 49, 3) := by decide +kernel
theorem dX4_comesReadAnswer_68 : decode cX4_comesReadAnswer 68 = .ok (.aload_n 0, 1) := by decide +kernel
theorem dX4_comesReadAnswer_69 : decode cX4_comesReadAnswer 69 = .ok (.getfield 51, 3) := by decide +kernel
theorem dX4_comesReadAnswer_72 : decode cX4_comesReadAnswer 72 = .ok (.bipush 8, 2) := by decide +kernel
theorem dX4_comesReadAnswer_74 : decode cX4_comesReadAnswer 74 = .ok (.iload_n 1, 1) := by decide +kernel
theorem dX4_comesReadAnswer_75 : decode cX4_comesReadAnswer 75 = .ok (.imul, 1) := by decide +kernel
theorem dX4_comesReadAnswer_76 : decode cX4_comesReadAnswer 76 = .ok (.iload_n 3, 1) := by decide +kernel
theorem dX4_comesReadAnswer_77 : decode cX4_comesReadAnswer 77 = .ok (.iadd, 1) := by decide +kernel
theorem dX4_comesReadAnswer_78 : decode cX4_comesReadAnswer 78 = .ok (.aload_n 0, 1) := by decide +kernel
theorem dX4_comesReadAnswer_79 : decode cX4_comesReadAnswer 79 = .ok (.getfield 84, 3) := by decide +kernel
theorem dX4_comesReadAnswer_82 : decode cX4_comesReadAnswer 82 = .ok (.iload_n 3, 1) := by decide +kernel
theorem dX4_comesReadAnswer_83 : decode cX4_comesReadAnswer 83 = .ok (.iaload, 1) := by decide +kernel
theorem dX4_comesReadAnswer_84 : decode cX4_comesReadAnswer 84 = .ok (.iastore, 1) := by decide +kernel
theorem dX4_comesReadAnswer_85 : decode cX4_comesReadAnswer 85 = .ok (.aload_n 0, 1) := by decide +kernel
theorem dX4_comesReadAnswer_86 : decode cX4_comesReadAnswer 86 = .ok (.getfield 60, 3) := by decide +kernel
theorem dX4_comesReadAnswer_89 : decode cX4_comesReadAnswer 89 = .ok (.bipush 8, 2) := by decide +kernel
theorem dX4_comesReadAnswer_91 : decode cX4_comesReadAnswer 91 = .ok (.iload_n 1, 1) := by decide +kernel
theorem dX4_comesReadAnswer_92 : decode cX4_comesReadAnswer 92 = .ok (.imul, 1) := by decide +kernel
theorem dX4_comesReadAnswer_93 : decode cX4_comesReadAnswer 93 = .ok (.iload_n 3, 1) := by decide +kernel
theorem dX4_comesReadAnswer_94 : decode cX4_comesReadAnswer 94 = .ok (.iadd, 1) := by decide +kernel
theorem dX4_comesReadAnswer_95 : decode cX4_comesReadAnswer 95 = .ok (.aload_n 0, 1) := by decide +kernel
theorem dX4_comesReadAnswer_96 : decode cX4_comesReadAnswer 96 = .ok (.getfield 87, 3) := by decide +kernel
theorem dX4_comesReadAnswer_99 : decode cX4_comesReadAnswer 99 = .ok (.iload_n 3, 1) := by decide +kernel
theorem dX4_comesReadAnswer_100 : decode cX4_comesReadAnswer 100 = .ok (.laload, 1) := by decide +kernel
theorem dX4_comesReadAnswer_101 : decode cX4_comesReadAnswer 101 = .ok (.lastore, 1) := by decide +kernel
theorem dX4_comesReadAnswer_102 : decode cX4_comesReadAnswer 102 = .ok (.aload_n 0, 1) := by decide +kernel
theorem dX4_comesReadAnswer_103 : decode cX4_comesReadAnswer 103 = .ok (.getfield 42, 3) := by decide +kernel
theorem dX4_comesReadAnswer_106 : decode cX4_comesReadAnswer 106 = .ok (.iload_n 1, 1) := by decide +kernel
theorem dX4_comesReadAnswer_107 : decode cX4_comesReadAnswer 107 = .ok (.dup2, 1) := by decide +kernel
theorem dX4_comesReadAnswer_108 : decode cX4_comesReadAnswer 108 = .ok (.iaload, 1) := by decide +kernel
theorem dX4_comesReadAnswer_109 : decode cX4_comesReadAnswer 109 = .ok (.iconst 1, 1) := by decide +kernel
theorem dX4_comesReadAnswer_110 : decode cX4_comesReadAnswer 110 = .ok (.iload_n 3, 1) := by decide +kernel
theorem dX4_comesReadAnswer_111 : decode cX4_comesReadAnswer 111 = .ok (.ishl, 1) := by decide +kernel
theorem dX4_comesReadAnswer_112 : decode cX4_comesReadAnswer 112 = .ok (.ior, 1) := by decide +kernel
theorem dX4_comesReadAnswer_113 : decode cX4_comesReadAnswer 113 = .ok (.iastore, 1) := by decide +kernel
theorem dX4_comesReadAnswer_114 : decode cX4_comesReadAnswer 114 = .ok (.iinc 3 1, 3) := by decide +kernel
theorem dX4_comesReadAnswer_117 : decode cX4_comesReadAnswer 117 = .ok (.goto (-78), 3) := by decide +kernel
theorem dX4_comesReadAnswer_120 : decode cX4_comesReadAnswer 120 = .ok (.aload_n 0, 1) := by decide +kernel
theorem dX4_comesReadAnswer_121 : decode cX4_comesReadAnswer 121 = .ok (.iload_n 1, 1) := by decide +kernel
theorem dX4_comesReadAnswer_122 : decode cX4_comesReadAnswer 122 = .ok (.invokevirtual 127, 3) := by decide +kernel
theorem dX4_comesReadAnswer_125 : decode cX4_comesReadAnswer 125 = .ok (.ifCond .eq 8, 3) := by decide +kernel
theorem dX4_comesReadAnswer_128 : decode cX4_comesReadAnswer 128 = .ok (.aload_n 0, 1) := by decide +kernel
theorem dX4_comesReadAnswer_129 : decode cX4_comesReadAnswer 129 = .ok (.iload_n 1, 1) := by decide +kernel
theorem dX4_comesReadAnswer_130 : decode cX4_comesReadAnswer 130 = .ok (.invokevirtual 131, 3) := by decide +kernel
theorem dX4_comesReadAnswer_133 : decode cX4_comesReadAnswer 133 = .ok (.return_, 1) := by decide +kernel
theorem dX4_comesVoteAnswer_0 : decode cX4_comesVoteAnswer 0 = .ok (.aload_n 0, 1) := by decide +kernel
theorem dX4_comesVoteAnswer_1 : decode cX4_comesVoteAnswer 1 = .ok (.getfield 24, 3) := by decide +kernel
theorem dX4_comesVoteAnswer_4 : decode cX4_comesVoteAnswer 4 = .ok (.iload_n 1, 1) := by decide +kernel
theorem dX4_comesVoteAnswer_5 : decode cX4_comesVoteAnswer 5 = .ok (.iaload, 1) := by decide +kernel
theorem dX4_comesVoteAnswer_6 : decode cX4_comesVoteAnswer 6 = .ok (.iconst 2, 1) := by decide +kernel
theorem dX4_comesVoteAnswer_7 : decode cX4_comesVoteAnswer 7 = .ok (.if_icmp .ge 4, 3) := by decide +kernel
theorem dX4_comesVoteAnswer_10 : decode cX4_comesVoteAnswer 10 = .ok (.return_, 1) := by decide +kernel
theorem dX4_comesVoteAnswer_11 : decode cX4_comesVoteAnswer 11 = .ok (.aload_n 0, 1) := by decide +kernel
theorem dX4_comesVoteAnswer_12 : decode cX4_comesVoteAnswer 12 = .ok (.getfield 54, 3) := by decide +kernel
theorem dX4_comesVoteAnswer_15 : decode cX4_comesVoteAnswer 15 = .ok (.bipush 8, 2) := by decide +kernel
theorem dX4_comesVoteAnswer_17 : decode cX4_comesVoteAnswer 17 = .ok (.iload_n 1, 1) := by decide +kernel
theorem dX4_comesVoteAnswer_18 : decode cX4_comesVoteAnswer 18 = .ok (.imul, 1) := by decide +kernel
theorem dX4_comesVoteAnswer_19 : decode cX4_comesVoteAnswer 19 = .ok (.iload_n 3, 1) := by decide +kernel
theorem dX4_comesVoteAnswer_20 : decode cX4_comesVoteAnswer 20 = .ok (.iadd, 1) := by decide +kernel
theorem dX4_comesVoteAnswer_21 : decode cX4_comesVoteAnswer 21 = .ok (.dup2, 1) := by decide +kernel
theorem dX4_comesVoteAnswer_22 : decode cX4_comesVoteAnswer 22 = .ok (.iaload, 1) := by decide +kernel
theorem dX4_comesVoteAnswer_23 : decode cX4_comesVoteAnswer 23 = .ok (.iconst 1, 1) := by decide +kernel
theorem dX4_comesVoteAnswer_24 : decode cX4_comesVoteAnswer 24 = .ok (.iload_n 2, 1) := by decide +kernel
theorem dX4_comesVoteAnswer_25 : decode cX4_comesVoteAnswer 25 = .ok (.ishl, 1) := by decide +kernel
theorem dX4_comesVoteAnswer_26 : decode cX4_comesVoteAnswer 26 = .ok (.ior, 1) := by decide +kernel
theorem dX4_comesVoteAnswer_27 : decode cX4_comesVoteAnswer 27 = .ok (.iastore, 1) := by decide +kernel
theorem dX4_comesVoteAnswer_28 : decode cX4_comesVoteAnswer 28 = .ok (.aload_n 0, 1) := by decide +kernel
theorem dX4_comesVoteAnswer_29 : decode cX4_comesVoteAnswer 29 = .ok (.getfield 54, 3) := by decide +kernel
theorem dX4_comesVoteAnswer_32 : decode cX4_comesVoteAnswer 32 = .ok (.bipush 8, 2) := by decide +kernel
theorem dX4_comesVoteAnswer_34 : decode cX4_comesVoteAnswer 34 = .ok (.iload_n 1, 1) := by decide +kernel
theorem dX4_comesVoteAnswer_35 : decode cX4_comesVoteAnswer 35 = .ok (.imul, 1) := by decide +kernel
theorem dX4_comesVoteAnswer_36 : decode cX4_comesVoteAnswer 36 = .ok (.iload_n 3, 1) := by decide +kernel
theorem dX4_comesVoteAnswer_37 : decode cX4_comesVoteAnswer 37 = .ok (.iadd, 1) := by decide +kernel
theorem dX4_comesVoteAnswer_38 : decode cX4_comesVoteAnswer 38 = .ok (.iaload, 1) := by decide +kernel
theorem dX4_comesVoteAnswer_39 : decode cX4_comesVoteAnswer 39 = .ok (.invokestatic 107, 3) := by decide +kernel
theorem dX4_comesVoteAnswer_42 : decode cX4_comesVoteAnswer 42 = .ok (.aload_n 0, 1) := by decide +kernel
theorem dX4_comesVoteAnswer_43 : decode cX4_comesVoteAnswer 43 = .ok (.getfield 33, 3) := by decide +kernel
theorem dX4_comesVoteAnswer_46 : decode cX4_comesVoteAnswer 46 = .ok (.iload_n 1, 1) := by decide +kernel
theorem dX4_comesVoteAnswer_47 : decode cX4_comesVoteAnswer 47 = .ok (.iaload, 1) := by decide +kernel
theorem dX4_comesVoteAnswer_48 : decode cX4_comesVoteAnswer 48 = .ok (.if_icmp .lt 15, 3) := by decide +kernel
theorem dX4_comesVoteAnswer_51 : decode cX4_comesVoteAnswer 51 = .ok (.aload_n 0, 1) := by decide +kernel
theorem dX4_comesVoteAnswer_52 : decode cX4_comesVoteAnswer 52 = .ok (.getfield 48, 3) := by decide +kernel
theorem dX4_comesVoteAnswer_55 : decode cX4_comesVoteAnswer 55 = .ok (.iload_n 1, 1) := by decide +kernel
theorem dX4_comesVoteAnswer_56 : decode cX4_comesVoteAnswer 56 = .ok (.dup2, 1) := by decide +kernel
theorem dX4_comesVoteAnswer_57 : decode cX4_comesVoteAnswer 57 = .ok (.iaload, 1) := by decide +kernel
theorem dX4_comesVoteAnswer_58 : decode cX4_comesVoteAnswer 58 = .ok (.iconst 1, 1) := by decide +kernel
theorem dX4_comesVoteAnswer_59 : decode cX4_comesVoteAnswer 59 = .ok (.iload_n 3, 1) := by decide +kernel
theorem dX4_comesVoteAnswer_60 : decode cX4_comesVoteAnswer 60 = .ok (.ishl, 1) := by decide +kernel
theorem dX4_comesVoteAnswer_61 : decode cX4_comesVoteAnswer 61 = .ok (.ior, 1) := by decide +kernel
theorem dX4_comesVoteAnswer_62 : decode cX4_comesVoteAnswer 62 = .ok (.iastore, 1) := by decide +kernel
theorem dX4_comesVoteAnswer_63 : decode cX4_comesVoteAnswer 63 = .ok (.aload_n 0, 1) := by decide +kernel
theorem dX4_comesVoteAnswer_64 : decode cX4_comesVoteAnswer 64 = .ok (.getfield 24, 3) := by decide +kernel
theorem dX4_comesVoteAnswer_67 : decode cX4_comesVoteAnswer 67 = .ok (.iload_n 1, 1) := by decide +kernel
theorem dX4_comesVoteAnswer_68 : decode cX4_comesVoteAnswer 68 = .ok (.iaload, 1) := by decide +kernel
theorem dX4_comesVoteAnswer_69 : decode cX4_comesVoteAnswer 69 = .ok (.iconst 2, 1) := by decide +kernel
theorem dX4_comesVoteAnswer_70 : decode cX4_comesVoteAnswer 70 = .ok (.if_icmp .ne 16, 3) := by decide +kernel
theorem dX4_comesVoteAnswer_73 : decode cX4_comesVoteAnswer 73 = .ok (.aload_n 0, 1) := by decide +kernel
theorem dX4_comesVoteAnswer_74 : decode cX4_comesVoteAnswer 74 = .ok (.iload_n 1, 1) := by decide +kernel
theorem dX4_comesVoteAnswer_75 : decode cX4_comesVoteAnswer 75 = .ok (.invokevirtual 139, 3) := by decide +kernel
theorem dX4_comesVoteAnswer_78 : decode cX4_comesVoteAnswer 78 = .ok (.ifCond .eq 8, 3) := by decide +kernel
theorem dX4_comesVoteAnswer_81 : decode cX4_comesVoteAnswer 81 = .ok (.aload_n 0, 1) := by decide +kernel
theorem dX4_comesVoteAnswer_82 : decode cX4_comesVoteAnswer 82 = .ok (.iload_n 1, 1) := by decide +kernel
theorem dX4_comesVoteAnswer_83 : decode cX4_comesVoteAnswer 83 = .ok (.invokevirtual 142, 3) := by decide +kernel
theorem dX4_comesVoteAnswer_86 : decode cX4_comesVoteAnswer 86 = .ok (.return_, 1) := by decide +kernel
theorem dX4_canBe_0 : decode cX4_canBe 0 = .ok (.aload_n 0, 1) := by decide +kernel
theorem dX4_canBe_1 : decode cX4_canBe 1 = .ok (.getfield 63, 3) := by decide +kernel
theorem dX4_canBe_4 : decode cX4_canBe 4 = .ok (.iload_n 1, 1) := by decide +kernel
theorem dX4_canBe_5 : decode cX4_canBe 5 = .ok (.iaload, 1) := by decide +kernel
theorem dX4_canBe_6 : decode cX4_canBe 6 = .ok (.iconst 2, 1) := by decide +kernel
theorem dX4_canBe_7 : decode cX4_canBe 7 = .ok (.if_icmp .eq 13, 3) := by decide +kernel
theorem dX4_canBe_10 : decode cX4_canBe 10 = .ok (.aload_n 0, 1) := by decide +kernel
theorem dX4_canBe_11 : decode cX4_canBe 11 = .ok (.getfield 63, 3) := by decide +kernel
theorem dX4_canBe_14 : decode cX4_canBe 14 = .ok (.iload_n 1, 1) := by decide +kernel
theorem dX4_canBe_15 : decode cX4_canBe 15 = .ok (.iaload, 1) := by decide +kernel
theorem dX4_canBe_16 : decode cX4_canBe 16 = .ok (.iconst 4, 1) := by decide +kernel
theorem dX4_canBe_17 : decode cX4_canBe 17 = .ok (.if_icmp .ne 17, 3) := by decide +kernel
theorem dX4_canBe_20 : decode cX4_canBe 20 = .ok (.aload_n 0, 1) := by decide +kernel
theorem dX4_canBe_21 : decode cX4_canBe 21 = .ok (.getfield 20, 3) := by decide +kernel
theorem dX4_canBe_24 : decode cX4_canBe 24 = .ok (.aload_n 0, 1) := by decide +kernel
theorem dX4_canBe_25 : decode cX4_canBe 25 = .ok (.getfield 69, 3) := by decide +kernel
theorem dX4_canBe_28 : decode cX4_canBe 28 = .ok (.iload_n 1, 1) := by decide +kernel
theorem dX4_canBe_29 : decode cX4_canBe 29 = .ok (.iaload, 1) := by decide +kernel
theorem dX4_canBe_30 : decode cX4_canBe 30 = .ok (.baload, 1) := by decide +kernel
theorem dX4_canBe_31 : decode cX4_canBe 31 = .ok (.ifCond .ne 7, 3) := by decide +kernel
theorem dX4_canBe_34 : decode cX4_canBe 34 = .ok (.iconst 1, 1) := by decide +kernel
theorem dX4_canBe_35 : decode cX4_canBe 35 = .ok (.goto 4, 3) := by decide +kernel
theorem dX4_canBe_38 : decode cX4_canBe 38 = .ok (.iconst 0, 1) := by decide +kernel
theorem dX4_canBe_39 : decode cX4_canBe 39 = .ok (.ireturn, 1) := by decide +kernel
theorem dX4_deliver_0 : decode cX4_deliver 0 = .ok (.iload_n 1, 1) := by decide +kernel
theorem dX4_deliver_1 : decode cX4_deliver 1 = .ok (.ifCond .lt 19, 3) := by decide +kernel
theorem dX4_deliver_4 : decode cX4_deliver 4 = .ok (.iload_n 1, 1) := by decide +kernel
theorem dX4_deliver_5 : decode cX4_deliver 5 = .ok (.aload_n 0, 1) := by decide +kernel
theorem dX4_deliver_6 : decode cX4_deliver 6 = .ok (.getfield 97, 3) := by decide +kernel
theorem dX4_deliver_9 : decode cX4_deliver 9 = .ok (.if_icmp .ge 11, 3) := by decide +kernel
theorem dX4_deliver_12 : decode cX4_deliver 12 = .ok (.aload_n 0, 1) := by decide +kernel
theorem dX4_deliver_13 : decode cX4_deliver 13 = .ok (.iload_n 1, 1) := by decide +kernel
theorem dX4_deliver_14 : decode cX4_deliver 14 = .ok (.invokevirtual 151, 3) := by decide +kernel
theorem dX4_deliver_17 : decode cX4_deliver 17 = .ok (.ifCond .ne 5, 3) := by decide +kernel
theorem dX4_deliver_20 : decode cX4_deliver 20 = .ok (.iconst 0, 1) := by decide +kernel
theorem dX4_deliver_21 : decode cX4_deliver 21 = .ok (.ireturn, 1) := by decide +kernel
theorem dX4_deliver_22 : decode cX4_deliver 22 = .ok (.aload_n 0, 1) := by decide +kernel
theorem dX4_deliver_23 : decode cX4_deliver 23 = .ok (.getfield 63, 3) := by decide +kernel
theorem dX4_deliver_26 : decode cX4_deliver 26 = .ok (.iload_n 1, 1) := by decide +kernel
theorem dX4_deliver_27 : decode cX4_deliver 27 = .ok (.iaload, 1) := by decide +kernel
theorem dX4_deliver_28 : decode cX4_deliver 28 = .ok (.istore_n 2, 1) := by decide +kernel
theorem dX4_deliver_29 : decode cX4_deliver 29 = .ok (.aload_n 0, 1) := by decide +kernel
theorem dX4_deliver_30 : decode cX4_deliver 30 = .ok (.getfield 66, 3) := by decide +kernel
theorem dX4_deliver_33 : decode cX4_deliver 33 = .ok (.iload_n 1, 1) := by decide +kernel
theorem dX4_deliver_34 : decode cX4_deliver 34 = .ok (.iaload, 1) := by decide +kernel
theorem dX4_deliver_35 : decode cX4_deliver 35 = .ok (.istore_n 3, 1) := by decide +kernel
theorem dX4_deliver_36 : decode cX4_deliver 36 = .ok (.aload_n 0, 1) := by decide +kernel
theorem dX4_deliver_37 : decode cX4_deliver 37 = .ok (.getfield 69, 3) := by decide +kernel
theorem dX4_deliver_40 : decode cX4_deliver 40 = .ok (.iload_n 1, 1) := by decide +kernel
theorem dX4_deliver_41 : decode cX4_deliver 41 = .ok (.iaload, 1) := by decide +kernel
theorem dX4_deliver_42 : decode cX4_deliver 42 = .ok (.istore 4, 2) := by decide +kernel
theorem dX4_deliver_44 : decode cX4_deliver 44 = .ok (.aload_n 0, 1) := by decide +kernel
theorem dX4_deliver_45 : decode cX4_deliver 45 = .ok (.getfield 72, 3) := by decide +kernel
theorem dX4_deliver_48 : decode cX4_deliver 48 = .ok (.iload_n 1, 1) := by decide +kernel
theorem dX4_deliver_49 : decode cX4_deliver 49 = .ok (.iaload, 1) := by decide +kernel
theorem dX4_deliver_50 : decode cX4_deliver 50 = .ok (.istore 5, 2) := by decide +kernel
theorem dX4_deliver_52 : decode cX4_deliver 52 = .ok (.aload_n 0, 1) := by decide +kernel
theorem dX4_deliver_53 : decode cX4_deliver 53 = .ok (.getfield 78, 3) := by decide +kernel
theorem dX4_deliver_56 : decode cX4_deliver 56 = .ok (.iload_n 1, 1) := by decide +kernel
theorem dX4_deliver_57 : decode cX4_deliver 57 = .ok (.laload, 1) := by decide +kernel
theorem dX4_deliver_58 : decode cX4_deliver 58 = .ok (.lstore 6, 2) := by decide +kernel
theorem dX4_deliver_60 : decode cX4_deliver 60 = .ok (.iconst 0, 1) := by decide +kernel
theorem dX4_deliver_61 : decode cX4_deliver 61 = .ok (.istore 8, 2) := by decide +kernel
theorem dX4_deliver_63 : decode cX4_deliver 63 = .ok (.iload 8, 2) := by decide +kernel
theorem dX4_deliver_65 : decode cX4_deliver 65 = .ok (.bipush 8, 2) := by decide +kernel
theorem dX4_deliver_67 : decode cX4_deliver 67 = .ok (.if_icmp .ge 47, 3) := by decide +kernel
theorem dX4_deliver_70 : decode cX4_deliver 70 = .ok (.aload_n 0, 1) := by decide +kernel
theorem dX4_deliver_71 : decode cX4_deliver 71 = .ok (.getfield 84, 3) := by decide +kernel
theorem dX4_deliver_74 : decode cX4_deliver 74 = .ok (.iload 8, 2) := by decide +kernel
theorem dX4_deliver_76 : decode cX4_deliver 76 = .ok (.aload_n 0, 1) := by decide +kernel
theorem dX4_deliver_77 : decode cX4_deliver 77 = .ok (.getfield 75, 3) := by decide +kernel
theorem dX4_deliver_80 : decode cX4_deliver 80 = .ok (.bipush 8, 2) := by decide +kernel
theorem dX4_deliver_82 : decode cX4_deliver 82 = .ok (.iload_n 1, 1) := by decide +kernel
theorem dX4_deliver_83 : decode cX4_deliver 83 = .ok (.imul, 1) := by decide +kernel
theorem dX4_deliver_84 : decode cX4_deliver 84 = .ok (.iload 8, 2) := by decide +kernel
theorem dX4_deliver_86 : decode cX4_deliver 86 = .ok (.iadd, 1) := by decide +kernel
theorem dX4_deliver_87 : decode cX4_deliver 87 = .ok (.iaload, 1) := by decide +kernel
theorem dX4_deliver_88 : decode cX4_deliver 88 = .ok (.iastore, 1) := by decide +kernel
theorem dX4_deliver_89 : decode cX4_deliver 89 = .ok (.aload_n 0, 1) := by decide +kernel
theorem dX4_deliver_90 : decode cX4_deliver 90 = .ok (.getfield 87, 3) := by decide +kernel
theorem dX4_deliver_93 : decode cX4_deliver 93 = .ok (.iload 8, 2) := by decide +kernel
theorem dX4_deliver_95 : decode cX4_deliver 95 = .ok (.aload_n 0, 1) := by decide +kernel
theorem dX4_deliver_96 : decode cX4_deliver 96 = .ok (.getfield 81, 3) := by decide +kernel
theorem dX4_deliver_99 : decode cX4_deliver 99 = .ok (.bipush 8, 2) := by decide +kernel
theorem dX4_deliver_101 : decode cX4_deliver 101 = .ok (.iload_n 1, 1) := by decide +kernel
theorem dX4_deliver_102 : decode cX4_deliver 102 = .ok (.imul, 1) := by decide +kernel
theorem dX4_deliver_103 : decode cX4_deliver 103 = .ok (.iload 8, 2) := by decide +kernel
theorem dX4_deliver_105 : decode cX4_deliver 105 = .ok (.iadd, 1) := by decide +kernel
theorem dX4_deliver_106 : decode cX4_deliver 106 = .ok (.laload, 1) := by decide +kernel
theorem dX4_deliver_107 : decode cX4_deliver 107 = .ok (.lastore, 1) := by decide +kernel
theorem dX4_deliver_108 : decode cX4_deliver 108 = .ok (.iinc 8 1, 3) := by decide +kernel
theorem dX4_deliver_111 : decode cX4_deliver 111 = .ok (.goto (-48), 3) := by decide +kernel
theorem dX4_deliver_114 : decode cX4_deliver 114 = .ok (.aload_n 0, 1) := by decide +kernel
theorem dX4_deliver_115 : decode cX4_deliver 115 = .ok (.iload_n 1, 1) := by decide +kernel
theorem dX4_deliver_116 : decode cX4_deliver 116 = .ok (.invokevirtual 154, 3) := by decide +kernel
theorem dX4_deliver_119 : decode cX4_deliver 119 = .ok (.iload_n 2, 1) := by decide +kernel
theorem dX4_deliver_120 : decode cX4_deliver 120 = .ok (.tableswitch 142 1 6 #[40, 57, 67, 77, 91, 103], 40) := by decide +kernel
theorem dX4_deliver_160 : decode cX4_deliver 160 = .ok (.aload_n 0, 1) := by decide +kernel
theorem dX4_deliver_161 : decode cX4_deliver 161 = .ok (.getfield 24, 3) := by decide +kernel
theorem dX4_deliver_164 : decode cX4_deliver 164 = .ok (.iload_n 3, 1) := by decide +kernel
theorem dX4_deliver_165 : decode cX4_deliver 165 = .ok (.iaload, 1) := by decide +kernel
theorem dX4_deliver_166 : decode cX4_deliver 166 = .ok (.ifCond .ne 113, 3) := by decide +kernel
theorem dX4_deliver_169 : decode cX4_deliver 169 = .ok (.aload_n 0, 1) := by decide +kernel
theorem dX4_deliver_170 : decode cX4_deliver 170 = .ok (.iload_n 3, 1) := by decide +kernel
theorem dX4_deliver_171 : decode cX4_deliver 171 = .ok (.invokevirtual 157, 3) := by decide +kernel
theorem dX4_deliver_174 : decode cX4_deliver 174 = .ok (.goto 105, 3) := by decide +kernel
theorem dX4_deliver_177 : decode cX4_deliver 177 = .ok (.aload_n 0, 1) := by decide +kernel
theorem dX4_deliver_178 : decode cX4_deliver 178 = .ok (.iload_n 3, 1) := by decide +kernel
theorem dX4_deliver_179 : decode cX4_deliver 179 = .ok (.iload 4, 2) := by decide +kernel
theorem dX4_deliver_181 : decode cX4_deliver 181 = .ok (.invokevirtual 160, 3) := by decide +kernel
theorem dX4_deliver_184 : decode cX4_deliver 184 = .ok (.goto 95, 3) := by decide +kernel
theorem dX4_deliver_187 : decode cX4_deliver 187 = .ok (.aload_n 0, 1) := by decide +kernel
theorem dX4_deliver_188 : decode cX4_deliver 188 = .ok (.iload_n 3, 1) := by decide +kernel
theorem dX4_deliver_189 : decode cX4_deliver 189 = .ok (.iload 4, 2) := by decide +kernel
theorem dX4_deliver_191 : decode cX4_deliver 191 = .ok (.invokevirtual 163, 3) := by decide +kernel
theorem dX4_deliver_194 : decode cX4_deliver 194 = .ok (.goto 85, 3) := by decide +kernel
theorem dX4_deliver_197 : decode cX4_deliver 197 = .ok (.aload_n 0, 1) := by decide +kernel
theorem dX4_deliver_198 : decode cX4_deliver 198 = .ok (.iload_n 3, 1) := by decide +kernel
theorem dX4_deliver_199 : decode cX4_deliver 199 = .ok (.iload 4, 2) := by decide +kernel
theorem dX4_deliver_201 : decode cX4_deliver 201 = .ok (.iload 5, 2) := by decide +kernel
theorem dX4_deliver_203 : decode cX4_deliver 203 = .ok (.lload 6, 2) := by decide +kernel
theorem dX4_deliver_205 : decode cX4_deliver 205 = .ok (.invokevirtual 166, 3) := by decide +kernel
theorem dX4_deliver_208 : decode cX4_deliver 208 = .ok (.goto 71, 3) := by decide +kernel
theorem dX4_deliver_211 : decode cX4_deliver 211 = .ok (.aload_n 0, 1) := by decide +kernel
theorem dX4_deliver_212 : decode cX4_deliver 212 = .ok (.iload_n 3, 1) := by decide +kernel
theorem dX4_deliver_213 : decode cX4_deliver 213 = .ok (.iload 4, 2) := by decide +kernel
theorem dX4_deliver_215 : decode cX4_deliver 215 = .ok (.iload 5, 2) := by decide +kernel
theorem dX4_deliver_217 : decode cX4_deliver 217 = .ok (.invokevirtual 170, 3) := by decide +kernel
theorem dX4_deliver_220 : decode cX4_deliver 220 = .ok (.goto 59, 3) := by decide +kernel
theorem dX4_deliver_223 : decode cX4_deliver 223 = .ok (.aload_n 0, 1) := by decide +kernel
theorem dX4_deliver_224 : decode cX4_deliver 224 = .ok (.getfield 111, 3) := by decide +kernel
theorem dX4_deliver_227 : decode cX4_deliver 227 = .ok (.aload_n 0, 1) := by decide +kernel
theorem dX4_deliver_228 : decode cX4_deliver 228 = .ok (.getfield 36, 3) := by decide +kernel
theorem dX4_deliver_231 : decode cX4_deliver 231 = .ok (.iload_n 3, 1) := by decide +kernel
theorem dX4_deliver_232 : decode cX4_deliver 232 = .ok (.iaload, 1) := by decide +kernel
theorem dX4_deliver_233 : decode cX4_deliver 233 = .ok (.if_icmp .eq 11, 3) := by decide +kernel
theorem dX4_deliver_236 : decode cX4_deliver 236 = .ok (.aload_n 0, 1) := by decide +kernel
theorem dX4_deliver_237 : decode cX4_deliver 237 = .ok (.getfield 111, 3) := by decide +kernel
theorem dX4_deliver_240 : decode cX4_deliver 240 = .ok (.iload_n 3, 1) := by decide +kernel
theorem dX4_deliver_241 : decode cX4_deliver 241 = .ok (.if_icmp .ne 38, 3) := by decide +kernel
theorem dX4_deliver_244 : decode cX4_deliver 244 = .ok (.aload_n 0, 1) := by decide +kernel
theorem dX4_deliver_245 : decode cX4_deliver 245 = .ok (.iload_n 3, 1) := by decide +kernel
theorem dX4_deliver_246 : decode cX4_deliver 246 = .ok (.putfield 111, 3) := by decide +kernel
theorem dX4_deliver_249 : decode cX4_deliver 249 = .ok (.aload_n 0, 1) := by decide +kernel
theorem dX4_deliver_250 : decode cX4_deliver 250 = .ok (.bipush 7, 2) := by decide +kernel
theorem dX4_deliver_252 : decode cX4_deliver 252 = .ok (.iload_n 3, 1) := by decide +kernel
theorem dX4_deliver_253 : decode cX4_deliver 253 = .ok (.iconst (-1), 1) := by decide +kernel
theorem dX4_deliver_254 : decode cX4_deliver 254 = .ok (.iconst (-1), 1) := by decide +kernel
theorem dX4_deliver_255 : decode cX4_deliver 255 = .ok (.lconst 0, 1) := by decide +kernel
theorem dX4_deliver_256 : decode cX4_deliver 256 = .ok (.invokevirtual 114, 3) := by decide +kernel
theorem dX4_deliver_259 : decode cX4_deliver 259 = .ok (.goto 20, 3) := by decide +kernel
theorem dX4_deliver_262 : decode cX4_deliver 262 = .ok (.aload_n 0, 1) := by decide +kernel
theorem dX4_deliver_263 : decode cX4_deliver 263 = .ok (.getfield 24, 3) := by decide +kernel
theorem dX4_deliver_266 : decode cX4_deliver 266 = .ok (.iload_n 3, 1) := by decide +kernel
theorem dX4_deliver_267 : decode cX4_deliver 267 = .ok (.iaload, 1) := by decide +kernel
theorem dX4_deliver_268 : decode cX4_deliver 268 = .ok (.iconst 3, 1) := by decide +kernel
theorem dX4_deliver_269 : decode cX4_deliver 269 = .ok (.if_icmp .ne 10, 3) := by decide +kernel
theorem dX4_deliver_272 : decode cX4_deliver 272 = .ok (.aload_n 0, 1) := by decide +kernel
theorem dX4_deliver_273 : decode cX4_deliver 273 = .ok (.getfield 24, 3) := by decide +kernel
theorem dX4_deliver_276 : decode cX4_deliver 276 = .ok (.iload_n 3, 1) := by decide +kernel
theorem dX4_deliver_277 : decode cX4_deliver 277 = .ok (.iconst 4, 1) := by decide +kernel
theorem dX4_deliver_278 : decode cX4_deliver 278 = .ok (.iastore, 1) := by decide +kernel
theorem dX4_deliver_279 : decode cX4_deliver 279 = .ok (.iconst 1, 1) := by decide +kernel
theorem dX4_deliver_280 : decode cX4_deliver 280 = .ok (.ireturn, 1) := by decide +kernel
theorem dX4_settle_0 : decode cX4_settle 0 = .ok (.iload_n 1, 1) := by decide +kernel
theorem dX4_settle_1 : decode cX4_settle 1 = .ok (.ifCond .ge 5, 3) := by decide +kernel
theorem dX4_settle_4 : decode cX4_settle 4 = .ok (.iconst (-1), 1) := by decide +kernel
theorem dX4_settle_5 : decode cX4_settle 5 = .ok (.ireturn, 1) := by decide +kernel
theorem dX4_settle_6 : decode cX4_settle 6 = .ok (.iconst 0, 1) := by decide +kernel
theorem dX4_settle_7 : decode cX4_settle 7 = .ok (.istore_n 2, 1) := by decide +kernel
theorem dX4_settle_8 : decode cX4_settle 8 = .ok (.iconst 1, 1) := by decide +kernel
theorem dX4_settle_9 : decode cX4_settle 9 = .ok (.istore_n 3, 1) := by decide +kernel
theorem dX4_settle_10 : decode cX4_settle 10 = .ok (.iload_n 3, 1) := by decide +kernel
theorem dX4_settle_11 : decode cX4_settle 11 = .ok (.ifCond .eq 52, 3) := by decide +kernel
theorem dX4_settle_14 : decode cX4_settle 14 = .ok (.iload_n 2, 1) := by decide +kernel
theorem dX4_settle_15 : decode cX4_settle 15 = .ok (.iload_n 1, 1) := by decide +kernel
theorem dX4_settle_16 : decode cX4_settle 16 = .ok (.if_icmp .ge 47, 3) := by decide +kernel
theorem dX4_settle_19 : decode cX4_settle 19 = .ok (.iconst 0, 1) := by decide +kernel
theorem dX4_settle_20 : decode cX4_settle 20 = .ok (.istore 4, 2) := by decide +kernel
theorem dX4_settle_22 : decode cX4_settle 22 = .ok (.iload 4, 2) := by decide +kernel
theorem dX4_settle_24 : decode cX4_settle 24 = .ok (.aload_n 0, 1) := by decide +kernel
theorem dX4_settle_25 : decode cX4_settle 25 = .ok (.getfield 97, 3) := by decide +kernel
theorem dX4_settle_28 : decode cX4_settle 28 = .ok (.if_icmp .ge 18, 3) := by decide +kernel
theorem dX4_settle_31 : decode cX4_settle 31 = .ok (.aload_n 0, 1) := by decide +kernel
theorem dX4_settle_32 : decode cX4_settle 32 = .ok (.iload 4, 2) := by decide +kernel
theorem dX4_settle_34 : decode cX4_settle 34 = .ok (.invokevirtual 151, 3) := by decide +kernel
theorem dX4_settle_37 : decode cX4_settle 37 = .ok (.ifCond .ne 9, 3) := by decide +kernel
theorem dX4_settle_40 : decode cX4_settle 40 = .ok (.iinc 4 1, 3) := by decide +kernel
theorem dX4_settle_43 : decode cX4_settle 43 = .ok (.goto (-21), 3) := by decide +kernel
theorem dX4_settle_46 : decode cX4_settle 46 = .ok (.aload_n 0, 1) := by decide +kernel
theorem dX4_settle_47 : decode cX4_settle 47 = .ok (.iload 4, 2) := by decide +kernel
theorem dX4_settle_49 : decode cX4_settle 49 = .ok (.invokevirtual 174, 3) := by decide +kernel
theorem dX4_settle_52 : decode cX4_settle 52 = .ok (.istore_n 3, 1) := by decide +kernel
theorem dX4_settle_53 : decode cX4_settle 53 = .ok (.iload_n 3, 1) := by decide +kernel
theorem dX4_settle_54 : decode cX4_settle 54 = .ok (.ifCond .eq 6, 3) := by decide +kernel
theorem dX4_settle_57 : decode cX4_settle 57 = .ok (.iinc 2 1, 3) := by decide +kernel
theorem dX4_settle_60 : decode cX4_settle 60 = .ok (.goto (-50), 3) := by decide +kernel
theorem dX4_settle_63 : decode cX4_settle 63 = .ok (.iload_n 2, 1) := by decide +kernel
theorem dX4_settle_64 : decode cX4_settle 64 = .ok (.ireturn, 1) := by decide +kernel
theorem dX4_lose_0 : decode cX4_lose 0 = .ok (.iload_n 1, 1) := by decide +kernel
theorem dX4_lose_1 : decode cX4_lose 1 = .ok (.ifCond .lt 11, 3) := by decide +kernel
theorem dX4_lose_4 : decode cX4_lose 4 = .ok (.iload_n 1, 1) := by decide +kernel
theorem dX4_lose_5 : decode cX4_lose 5 = .ok (.aload_n 0, 1) := by decide +kernel
theorem dX4_lose_6 : decode cX4_lose 6 = .ok (.getfield 97, 3) := by decide +kernel
theorem dX4_lose_9 : decode cX4_lose 9 = .ok (.if_icmp .lt 5, 3) := by decide +kernel
theorem dX4_lose_12 : decode cX4_lose 12 = .ok (.iconst 0, 1) := by decide +kernel
theorem dX4_lose_13 : decode cX4_lose 13 = .ok (.ireturn, 1) := by decide +kernel
theorem dX4_lose_14 : decode cX4_lose 14 = .ok (.aload_n 0, 1) := by decide +kernel
theorem dX4_lose_15 : decode cX4_lose 15 = .ok (.iload_n 1, 1) := by decide +kernel
theorem dX4_lose_16 : decode cX4_lose 16 = .ok (.invokevirtual 154, 3) := by decide +kernel
theorem dX4_lose_19 : decode cX4_lose 19 = .ok (.iconst 1, 1) := by decide +kernel
theorem dX4_lose_20 : decode cX4_lose 20 = .ok (.ireturn, 1) := by decide +kernel
theorem dX4_twice_0 : decode cX4_twice 0 = .ok (.iload_n 1, 1) := by decide +kernel
theorem dX4_twice_1 : decode cX4_twice 1 = .ok (.ifCond .lt 21, 3) := by decide +kernel
theorem dX4_twice_4 : decode cX4_twice 4 = .ok (.iload_n 1, 1) := by decide +kernel
theorem dX4_twice_5 : decode cX4_twice 5 = .ok (.aload_n 0, 1) := by decide +kernel
theorem dX4_twice_6 : decode cX4_twice 6 = .ok (.getfield 97, 3) := by decide +kernel
theorem dX4_twice_9 : decode cX4_twice 9 = .ok (.if_icmp .ge 13, 3) := by decide +kernel
theorem dX4_twice_12 : decode cX4_twice 12 = .ok (.aload_n 0, 1) := by decide +kernel
theorem dX4_twice_13 : decode cX4_twice 13 = .ok (.getfield 97, 3) := by decide +kernel
theorem dX4_twice_16 : decode cX4_twice 16 = .ok (.sipush 400, 3) := by decide +kernel
theorem dX4_twice_19 : decode cX4_twice 19 = .ok (.if_icmp .ne 5, 3) := by decide +kernel
theorem dX4_twice_22 : decode cX4_twice 22 = .ok (.iconst 0, 1) := by decide +kernel
theorem dX4_twice_23 : decode cX4_twice 23 = .ok (.ireturn, 1) := by decide +kernel
theorem dX4_twice_24 : decode cX4_twice 24 = .ok (.aload_n 0, 1) := by decide +kernel
theorem dX4_twice_25 : decode cX4_twice 25 = .ok (.iload_n 1, 1) := by decide +kernel
theorem dX4_twice_26 : decode cX4_twice 26 = .ok (.aload_n 0, 1) := by decide +kernel
theorem dX4_twice_27 : decode cX4_twice 27 = .ok (.getfield 97, 3) := by decide +kernel
theorem dX4_twice_30 : decode cX4_twice 30 = .ok (.invokevirtual 103, 3) := by decide +kernel
theorem dX4_twice_33 : decode cX4_twice 33 = .ok (.aload_n 0, 1) := by decide +kernel
theorem dX4_twice_34 : decode cX4_twice 34 = .ok (.dup, 1) := by decide +kernel
theorem dX4_twice_35 : decode cX4_twice 35 = .ok (.getfield 97, 3) := by decide +kernel
theorem dX4_twice_38 : decode cX4_twice 38 = .ok (.iconst 1, 1) := by decide +kernel
theorem dX4_twice_39 : decode cX4_twice 39 = .ok (.iadd, 1) := by decide +kernel
theorem dX4_twice_40 : decode cX4_twice 40 = .ok (.putfield 97, 3) := by decide +kernel
theorem dX4_twice_43 : decode cX4_twice 43 = .ok (.iconst 1, 1) := by decide +kernel
theorem dX4_twice_44 : decode cX4_twice 44 = .ok (.ireturn, 1) := by decide +kernel
theorem dX4_silent_0 : decode cX4_silent 0 = .ok (.aload_n 0, 1) := by decide +kernel
theorem dX4_silent_1 : decode cX4_silent 1 = .ok (.iload_n 1, 1) := by decide +kernel
theorem dX4_silent_2 : decode cX4_silent 2 = .ok (.invokevirtual 177, 3) := by decide +kernel
theorem dX4_silent_5 : decode cX4_silent 5 = .ok (.ifCond .ne 5, 3) := by decide +kernel
theorem dX4_silent_8 : decode cX4_silent 8 = .ok (.iconst 0, 1) := by decide +kernel
theorem dX4_silent_9 : decode cX4_silent 9 = .ok (.ireturn, 1) := by decide +kernel
theorem dX4_silent_10 : decode cX4_silent 10 = .ok (.aload_n 0, 1) := by decide +kernel
theorem dX4_silent_11 : decode cX4_silent 11 = .ok (.getfield 20, 3) := by decide +kernel
theorem dX4_silent_14 : decode cX4_silent 14 = .ok (.iload_n 1, 1) := by decide +kernel
theorem dX4_silent_15 : decode cX4_silent 15 = .ok (.iload_n 2, 1) := by decide +kernel
theorem dX4_silent_16 : decode cX4_silent 16 = .ok (.bastore, 1) := by decide +kernel
theorem dX4_silent_17 : decode cX4_silent 17 = .ok (.iconst 1, 1) := by decide +kernel
theorem dX4_silent_18 : decode cX4_silent 18 = .ok (.ireturn, 1) := by decide +kernel
theorem dX4_promise_0 : decode cX4_promise 0 = .ok (.aload_n 0, 1) := by decide +kernel
theorem dX4_promise_1 : decode cX4_promise 1 = .ok (.iload_n 1, 1) := by decide +kernel
theorem dX4_promise_2 : decode cX4_promise 2 = .ok (.invokevirtual 177, 3) := by decide +kernel
theorem dX4_promise_5 : decode cX4_promise 5 = .ok (.ifCond .eq 12, 3) := by decide +kernel
theorem dX4_promise_8 : decode cX4_promise 8 = .ok (.aload_n 0, 1) := by decide +kernel
theorem dX4_promise_9 : decode cX4_promise 9 = .ok (.getfield 7, 3) := by decide +kernel
theorem dX4_promise_12 : decode cX4_promise 12 = .ok (.iload_n 1, 1) := by decide +kernel
theorem dX4_promise_13 : decode cX4_promise 13 = .ok (.iaload, 1) := by decide +kernel
theorem dX4_promise_14 : decode cX4_promise 14 = .ok (.goto 4, 3) := by decide +kernel
theorem dX4_promise_17 : decode cX4_promise 17 = .ok (.iconst (-1), 1) := by decide +kernel
theorem dX4_promise_18 : decode cX4_promise 18 = .ok (.ireturn, 1) := by decide +kernel
theorem dX4_vote_0 : decode cX4_vote 0 = .ok (.aload_n 0, 1) := by decide +kernel
theorem dX4_vote_1 : decode cX4_vote 1 = .ok (.iload_n 1, 1) := by decide +kernel
theorem dX4_vote_2 : decode cX4_vote 2 = .ok (.invokevirtual 177, 3) := by decide +kernel
theorem dX4_vote_5 : decode cX4_vote 5 = .ok (.ifCond .eq 24, 3) := by decide +kernel
theorem dX4_vote_8 : decode cX4_vote 8 = .ok (.iload_n 2, 1) := by decide +kernel
theorem dX4_vote_9 : decode cX4_vote 9 = .ok (.invokestatic 148, 3) := by decide +kernel
theorem dX4_vote_12 : decode cX4_vote 12 = .ok (.ifCond .eq 17, 3) := by decide +kernel
theorem dX4_vote_15 : decode cX4_vote 15 = .ok (.aload_n 0, 1) := by decide +kernel
theorem dX4_vote_16 : decode cX4_vote 16 = .ok (.getfield 13, 3) := by decide +kernel
theorem dX4_vote_19 : decode cX4_vote 19 = .ok (.bipush 8, 2) := by decide +kernel
theorem dX4_vote_21 : decode cX4_vote 21 = .ok (.iload_n 1, 1) := by decide +kernel
theorem dX4_vote_22 : decode cX4_vote 22 = .ok (.imul, 1) := by decide +kernel
theorem dX4_vote_23 : decode cX4_vote 23 = .ok (.iload_n 2, 1) := by decide +kernel
theorem dX4_vote_24 : decode cX4_vote 24 = .ok (.iadd, 1) := by decide +kernel
theorem dX4_vote_25 : decode cX4_vote 25 = .ok (.iaload, 1) := by decide +kernel
theorem dX4_vote_26 : decode cX4_vote 26 = .ok (.goto 4, 3) := by decide +kernel
theorem dX4_vote_29 : decode cX4_vote 29 = .ok (.iconst (-1), 1) := by decide +kernel
theorem dX4_vote_30 : decode cX4_vote 30 = .ok (.ireturn, 1) := by decide +kernel
theorem dX4_value_0 : decode cX4_value 0 = .ok (.aload_n 0, 1) := by decide +kernel
theorem dX4_value_1 : decode cX4_value 1 = .ok (.iload_n 1, 1) := by decide +kernel
theorem dX4_value_2 : decode cX4_value 2 = .ok (.invokevirtual 177, 3) := by decide +kernel
theorem dX4_value_5 : decode cX4_value 5 = .ok (.ifCond .eq 24, 3) := by decide +kernel
theorem dX4_value_8 : decode cX4_value 8 = .ok (.iload_n 2, 1) := by decide +kernel
theorem dX4_value_9 : decode cX4_value 9 = .ok (.invokestatic 148, 3) := by decide +kernel
theorem dX4_value_12 : decode cX4_value 12 = .ok (.ifCond .eq 17, 3) := by decide +kernel
theorem dX4_value_15 : decode cX4_value 15 = .ok (.aload_n 0, 1) := by decide +kernel
theorem dX4_value_16 : decode cX4_value 16 = .ok (.getfield 16, 3) := by decide +kernel
theorem dX4_value_19 : decode cX4_value 19 = .ok (.bipush 8, 2) := by decide +kernel
theorem dX4_value_21 : decode cX4_value 21 = .ok (.iload_n 1, 1) := by decide +kernel
theorem dX4_value_22 : decode cX4_value 22 = .ok (.imul, 1) := by decide +kernel
theorem dX4_value_23 : decode cX4_value 23 = .ok (.iload_n 2, 1) := by decide +kernel
theorem dX4_value_24 : decode cX4_value 24 = .ok (.iadd, 1) := by decide +kernel
theorem dX4_value_25 : decode cX4_value 25 = .ok (.laload, 1) := by decide +kernel
theorem dX4_value_26 : decode cX4_value 26 = .ok (.goto 4, 3) := by decide +kernel
theorem dX4_value_29 : decode cX4_value 29 = .ok (.lconst 0, 1) := by decide +kernel
theorem dX4_value_30 : decode cX4_value 30 = .ok (.lreturn, 1) := by decide +kernel
theorem dX4_of_0 : decode cX4_of 0 = .ok (.aload_n 0, 1) := by decide +kernel
theorem dX4_of_1 : decode cX4_of 1 = .ok (.iload_n 1, 1) := by decide +kernel
theorem dX4_of_2 : decode cX4_of 2 = .ok (.invokevirtual 145, 3) := by decide +kernel
theorem dX4_of_5 : decode cX4_of 5 = .ok (.ifCond .ne 5, 3) := by decide +kernel
theorem dX4_of_8 : decode cX4_of 8 = .ok (.iconst (-1), 1) := by decide +kernel
theorem dX4_of_9 : decode cX4_of 9 = .ok (.ireturn, 1) := by decide +kernel
theorem dX4_of_10 : decode cX4_of 10 = .ok (.iload_n 2, 1) := by decide +kernel
theorem dX4_of_11 : decode cX4_of 11 = .ok (.tableswitch 112 0 8 #[49, 56, 63, 70, 77, 84, 91, 98, 105], 49) := by decide +kernel
theorem dX4_of_60 : decode cX4_of 60 = .ok (.aload_n 0, 1) := by decide +kernel
theorem dX4_of_61 : decode cX4_of 61 = .ok (.getfield 24, 3) := by decide +kernel
theorem dX4_of_64 : decode cX4_of 64 = .ok (.iload_n 1, 1) := by decide +kernel
theorem dX4_of_65 : decode cX4_of 65 = .ok (.iaload, 1) := by decide +kernel
theorem dX4_of_66 : decode cX4_of 66 = .ok (.ireturn, 1) := by decide +kernel
theorem dX4_of_67 : decode cX4_of 67 = .ok (.aload_n 0, 1) := by decide +kernel
theorem dX4_of_68 : decode cX4_of 68 = .ok (.getfield 27, 3) := by decide +kernel
theorem dX4_of_71 : decode cX4_of 71 = .ok (.iload_n 1, 1) := by decide +kernel
theorem dX4_of_72 : decode cX4_of 72 = .ok (.iaload, 1) := by decide +kernel
theorem dX4_of_73 : decode cX4_of 73 = .ok (.ireturn, 1) := by decide +kernel
theorem dX4_of_74 : decode cX4_of 74 = .ok (.aload_n 0, 1) := by decide +kernel
theorem dX4_of_75 : decode cX4_of 75 = .ok (.getfield 30, 3) := by decide +kernel
theorem dX4_of_78 : decode cX4_of 78 = .ok (.iload_n 1, 1) := by decide +kernel
theorem dX4_of_79 : decode cX4_of 79 = .ok (.iaload, 1) := by decide +kernel
theorem dX4_of_80 : decode cX4_of 80 = .ok (.ireturn, 1) := by decide +kernel
theorem dX4_of_81 : decode cX4_of 81 = .ok (.aload_n 0, 1) := by decide +kernel
theorem dX4_of_82 : decode cX4_of 82 = .ok (.getfield 33, 3) := by decide +kernel
theorem dX4_of_85 : decode cX4_of 85 = .ok (.iload_n 1, 1) := by decide +kernel
theorem dX4_of_86 : decode cX4_of 86 = .ok (.iaload, 1) := by decide +kernel
theorem dX4_of_87 : decode cX4_of 87 = .ok (.ireturn, 1) := by decide +kernel
theorem dX4_of_88 : decode cX4_of 88 = .ok (.aload_n 0, 1) := by decide +kernel
theorem dX4_of_89 : decode cX4_of 89 = .ok (.getfield 36, 3) := by decide +kernel
theorem dX4_of_92 : decode cX4_of 92 = .ok (.iload_n 1, 1) := by decide +kernel
theorem dX4_of_93 : decode cX4_of 93 = .ok (.iaload, 1) := by decide +kernel
theorem dX4_of_94 : decode cX4_of 94 = .ok (.ireturn, 1) := by decide +kernel
theorem dX4_of_95 : decode cX4_of 95 = .ok (.aload_n 0, 1) := by decide +kernel
theorem dX4_of_96 : decode cX4_of 96 = .ok (.getfield 39, 3) := by decide +kernel
theorem dX4_of_99 : decode cX4_of 99 = .ok (.iload_n 1, 1) := by decide +kernel
theorem dX4_of_100 : decode cX4_of 100 = .ok (.iaload, 1) := by decide +kernel
theorem dX4_of_101 : decode cX4_of 101 = .ok (.ireturn, 1) := by decide +kernel
theorem dX4_of_102 : decode cX4_of 102 = .ok (.aload_n 0, 1) := by decide +kernel
theorem dX4_of_103 : decode cX4_of 103 = .ok (.getfield 42, 3) := by decide +kernel
theorem dX4_of_106 : decode cX4_of 106 = .ok (.iload_n 1, 1) := by decide +kernel
theorem dX4_of_107 : decode cX4_of 107 = .ok (.iaload, 1) := by decide +kernel
theorem dX4_of_108 : decode cX4_of 108 = .ok (.ireturn, 1) := by decide +kernel
theorem dX4_of_109 : decode cX4_of 109 = .ok (.aload_n 0, 1) := by decide +kernel
theorem dX4_of_110 : decode cX4_of 110 = .ok (.getfield 45, 3) := by decide +kernel
theorem dX4_of_113 : decode cX4_of 113 = .ok (.iload_n 1, 1) := by decide +kernel
theorem dX4_of_114 : decode cX4_of 114 = .ok (.iaload, 1) := by decide +kernel
theorem dX4_of_115 : decode cX4_of 115 = .ok (.ireturn, 1) := by decide +kernel
theorem dX4_of_116 : decode cX4_of 116 = .ok (.aload_n 0, 1) := by decide +kernel
theorem dX4_of_117 : decode cX4_of 117 = .ok (.getfield 48, 3) := by decide +kernel
theorem dX4_of_120 : decode cX4_of 120 = .ok (.iload_n 1, 1) := by decide +kernel
theorem dX4_of_121 : decode cX4_of 121 = .ok (.iaload, 1) := by decide +kernel
theorem dX4_of_122 : decode cX4_of 122 = .ok (.ireturn, 1) := by decide +kernel
theorem dX4_of_123 : decode cX4_of 123 = .ok (.iconst (-1), 1) := by decide +kernel
theorem dX4_of_124 : decode cX4_of 124 = .ok (.ireturn, 1) := by decide +kernel
theorem dX4_answered_0 : decode cX4_answered 0 = .ok (.aload_n 0, 1) := by decide +kernel
theorem dX4_answered_1 : decode cX4_answered 1 = .ok (.iload_n 1, 1) := by decide +kernel
theorem dX4_answered_2 : decode cX4_answered 2 = .ok (.invokevirtual 145, 3) := by decide +kernel
theorem dX4_answered_5 : decode cX4_answered 5 = .ok (.ifCond .eq 24, 3) := by decide +kernel
theorem dX4_answered_8 : decode cX4_answered 8 = .ok (.iload_n 2, 1) := by decide +kernel
theorem dX4_answered_9 : decode cX4_answered 9 = .ok (.invokestatic 148, 3) := by decide +kernel
theorem dX4_answered_12 : decode cX4_answered 12 = .ok (.ifCond .eq 17, 3) := by decide +kernel
theorem dX4_answered_15 : decode cX4_answered 15 = .ok (.aload_n 0, 1) := by decide +kernel
theorem dX4_answered_16 : decode cX4_answered 16 = .ok (.getfield 54, 3) := by decide +kernel
theorem dX4_answered_19 : decode cX4_answered 19 = .ok (.bipush 8, 2) := by decide +kernel
theorem dX4_answered_21 : decode cX4_answered 21 = .ok (.iload_n 1, 1) := by decide +kernel
theorem dX4_answered_22 : decode cX4_answered 22 = .ok (.imul, 1) := by decide +kernel
theorem dX4_answered_23 : decode cX4_answered 23 = .ok (.iload_n 2, 1) := by decide +kernel
theorem dX4_answered_24 : decode cX4_answered 24 = .ok (.iadd, 1) := by decide +kernel
theorem dX4_answered_25 : decode cX4_answered 25 = .ok (.iaload, 1) := by decide +kernel
theorem dX4_answered_26 : decode cX4_answered 26 = .ok (.goto 4, 3) := by decide +kernel
theorem dX4_answered_29 : decode cX4_answered 29 = .ok (.iconst (-1), 1) := by decide +kernel
theorem dX4_answered_30 : decode cX4_answered 30 = .ok (.ireturn, 1) := by decide +kernel
theorem dX4_said_0 : decode cX4_said 0 = .ok (.aload_n 0, 1) := by decide +kernel
theorem dX4_said_1 : decode cX4_said 1 = .ok (.iload_n 1, 1) := by decide +kernel
theorem dX4_said_2 : decode cX4_said 2 = .ok (.invokevirtual 145, 3) := by decide +kernel
theorem dX4_said_5 : decode cX4_said 5 = .ok (.ifCond .eq 24, 3) := by decide +kernel
theorem dX4_said_8 : decode cX4_said 8 = .ok (.iload_n 2, 1) := by decide +kernel
theorem dX4_said_9 : decode cX4_said 9 = .ok (.invokestatic 148, 3) := by decide +kernel
theorem dX4_said_12 : decode cX4_said 12 = .ok (.ifCond .eq 17, 3) := by decide +kernel
theorem dX4_said_15 : decode cX4_said 15 = .ok (.aload_n 0, 1) := by decide +kernel
theorem dX4_said_16 : decode cX4_said 16 = .ok (.getfield 60, 3) := by decide +kernel
theorem dX4_said_19 : decode cX4_said 19 = .ok (.bipush 8, 2) := by decide +kernel
theorem dX4_said_21 : decode cX4_said 21 = .ok (.iload_n 1, 1) := by decide +kernel
theorem dX4_said_22 : decode cX4_said 22 = .ok (.imul, 1) := by decide +kernel
theorem dX4_said_23 : decode cX4_said 23 = .ok (.iload_n 2, 1) := by decide +kernel
theorem dX4_said_24 : decode cX4_said 24 = .ok (.iadd, 1) := by decide +kernel
theorem dX4_said_25 : decode cX4_said 25 = .ok (.laload, 1) := by decide +kernel
theorem dX4_said_26 : decode cX4_said 26 = .ok (.goto 4, 3) := by decide +kernel
theorem dX4_said_29 : decode cX4_said 29 = .ok (.lconst 0, 1) := by decide +kernel
theorem dX4_said_30 : decode cX4_said 30 = .ok (.lreturn, 1) := by decide +kernel
theorem dX4_isChosen_0 : decode cX4_isChosen 0 = .ok (.aload_n 0, 1) := by decide +kernel
theorem dX4_isChosen_1 : decode cX4_isChosen 1 = .ok (.getfield 57, 3) := by decide +kernel
theorem dX4_isChosen_4 : decode cX4_isChosen 4 = .ok (.bipush 8, 2) := by decide +kernel
theorem dX4_isChosen_6 : decode cX4_isChosen 6 = .ok (.iload_n 1, 1) := by decide +kernel
theorem dX4_isChosen_7 : decode cX4_isChosen 7 = .ok (.imul, 1) := by decide +kernel
theorem dX4_isChosen_8 : decode cX4_isChosen 8 = .ok (.iload_n 2, 1) := by decide +kernel
theorem dX4_isChosen_9 : decode cX4_isChosen 9 = .ok (.iadd, 1) := by decide +kernel
theorem dX4_isChosen_10 : decode cX4_isChosen 10 = .ok (.iaload, 1) := by decide +kernel
theorem dX4_isChosen_11 : decode cX4_isChosen 11 = .ok (.aload_n 0, 1) := by decide +kernel
theorem dX4_isChosen_12 : decode cX4_isChosen 12 = .ok (.getfield 27, 3) := by decide +kernel
theorem dX4_isChosen_15 : decode cX4_isChosen 15 = .ok (.iload_n 1, 1) := by decide +kernel
theorem dX4_isChosen_16 : decode cX4_isChosen 16 = .ok (.iaload, 1) := by decide +kernel
theorem dX4_isChosen_17 : decode cX4_isChosen 17 = .ok (.iand, 1) := by decide +kernel
theorem dX4_isChosen_18 : decode cX4_isChosen 18 = .ok (.invokestatic 107, 3) := by decide +kernel
theorem dX4_isChosen_21 : decode cX4_isChosen 21 = .ok (.aload_n 0, 1) := by decide +kernel
theorem dX4_isChosen_22 : decode cX4_isChosen 22 = .ok (.getfield 33, 3) := by decide +kernel
theorem dX4_isChosen_25 : decode cX4_isChosen 25 = .ok (.iload_n 1, 1) := by decide +kernel
theorem dX4_isChosen_26 : decode cX4_isChosen 26 = .ok (.iaload, 1) := by decide +kernel
theorem dX4_isChosen_27 : decode cX4_isChosen 27 = .ok (.if_icmp .lt 7, 3) := by decide +kernel
theorem dX4_isChosen_30 : decode cX4_isChosen 30 = .ok (.iconst 1, 1) := by decide +kernel
theorem dX4_isChosen_31 : decode cX4_isChosen 31 = .ok (.goto 4, 3) := by decide +kernel
theorem dX4_isChosen_34 : decode cX4_isChosen 34 = .ok (.iconst 0, 1) := by decide +kernel
theorem dX4_isChosen_35 : decode cX4_isChosen 35 = .ok (.ireturn, 1) := by decide +kernel
theorem dX4_chosen_0 : decode cX4_chosen 0 = .ok (.iconst 1, 1) := by decide +kernel
theorem dX4_chosen_1 : decode cX4_chosen 1 = .ok (.istore_n 2, 1) := by decide +kernel
theorem dX4_chosen_2 : decode cX4_chosen 2 = .ok (.iload_n 2, 1) := by decide +kernel
theorem dX4_chosen_3 : decode cX4_chosen 3 = .ok (.aload_n 0, 1) := by decide +kernel
theorem dX4_chosen_4 : decode cX4_chosen 4 = .ok (.getfield 94, 3) := by decide +kernel
theorem dX4_chosen_7 : decode cX4_chosen 7 = .ok (.if_icmp .gt 27, 3) := by decide +kernel
theorem dX4_chosen_10 : decode cX4_chosen 10 = .ok (.iload_n 1, 1) := by decide +kernel
theorem dX4_chosen_11 : decode cX4_chosen 11 = .ok (.invokestatic 148, 3) := by decide +kernel
theorem dX4_chosen_14 : decode cX4_chosen 14 = .ok (.ifCond .eq 20, 3) := by decide +kernel
theorem dX4_chosen_17 : decode cX4_chosen 17 = .ok (.aload_n 0, 1) := by decide +kernel
theorem dX4_chosen_18 : decode cX4_chosen 18 = .ok (.iload_n 2, 1) := by decide +kernel
theorem dX4_chosen_19 : decode cX4_chosen 19 = .ok (.iload_n 1, 1) := by decide +kernel
theorem dX4_chosen_20 : decode cX4_chosen 20 = .ok (.invokevirtual 180, 3) := by decide +kernel
theorem dX4_chosen_23 : decode cX4_chosen 23 = .ok (.ifCond .eq 5, 3) := by decide +kernel
theorem dX4_chosen_26 : decode cX4_chosen 26 = .ok (.iload_n 2, 1) := by decide +kernel
theorem dX4_chosen_27 : decode cX4_chosen 27 = .ok (.ireturn, 1) := by decide +kernel
theorem dX4_chosen_28 : decode cX4_chosen 28 = .ok (.iinc 2 1, 3) := by decide +kernel
theorem dX4_chosen_31 : decode cX4_chosen 31 = .ok (.goto (-29), 3) := by decide +kernel
theorem dX4_chosen_34 : decode cX4_chosen 34 = .ok (.iconst (-1), 1) := by decide +kernel
theorem dX4_chosen_35 : decode cX4_chosen 35 = .ok (.ireturn, 1) := by decide +kernel
theorem dX4_chosenValue_0 : decode cX4_chosenValue 0 = .ok (.aload_n 0, 1) := by decide +kernel
theorem dX4_chosenValue_1 : decode cX4_chosenValue 1 = .ok (.iload_n 1, 1) := by decide +kernel
theorem dX4_chosenValue_2 : decode cX4_chosenValue 2 = .ok (.invokevirtual 184, 3) := by decide +kernel
theorem dX4_chosenValue_5 : decode cX4_chosenValue 5 = .ok (.istore_n 2, 1) := by decide +kernel
theorem dX4_chosenValue_6 : decode cX4_chosenValue 6 = .ok (.iload_n 2, 1) := by decide +kernel
theorem dX4_chosenValue_7 : decode cX4_chosenValue 7 = .ok (.ifCond .ge 7, 3) := by decide +kernel
theorem dX4_chosenValue_10 : decode cX4_chosenValue 10 = .ok (.lconst 0, 1) := by decide +kernel
theorem dX4_chosenValue_11 : decode cX4_chosenValue 11 = .ok (.goto 14, 3) := by decide +kernel
theorem dX4_chosenValue_14 : decode cX4_chosenValue 14 = .ok (.aload_n 0, 1) := by decide +kernel
theorem dX4_chosenValue_15 : decode cX4_chosenValue 15 = .ok (.getfield 60, 3) := by decide +kernel
theorem dX4_chosenValue_18 : decode cX4_chosenValue 18 = .ok (.bipush 8, 2) := by decide +kernel
theorem dX4_chosenValue_20 : decode cX4_chosenValue 20 = .ok (.iload_n 2, 1) := by decide +kernel
theorem dX4_chosenValue_21 : decode cX4_chosenValue 21 = .ok (.imul, 1) := by decide +kernel
theorem dX4_chosenValue_22 : decode cX4_chosenValue 22 = .ok (.iload_n 1, 1) := by decide +kernel
theorem dX4_chosenValue_23 : decode cX4_chosenValue 23 = .ok (.iadd, 1) := by decide +kernel
theorem dX4_chosenValue_24 : decode cX4_chosenValue 24 = .ok (.laload, 1) := by decide +kernel
theorem dX4_chosenValue_25 : decode cX4_chosenValue 25 = .ok (.lreturn, 1) := by decide +kernel
theorem dX4_isOne_0 : decode cX4_isOne 0 = .ok (.iconst 1, 1) := by decide +kernel
theorem dX4_isOne_1 : decode cX4_isOne 1 = .ok (.istore_n 2, 1) := by decide +kernel
theorem dX4_isOne_2 : decode cX4_isOne 2 = .ok (.iconst 1, 1) := by decide +kernel
theorem dX4_isOne_3 : decode cX4_isOne 3 = .ok (.istore_n 3, 1) := by decide +kernel
theorem dX4_isOne_4 : decode cX4_isOne 4 = .ok (.iload_n 3, 1) := by decide +kernel
theorem dX4_isOne_5 : decode cX4_isOne 5 = .ok (.aload_n 0, 1) := by decide +kernel
theorem dX4_isOne_6 : decode cX4_isOne 6 = .ok (.getfield 94, 3) := by decide +kernel
theorem dX4_isOne_9 : decode cX4_isOne 9 = .ok (.if_icmp .gt 55, 3) := by decide +kernel
theorem dX4_isOne_12 : decode cX4_isOne 12 = .ok (.iload_n 1, 1) := by decide +kernel
theorem dX4_isOne_13 : decode cX4_isOne 13 = .ok (.invokestatic 148, 3) := by decide +kernel
theorem dX4_isOne_16 : decode cX4_isOne 16 = .ok (.ifCond .eq 48, 3) := by decide +kernel
theorem dX4_isOne_19 : decode cX4_isOne 19 = .ok (.aload_n 0, 1) := by decide +kernel
theorem dX4_isOne_20 : decode cX4_isOne 20 = .ok (.iload_n 3, 1) := by decide +kernel
theorem dX4_isOne_21 : decode cX4_isOne 21 = .ok (.iload_n 1, 1) := by decide +kernel
theorem dX4_isOne_22 : decode cX4_isOne 22 = .ok (.invokevirtual 180, 3) := by decide +kernel
theorem dX4_isOne_25 : decode cX4_isOne 25 = .ok (.ifCond .eq 33, 3) := by decide +kernel
theorem dX4_isOne_28 : decode cX4_isOne 28 = .ok (.iload_n 2, 1) := by decide +kernel
theorem dX4_isOne_29 : decode cX4_isOne 29 = .ok (.ifCond .eq 27, 3) := by decide +kernel
theorem dX4_isOne_32 : decode cX4_isOne 32 = .ok (.aload_n 0, 1) := by decide +kernel
theorem dX4_isOne_33 : decode cX4_isOne 33 = .ok (.getfield 60, 3) := by decide +kernel
theorem dX4_isOne_36 : decode cX4_isOne 36 = .ok (.bipush 8, 2) := by decide +kernel
theorem dX4_isOne_38 : decode cX4_isOne 38 = .ok (.iload_n 3, 1) := by decide +kernel
theorem dX4_isOne_39 : decode cX4_isOne 39 = .ok (.imul, 1) := by decide +kernel
theorem dX4_isOne_40 : decode cX4_isOne 40 = .ok (.iload_n 1, 1) := by decide +kernel
theorem dX4_isOne_41 : decode cX4_isOne 41 = .ok (.iadd, 1) := by decide +kernel
theorem dX4_isOne_42 : decode cX4_isOne 42 = .ok (.laload, 1) := by decide +kernel
theorem dX4_isOne_43 : decode cX4_isOne 43 = .ok (.aload_n 0, 1) := by decide +kernel
theorem dX4_isOne_44 : decode cX4_isOne 44 = .ok (.iload_n 1, 1) := by decide +kernel
theorem dX4_isOne_45 : decode cX4_isOne 45 = .ok (.invokevirtual 187, 3) := by decide +kernel
theorem dX4_isOne_48 : decode cX4_isOne 48 = .ok (.lcmp, 1) := by decide +kernel
theorem dX4_isOne_49 : decode cX4_isOne 49 = .ok (.ifCond .ne 7, 3) := by decide +kernel
theorem dX4_isOne_52 : decode cX4_isOne 52 = .ok (.iconst 1, 1) := by decide +kernel
theorem dX4_isOne_53 : decode cX4_isOne 53 = .ok (.goto 4, 3) := by decide +kernel
theorem dX4_isOne_56 : decode cX4_isOne 56 = .ok (.iconst 0, 1) := by decide +kernel
theorem dX4_isOne_57 : decode cX4_isOne 57 = .ok (.istore_n 2, 1) := by decide +kernel
theorem dX4_isOne_58 : decode cX4_isOne 58 = .ok (.iinc 3 1, 3) := by decide +kernel
theorem dX4_isOne_61 : decode cX4_isOne 61 = .ok (.goto (-57), 3) := by decide +kernel
theorem dX4_isOne_64 : decode cX4_isOne 64 = .ok (.iload_n 2, 1) := by decide +kernel
theorem dX4_isOne_65 : decode cX4_isOne 65 = .ok (.ireturn, 1) := by decide +kernel
theorem dX4_air_0 : decode cX4_air 0 = .ok (.iload_n 1, 1) := by decide +kernel
theorem dX4_air_1 : decode cX4_air 1 = .ok (.ifCond .lt 11, 3) := by decide +kernel
theorem dX4_air_4 : decode cX4_air 4 = .ok (.iload_n 1, 1) := by decide +kernel
theorem dX4_air_5 : decode cX4_air 5 = .ok (.aload_n 0, 1) := by decide +kernel
theorem dX4_air_6 : decode cX4_air 6 = .ok (.getfield 97, 3) := by decide +kernel
theorem dX4_air_9 : decode cX4_air 9 = .ok (.if_icmp .lt 5, 3) := by decide +kernel
theorem dX4_air_12 : decode cX4_air 12 = .ok (.iconst (-1), 1) := by decide +kernel
theorem dX4_air_13 : decode cX4_air 13 = .ok (.ireturn, 1) := by decide +kernel
theorem dX4_air_14 : decode cX4_air 14 = .ok (.iload_n 2, 1) := by decide +kernel
theorem dX4_air_15 : decode cX4_air 15 = .ok (.tableswitch 107 0 4 #[33, 40, 47, 54, 61], 33) := by decide +kernel
theorem dX4_air_48 : decode cX4_air 48 = .ok (.aload_n 0, 1) := by decide +kernel
theorem dX4_air_49 : decode cX4_air 49 = .ok (.getfield 63, 3) := by decide +kernel
theorem dX4_air_52 : decode cX4_air 52 = .ok (.iload_n 1, 1) := by decide +kernel
theorem dX4_air_53 : decode cX4_air 53 = .ok (.iaload, 1) := by decide +kernel
theorem dX4_air_54 : decode cX4_air 54 = .ok (.ireturn, 1) := by decide +kernel
theorem dX4_air_55 : decode cX4_air 55 = .ok (.aload_n 0, 1) := by decide +kernel
theorem dX4_air_56 : decode cX4_air 56 = .ok (.getfield 66, 3) := by decide +kernel
theorem dX4_air_59 : decode cX4_air 59 = .ok (.iload_n 1, 1) := by decide +kernel
theorem dX4_air_60 : decode cX4_air 60 = .ok (.iaload, 1) := by decide +kernel
theorem dX4_air_61 : decode cX4_air 61 = .ok (.ireturn, 1) := by decide +kernel
theorem dX4_air_62 : decode cX4_air 62 = .ok (.aload_n 0, 1) := by decide +kernel
theorem dX4_air_63 : decode cX4_air 63 = .ok (.getfield 69, 3) := by decide +kernel
theorem dX4_air_66 : decode cX4_air 66 = .ok (.iload_n 1, 1) := by decide +kernel
theorem dX4_air_67 : decode cX4_air 67 = .ok (.iaload, 1) := by decide +kernel
theorem dX4_air_68 : decode cX4_air 68 = .ok (.ireturn, 1) := by decide +kernel
theorem dX4_air_69 : decode cX4_air 69 = .ok (.aload_n 0, 1) := by decide +kernel
theorem dX4_air_70 : decode cX4_air 70 = .ok (.getfield 72, 3) := by decide +kernel
theorem dX4_air_73 : decode cX4_air 73 = .ok (.iload_n 1, 1) := by decide +kernel
theorem dX4_air_74 : decode cX4_air 74 = .ok (.iaload, 1) := by decide +kernel
theorem dX4_air_75 : decode cX4_air 75 = .ok (.ireturn, 1) := by decide +kernel
theorem dX4_air_76 : decode cX4_air 76 = .ok (.iconst 0, 1) := by decide +kernel
theorem dX4_air_77 : decode cX4_air 77 = .ok (.istore_n 3, 1) := by decide +kernel
theorem dX4_air_78 : decode cX4_air 78 = .ok (.iconst 0, 1) := by decide +kernel
theorem dX4_air_79 : decode cX4_air 79 = .ok (.istore 4, 2) := by decide +kernel
theorem dX4_air_81 : decode cX4_air 81 = .ok (.iload 4, 2) := by decide +kernel
theorem dX4_air_83 : decode cX4_air 83 = .ok (.bipush 8, 2) := by decide +kernel
theorem dX4_air_85 : decode cX4_air 85 = .ok (.if_icmp .ge 35, 3) := by decide +kernel
theorem dX4_air_88 : decode cX4_air 88 = .ok (.iload_n 3, 1) := by decide +kernel
theorem dX4_air_89 : decode cX4_air 89 = .ok (.aload_n 0, 1) := by decide +kernel
theorem dX4_air_90 : decode cX4_air 90 = .ok (.getfield 75, 3) := by decide +kernel
theorem dX4_air_93 : decode cX4_air 93 = .ok (.bipush 8, 2) := by decide +kernel
theorem dX4_air_95 : decode cX4_air 95 = .ok (.iload_n 1, 1) := by decide +kernel
theorem dX4_air_96 : decode cX4_air 96 = .ok (.imul, 1) := by decide +kernel
theorem dX4_air_97 : decode cX4_air 97 = .ok (.iload 4, 2) := by decide +kernel
theorem dX4_air_99 : decode cX4_air 99 = .ok (.iadd, 1) := by decide +kernel
theorem dX4_air_100 : decode cX4_air 100 = .ok (.iaload, 1) := by decide +kernel
theorem dX4_air_101 : decode cX4_air 101 = .ok (.ifCond .le 10, 3) := by decide +kernel
theorem dX4_air_104 : decode cX4_air 104 = .ok (.iconst 1, 1) := by decide +kernel
theorem dX4_air_105 : decode cX4_air 105 = .ok (.iload 4, 2) := by decide +kernel
theorem dX4_air_107 : decode cX4_air 107 = .ok (.ishl, 1) := by decide +kernel
theorem dX4_air_108 : decode cX4_air 108 = .ok (.goto 4, 3) := by decide +kernel
theorem dX4_air_111 : decode cX4_air 111 = .ok (.iconst 0, 1) := by decide +kernel
theorem dX4_air_112 : decode cX4_air 112 = .ok (.ior, 1) := by decide +kernel
theorem dX4_air_113 : decode cX4_air 113 = .ok (.istore_n 3, 1) := by decide +kernel
theorem dX4_air_114 : decode cX4_air 114 = .ok (.iinc 4 1, 3) := by decide +kernel
theorem dX4_air_117 : decode cX4_air 117 = .ok (.goto (-36), 3) := by decide +kernel
theorem dX4_air_120 : decode cX4_air 120 = .ok (.iload_n 3, 1) := by decide +kernel
theorem dX4_air_121 : decode cX4_air 121 = .ok (.ireturn, 1) := by decide +kernel
theorem dX4_air_122 : decode cX4_air 122 = .ok (.iconst (-1), 1) := by decide +kernel
theorem dX4_air_123 : decode cX4_air 123 = .ok (.ireturn, 1) := by decide +kernel
theorem dX4_about_0 : decode cX4_about 0 = .ok (.iload_n 1, 1) := by decide +kernel
theorem dX4_about_1 : decode cX4_about 1 = .ok (.tableswitch 60 0 4 #[35, 40, 45, 50, 55], 35) := by decide +kernel
theorem dX4_about_36 : decode cX4_about 36 = .ok (.aload_n 0, 1) := by decide +kernel
theorem dX4_about_37 : decode cX4_about 37 = .ok (.getfield 90, 3) := by decide +kernel
theorem dX4_about_40 : decode cX4_about 40 = .ok (.ireturn, 1) := by decide +kernel
theorem dX4_about_41 : decode cX4_about 41 = .ok (.aload_n 0, 1) := by decide +kernel
theorem dX4_about_42 : decode cX4_about 42 = .ok (.getfield 94, 3) := by decide +kernel
theorem dX4_about_45 : decode cX4_about 45 = .ok (.ireturn, 1) := by decide +kernel
theorem dX4_about_46 : decode cX4_about 46 = .ok (.aload_n 0, 1) := by decide +kernel
theorem dX4_about_47 : decode cX4_about 47 = .ok (.getfield 111, 3) := by decide +kernel
theorem dX4_about_50 : decode cX4_about 50 = .ok (.ireturn, 1) := by decide +kernel
theorem dX4_about_51 : decode cX4_about 51 = .ok (.aload_n 0, 1) := by decide +kernel
theorem dX4_about_52 : decode cX4_about 52 = .ok (.getfield 97, 3) := by decide +kernel
theorem dX4_about_55 : decode cX4_about 55 = .ok (.ireturn, 1) := by decide +kernel
theorem dX4_about_56 : decode cX4_about 56 = .ok (.aload_n 0, 1) := by decide +kernel
theorem dX4_about_57 : decode cX4_about 57 = .ok (.getfield 100, 3) := by decide +kernel
theorem dX4_about_60 : decode cX4_about 60 = .ok (.ireturn, 1) := by decide +kernel
theorem dX4_about_61 : decode cX4_about 61 = .ok (.iconst (-1), 1) := by decide +kernel
theorem dX4_about_62 : decode cX4_about 62 = .ok (.ireturn, 1) := by decide +kernel
