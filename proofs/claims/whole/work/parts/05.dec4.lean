theorem dX12_init_0 : decode cX12_init 0 = .ok (.aload_n 0, 1) := by decide +kernel
theorem dX12_init_1 : decode cX12_init 1 = .ok (.invokespecial 1, 3) := by decide +kernel
theorem dX12_init_4 : decode cX12_init 4 = .ok (.aload_n 0, 1) := by decide +kernel
theorem dX12_init_5 : decode cX12_init 5 = .ok (.bipush 7, 2) := by decide +kernel
theorem dX12_init_7 : decode cX12_init 7 = .ok (.newarray .int, 2) := by decide +kernel
theorem dX12_init_9 : decode cX12_init 9 = .ok (.putfield 7, 3) := by decide +kernel
theorem dX12_init_12 : decode cX12_init 12 = .ok (.aload_n 0, 1) := by decide +kernel
theorem dX12_init_13 : decode cX12_init 13 = .ok (.bipush 14, 2) := by decide +kernel
theorem dX12_init_15 : decode cX12_init 15 = .ok (.newarray .int, 2) := by decide +kernel
theorem dX12_init_17 : decode cX12_init 17 = .ok (.putfield 13, 3) := by decide +kernel
theorem dX12_init_20 : decode cX12_init 20 = .ok (.aload_n 0, 1) := by decide +kernel
theorem dX12_init_21 : decode cX12_init 21 = .ok (.bipush 14, 2) := by decide +kernel
theorem dX12_init_23 : decode cX12_init 23 = .ok (.newarray .int, 2) := by decide +kernel
theorem dX12_init_25 : decode cX12_init 25 = .ok (.putfield 16, 3) := by decide +kernel
theorem dX12_init_28 : decode cX12_init 28 = .ok (.aload_n 0, 1) := by decide +kernel
theorem dX12_init_29 : decode cX12_init 29 = .ok (.bipush 14, 2) := by decide +kernel
theorem dX12_init_31 : decode cX12_init 31 = .ok (.newarray .int, 2) := by decide +kernel
theorem dX12_init_33 : decode cX12_init 33 = .ok (.putfield 19, 3) := by decide +kernel
theorem dX12_init_36 : decode cX12_init 36 = .ok (.aload_n 0, 1) := by decide +kernel
theorem dX12_init_37 : decode cX12_init 37 = .ok (.bipush 7, 2) := by decide +kernel
theorem dX12_init_39 : decode cX12_init 39 = .ok (.newarray .int, 2) := by decide +kernel
theorem dX12_init_41 : decode cX12_init 41 = .ok (.putfield 22, 3) := by decide +kernel
theorem dX12_init_44 : decode cX12_init 44 = .ok (.aload_n 0, 1) := by decide +kernel
theorem dX12_init_45 : decode cX12_init 45 = .ok (.bipush 7, 2) := by decide +kernel
theorem dX12_init_47 : decode cX12_init 47 = .ok (.newarray .int, 2) := by decide +kernel
theorem dX12_init_49 : decode cX12_init 49 = .ok (.putfield 25, 3) := by decide +kernel
theorem dX12_init_52 : decode cX12_init 52 = .ok (.aload_n 0, 1) := by decide +kernel
theorem dX12_init_53 : decode cX12_init 53 = .ok (.bipush 7, 2) := by decide +kernel
theorem dX12_init_55 : decode cX12_init 55 = .ok (.newarray .int, 2) := by decide +kernel
theorem dX12_init_57 : decode cX12_init 57 = .ok (.putfield 28, 3) := by decide +kernel
theorem dX12_init_60 : decode cX12_init 60 = .ok (.aload_n 0, 1) := by decide +kernel
theorem dX12_init_61 : decode cX12_init 61 = .ok (.bipush 7, 2) := by decide +kernel
theorem dX12_init_63 : decode cX12_init 63 = .ok (.newarray .int, 2) := by decide +kernel
theorem dX12_init_65 : decode cX12_init 65 = .ok (.putfield 31, 3) := by decide +kernel
theorem dX12_init_68 : decode cX12_init 68 = .ok (.aload_n 0, 1) := by decide +kernel
theorem dX12_init_69 : decode cX12_init 69 = .ok (.iconst 4, 1) := by decide +kernel
theorem dX12_init_70 : decode cX12_init 70 = .ok (.newarray .int, 2) := by decide +kernel
theorem dX12_init_72 : decode cX12_init 72 = .ok (.dup, 1) := by decide +kernel
theorem dX12_init_73 : decode cX12_init 73 = .ok (.iconst 0, 1) := by decide +kernel
theorem dX12_init_74 : decode cX12_init 74 = .ok (.bipush 100, 2) := by decide +kernel
theorem dX12_init_76 : decode cX12_init 76 = .ok (.iastore, 1) := by decide +kernel
theorem dX12_init_77 : decode cX12_init 77 = .ok (.dup, 1) := by decide +kernel
theorem dX12_init_78 : decode cX12_init 78 = .ok (.iconst 1, 1) := by decide +kernel
theorem dX12_init_79 : decode cX12_init 79 = .ok (.sipush 300, 3) := by decide +kernel
theorem dX12_init_82 : decode cX12_init 82 = .ok (.iastore, 1) := by decide +kernel
theorem dX12_init_83 : decode cX12_init 83 = .ok (.dup, 1) := by decide +kernel
theorem dX12_init_84 : decode cX12_init 84 = .ok (.iconst 2, 1) := by decide +kernel
theorem dX12_init_85 : decode cX12_init 85 = .ok (.sipush 400, 3) := by decide +kernel
theorem dX12_init_88 : decode cX12_init 88 = .ok (.iastore, 1) := by decide +kernel
theorem dX12_init_89 : decode cX12_init 89 = .ok (.dup, 1) := by decide +kernel
theorem dX12_init_90 : decode cX12_init 90 = .ok (.iconst 3, 1) := by decide +kernel
theorem dX12_init_91 : decode cX12_init 91 = .ok (.iconst 0, 1) := by decide +kernel
theorem dX12_init_92 : decode cX12_init 92 = .ok (.iastore, 1) := by decide +kernel
theorem dX12_init_93 : decode cX12_init 93 = .ok (.putfield 34, 3) := by decide +kernel
theorem dX12_init_96 : decode cX12_init 96 = .ok (.aload_n 0, 1) := by decide +kernel
theorem dX12_init_97 : decode cX12_init 97 = .ok (.bipush 8, 2) := by decide +kernel
theorem dX12_init_99 : decode cX12_init 99 = .ok (.newarray .int, 2) := by decide +kernel
theorem dX12_init_101 : decode cX12_init 101 = .ok (.putfield 37, 3) := by decide +kernel
theorem dX12_init_104 : decode cX12_init 104 = .ok (.aload_n 0, 1) := by decide +kernel
theorem dX12_init_105 : decode cX12_init 105 = .ok (.bipush 8, 2) := by decide +kernel
theorem dX12_init_107 : decode cX12_init 107 = .ok (.newarray .int, 2) := by decide +kernel
theorem dX12_init_109 : decode cX12_init 109 = .ok (.putfield 40, 3) := by decide +kernel
theorem dX12_init_112 : decode cX12_init 112 = .ok (.aload_n 0, 1) := by decide +kernel
theorem dX12_init_113 : decode cX12_init 113 = .ok (.iconst 4, 1) := by decide +kernel
theorem dX12_init_114 : decode cX12_init 114 = .ok (.newarray .int, 2) := by decide +kernel
theorem dX12_init_116 : decode cX12_init 116 = .ok (.putfield 43, 3) := by decide +kernel
theorem dX12_init_119 : decode cX12_init 119 = .ok (.aload_n 0, 1) := by decide +kernel
theorem dX12_init_120 : decode cX12_init 120 = .ok (.iconst 4, 1) := by decide +kernel
theorem dX12_init_121 : decode cX12_init 121 = .ok (.newarray .int, 2) := by decide +kernel
theorem dX12_init_123 : decode cX12_init 123 = .ok (.putfield 46, 3) := by decide +kernel
theorem dX12_init_126 : decode cX12_init 126 = .ok (.aload_n 0, 1) := by decide +kernel
theorem dX12_init_127 : decode cX12_init 127 = .ok (.bipush 8, 2) := by decide +kernel
theorem dX12_init_129 : decode cX12_init 129 = .ok (.newarray .int, 2) := by decide +kernel
theorem dX12_init_131 : decode cX12_init 131 = .ok (.putfield 49, 3) := by decide +kernel
theorem dX12_init_134 : decode cX12_init 134 = .ok (.aload_n 0, 1) := by decide +kernel
theorem dX12_init_135 : decode cX12_init 135 = .ok (.iconst 4, 1) := by decide +kernel
theorem dX12_init_136 : decode cX12_init 136 = .ok (.putfield 52, 3) := by decide +kernel
theorem dX12_init_139 : decode cX12_init 139 = .ok (.aload_n 0, 1) := by decide +kernel
theorem dX12_init_140 : decode cX12_init 140 = .ok (.bipush 64, 2) := by decide +kernel
theorem dX12_init_142 : decode cX12_init 142 = .ok (.newarray .int, 2) := by decide +kernel
theorem dX12_init_144 : decode cX12_init 144 = .ok (.putfield 56, 3) := by decide +kernel
theorem dX12_init_147 : decode cX12_init 147 = .ok (.aload_n 0, 1) := by decide +kernel
theorem dX12_init_148 : decode cX12_init 148 = .ok (.bipush 64, 2) := by decide +kernel
theorem dX12_init_150 : decode cX12_init 150 = .ok (.newarray .int, 2) := by decide +kernel
theorem dX12_init_152 : decode cX12_init 152 = .ok (.putfield 59, 3) := by decide +kernel
theorem dX12_init_155 : decode cX12_init 155 = .ok (.aload_n 0, 1) := by decide +kernel
theorem dX12_init_156 : decode cX12_init 156 = .ok (.bipush 32, 2) := by decide +kernel
theorem dX12_init_158 : decode cX12_init 158 = .ok (.newarray .int, 2) := by decide +kernel
theorem dX12_init_160 : decode cX12_init 160 = .ok (.putfield 62, 3) := by decide +kernel
theorem dX12_init_163 : decode cX12_init 163 = .ok (.aload_n 0, 1) := by decide +kernel
theorem dX12_init_164 : decode cX12_init 164 = .ok (.bipush 32, 2) := by decide +kernel
theorem dX12_init_166 : decode cX12_init 166 = .ok (.newarray .int, 2) := by decide +kernel
theorem dX12_init_168 : decode cX12_init 168 = .ok (.putfield 65, 3) := by decide +kernel
theorem dX12_init_171 : decode cX12_init 171 = .ok (.aload_n 0, 1) := by decide +kernel
theorem dX12_init_172 : decode cX12_init 172 = .ok (.bipush 32, 2) := by decide +kernel
theorem dX12_init_174 : decode cX12_init 174 = .ok (.newarray .int, 2) := by decide +kernel
theorem dX12_init_176 : decode cX12_init 176 = .ok (.putfield 68, 3) := by decide +kernel
theorem dX12_init_179 : decode cX12_init 179 = .ok (.aload_n 0, 1) := by decide +kernel
theorem dX12_init_180 : decode cX12_init 180 = .ok (.bipush 32, 2) := by decide +kernel
theorem dX12_init_182 : decode cX12_init 182 = .ok (.newarray .int, 2) := by decide +kernel
theorem dX12_init_184 : decode cX12_init 184 = .ok (.putfield 71, 3) := by decide +kernel
theorem dX12_init_187 : decode cX12_init 187 = .ok (.aload_n 0, 1) := by decide +kernel
theorem dX12_init_188 : decode cX12_init 188 = .ok (.bipush 32, 2) := by decide +kernel
theorem dX12_init_190 : decode cX12_init 190 = .ok (.newarray .int, 2) := by decide +kernel
theorem dX12_init_192 : decode cX12_init 192 = .ok (.putfield 74, 3) := by decide +kernel
theorem dX12_init_195 : decode cX12_init 195 = .ok (.aload_n 0, 1) := by decide +kernel
theorem dX12_init_196 : decode cX12_init 196 = .ok (.bipush 32, 2) := by decide +kernel
theorem dX12_init_198 : decode cX12_init 198 = .ok (.newarray .int, 2) := by decide +kernel
theorem dX12_init_200 : decode cX12_init 200 = .ok (.putfield 77, 3) := by decide +kernel
theorem dX12_init_203 : decode cX12_init 203 = .ok (.aload_n 0, 1) := by decide +kernel
theorem dX12_init_204 : decode cX12_init 204 = .ok (.sipush 400, 3) := by decide +kernel
theorem dX12_init_207 : decode cX12_init 207 = .ok (.newarray .int, 2) := by decide +kernel
theorem dX12_init_209 : decode cX12_init 209 = .ok (.putfield 80, 3) := by decide +kernel
theorem dX12_init_212 : decode cX12_init 212 = .ok (.aload_n 0, 1) := by decide +kernel
theorem dX12_init_213 : decode cX12_init 213 = .ok (.bipush 7, 2) := by decide +kernel
theorem dX12_init_215 : decode cX12_init 215 = .ok (.newarray .int, 2) := by decide +kernel
theorem dX12_init_217 : decode cX12_init 217 = .ok (.putfield 83, 3) := by decide +kernel
theorem dX12_init_220 : decode cX12_init 220 = .ok (.aload_n 0, 1) := by decide +kernel
theorem dX12_init_221 : decode cX12_init 221 = .ok (.bipush 8, 2) := by decide +kernel
theorem dX12_init_223 : decode cX12_init 223 = .ok (.newarray .int, 2) := by decide +kernel
theorem dX12_init_225 : decode cX12_init 225 = .ok (.putfield 86, 3) := by decide +kernel
theorem dX12_init_228 : decode cX12_init 228 = .ok (.aload_n 0, 1) := by decide +kernel
theorem dX12_init_229 : decode cX12_init 229 = .ok (.bipush 7, 2) := by decide +kernel
theorem dX12_init_231 : decode cX12_init 231 = .ok (.newarray .int, 2) := by decide +kernel
theorem dX12_init_233 : decode cX12_init 233 = .ok (.putfield 89, 3) := by decide +kernel
theorem dX12_init_236 : decode cX12_init 236 = .ok (.aload_n 0, 1) := by decide +kernel
theorem dX12_init_237 : decode cX12_init 237 = .ok (.bipush 8, 2) := by decide +kernel
theorem dX12_init_239 : decode cX12_init 239 = .ok (.newarray .int, 2) := by decide +kernel
theorem dX12_init_241 : decode cX12_init 241 = .ok (.putfield 92, 3) := by decide +kernel
theorem dX12_init_244 : decode cX12_init 244 = .ok (.aload_n 0, 1) := by decide +kernel
theorem dX12_init_245 : decode cX12_init 245 = .ok (.bipush 8, 2) := by decide +kernel
theorem dX12_init_247 : decode cX12_init 247 = .ok (.newarray .int, 2) := by decide +kernel
theorem dX12_init_249 : decode cX12_init 249 = .ok (.putfield 95, 3) := by decide +kernel
theorem dX12_init_252 : decode cX12_init 252 = .ok (.aload_n 0, 1) := by decide +kernel
theorem dX12_init_253 : decode cX12_init 253 = .ok (.bipush 8, 2) := by decide +kernel
theorem dX12_init_255 : decode cX12_init 255 = .ok (.newarray .int, 2) := by decide +kernel
theorem dX12_init_257 : decode cX12_init 257 = .ok (.putfield 98, 3) := by decide +kernel
theorem dX12_init_260 : decode cX12_init 260 = .ok (.aload_n 0, 1) := by decide +kernel
theorem dX12_init_261 : decode cX12_init 261 = .ok (.sipush 7000, 3) := by decide +kernel
theorem dX12_init_264 : decode cX12_init 264 = .ok (.newarray .long, 2) := by decide +kernel
theorem dX12_init_266 : decode cX12_init 266 = .ok (.putfield 101, 3) := by decide +kernel
theorem dX12_init_269 : decode cX12_init 269 = .ok (.aload_n 0, 1) := by decide +kernel
theorem dX12_init_270 : decode cX12_init 270 = .ok (.bipush 16, 2) := by decide +kernel
theorem dX12_init_272 : decode cX12_init 272 = .ok (.newarray .long, 2) := by decide +kernel
theorem dX12_init_274 : decode cX12_init 274 = .ok (.putfield 105, 3) := by decide +kernel
theorem dX12_init_277 : decode cX12_init 277 = .ok (.aload_n 0, 1) := by decide +kernel
theorem dX12_init_278 : decode cX12_init 278 = .ok (.bipush 10, 2) := by decide +kernel
theorem dX12_init_280 : decode cX12_init 280 = .ok (.newarray .int, 2) := by decide +kernel
theorem dX12_init_282 : decode cX12_init 282 = .ok (.putfield 108, 3) := by decide +kernel
theorem dX12_init_285 : decode cX12_init 285 = .ok (.return_, 1) := by decide +kernel
theorem dX12_no_0 : decode cX12_no 0 = .ok (.aload_n 0, 1) := by decide +kernel
theorem dX12_no_1 : decode cX12_no 1 = .ok (.getfield 7, 3) := by decide +kernel
theorem dX12_no_4 : decode cX12_no 4 = .ok (.iload_n 1, 1) := by decide +kernel
theorem dX12_no_5 : decode cX12_no 5 = .ok (.ineg, 1) := by decide +kernel
theorem dX12_no_6 : decode cX12_no 6 = .ok (.dup2, 1) := by decide +kernel
theorem dX12_no_7 : decode cX12_no 7 = .ok (.iaload, 1) := by decide +kernel
theorem dX12_no_8 : decode cX12_no 8 = .ok (.iconst 1, 1) := by decide +kernel
theorem dX12_no_9 : decode cX12_no 9 = .ok (.iadd, 1) := by decide +kernel
theorem dX12_no_10 : decode cX12_no 10 = .ok (.iastore, 1) := by decide +kernel
theorem dX12_no_11 : decode cX12_no 11 = .ok (.iload_n 1, 1) := by decide +kernel
theorem dX12_no_12 : decode cX12_no 12 = .ok (.ireturn, 1) := by decide +kernel
theorem dX12_noLong_0 : decode cX12_noLong 0 = .ok (.aload_n 0, 1) := by decide +kernel
theorem dX12_noLong_1 : decode cX12_noLong 1 = .ok (.getfield 7, 3) := by decide +kernel
theorem dX12_noLong_4 : decode cX12_noLong 4 = .ok (.iload_n 1, 1) := by decide +kernel
theorem dX12_noLong_5 : decode cX12_noLong 5 = .ok (.ineg, 1) := by decide +kernel
theorem dX12_noLong_6 : decode cX12_noLong 6 = .ok (.dup2, 1) := by decide +kernel
theorem dX12_noLong_7 : decode cX12_noLong 7 = .ok (.iaload, 1) := by decide +kernel
theorem dX12_noLong_8 : decode cX12_noLong 8 = .ok (.iconst 1, 1) := by decide +kernel
theorem dX12_noLong_9 : decode cX12_noLong 9 = .ok (.iadd, 1) := by decide +kernel
theorem dX12_noLong_10 : decode cX12_noLong 10 = .ok (.iastore, 1) := by decide +kernel
theorem dX12_noLong_11 : decode cX12_noLong 11 = .ok (.ldc2_w 111, 3) := by decide +kernel
theorem dX12_noLong_14 : decode cX12_noLong 14 = .ok (.iload_n 1, 1) := by decide +kernel
theorem dX12_noLong_15 : decode cX12_noLong 15 = .ok (.i2l, 1) := by decide +kernel
theorem dX12_noLong_16 : decode cX12_noLong 16 = .ok (.lsub, 1) := by decide +kernel
theorem dX12_noLong_17 : decode cX12_noLong 17 = .ok (.lreturn, 1) := by decide +kernel
theorem dX12_isIn_0 : decode cX12_isIn 0 = .ok (.iload_n 0, 1) := by decide +kernel
theorem dX12_isIn_1 : decode cX12_isIn 1 = .ok (.iload_n 1, 1) := by decide +kernel
theorem dX12_isIn_2 : decode cX12_isIn 2 = .ok (.if_icmp .lt 12, 3) := by decide +kernel
theorem dX12_isIn_5 : decode cX12_isIn 5 = .ok (.iload_n 0, 1) := by decide +kernel
theorem dX12_isIn_6 : decode cX12_isIn 6 = .ok (.iload_n 2, 1) := by decide +kernel
theorem dX12_isIn_7 : decode cX12_isIn 7 = .ok (.if_icmp .gt 7, 3) := by decide +kernel
theorem dX12_isIn_10 : decode cX12_isIn 10 = .ok (.iconst 1, 1) := by decide +kernel
theorem dX12_isIn_11 : decode cX12_isIn 11 = .ok (.goto 4, 3) := by decide +kernel
theorem dX12_isIn_14 : decode cX12_isIn 14 = .ok (.iconst 0, 1) := by decide +kernel
theorem dX12_isIn_15 : decode cX12_isIn 15 = .ok (.ireturn, 1) := by decide +kernel
theorem dX12_bound_0 : decode cX12_bound 0 = .ok (.iload_n 0, 1) := by decide +kernel
theorem dX12_bound_1 : decode cX12_bound 1 = .ok (.iload_n 1, 1) := by decide +kernel
theorem dX12_bound_2 : decode cX12_bound 2 = .ok (.if_icmp .ge 8, 3) := by decide +kernel
theorem dX12_bound_5 : decode cX12_bound 5 = .ok (.bipush (-4), 2) := by decide +kernel
theorem dX12_bound_7 : decode cX12_bound 7 = .ok (.goto 14, 3) := by decide +kernel
theorem dX12_bound_10 : decode cX12_bound 10 = .ok (.iload_n 0, 1) := by decide +kernel
theorem dX12_bound_11 : decode cX12_bound 11 = .ok (.iload_n 2, 1) := by decide +kernel
theorem dX12_bound_12 : decode cX12_bound 12 = .ok (.if_icmp .le 8, 3) := by decide +kernel
theorem dX12_bound_15 : decode cX12_bound 15 = .ok (.bipush (-6), 2) := by decide +kernel
theorem dX12_bound_17 : decode cX12_bound 17 = .ok (.goto 4, 3) := by decide +kernel
theorem dX12_bound_20 : decode cX12_bound 20 = .ok (.iconst 0, 1) := by decide +kernel
theorem dX12_bound_21 : decode cX12_bound 21 = .ok (.ireturn, 1) := by decide +kernel
theorem dX12_isPlace_0 : decode cX12_isPlace 0 = .ok (.iload_n 1, 1) := by decide +kernel
theorem dX12_isPlace_1 : decode cX12_isPlace 1 = .ok (.ifCond .lt 15, 3) := by decide +kernel
theorem dX12_isPlace_4 : decode cX12_isPlace 4 = .ok (.iload_n 1, 1) := by decide +kernel
theorem dX12_isPlace_5 : decode cX12_isPlace 5 = .ok (.aload_n 0, 1) := by decide +kernel
theorem dX12_isPlace_6 : decode cX12_isPlace 6 = .ok (.getfield 52, 3) := by decide +kernel
theorem dX12_isPlace_9 : decode cX12_isPlace 9 = .ok (.if_icmp .ge 7, 3) := by decide +kernel
theorem dX12_isPlace_12 : decode cX12_isPlace 12 = .ok (.iconst 1, 1) := by decide +kernel
theorem dX12_isPlace_13 : decode cX12_isPlace 13 = .ok (.goto 4, 3) := by decide +kernel
theorem dX12_isPlace_16 : decode cX12_isPlace 16 = .ok (.iconst 0, 1) := by decide +kernel
theorem dX12_isPlace_17 : decode cX12_isPlace 17 = .ok (.ireturn, 1) := by decide +kernel
theorem dX12_isThing_0 : decode cX12_isThing 0 = .ok (.iload_n 1, 1) := by decide +kernel
theorem dX12_isThing_1 : decode cX12_isThing 1 = .ok (.ifCond .lt 15, 3) := by decide +kernel
theorem dX12_isThing_4 : decode cX12_isThing 4 = .ok (.iload_n 1, 1) := by decide +kernel
theorem dX12_isThing_5 : decode cX12_isThing 5 = .ok (.aload_n 0, 1) := by decide +kernel
theorem dX12_isThing_6 : decode cX12_isThing 6 = .ok (.getfield 113, 3) := by decide +kernel
theorem dX12_isThing_9 : decode cX12_isThing 9 = .ok (.if_icmp .ge 7, 3) := by decide +kernel
theorem dX12_isThing_12 : decode cX12_isThing 12 = .ok (.iconst 1, 1) := by decide +kernel
theorem dX12_isThing_13 : decode cX12_isThing 13 = .ok (.goto 4, 3) := by decide +kernel
theorem dX12_isThing_16 : decode cX12_isThing 16 = .ok (.iconst 0, 1) := by decide +kernel
theorem dX12_isThing_17 : decode cX12_isThing 17 = .ok (.ireturn, 1) := by decide +kernel
theorem dX12_findFar_0 : decode cX12_findFar 0 = .ok (.iconst 0, 1) := by decide +kernel
theorem dX12_findFar_1 : decode cX12_findFar 1 = .ok (.istore_n 1, 1) := by decide +kernel
theorem dX12_findFar_2 : decode cX12_findFar 2 = .ok (.iload_n 1, 1) := by decide +kernel
theorem dX12_findFar_3 : decode cX12_findFar 3 = .ok (.bipush 64, 2) := by decide +kernel
theorem dX12_findFar_5 : decode cX12_findFar 5 = .ok (.if_icmp .ge 32, 3) := by decide +kernel
theorem dX12_findFar_8 : decode cX12_findFar 8 = .ok (.aload_n 0, 1) := by decide +kernel
theorem dX12_findFar_9 : decode cX12_findFar 9 = .ok (.getfield 56, 3) := by decide +kernel
theorem dX12_findFar_12 : decode cX12_findFar 12 = .ok (.iload_n 1, 1) := by decide +kernel
theorem dX12_findFar_13 : decode cX12_findFar 13 = .ok (.iload_n 1, 1) := by decide +kernel
theorem dX12_findFar_14 : decode cX12_findFar 14 = .ok (.bipush 8, 2) := by decide +kernel
theorem dX12_findFar_16 : decode cX12_findFar 16 = .ok (.idiv, 1) := by decide +kernel
theorem dX12_findFar_17 : decode cX12_findFar 17 = .ok (.iload_n 1, 1) := by decide +kernel
theorem dX12_findFar_18 : decode cX12_findFar 18 = .ok (.bipush 8, 2) := by decide +kernel
theorem dX12_findFar_20 : decode cX12_findFar 20 = .ok (.irem, 1) := by decide +kernel
theorem dX12_findFar_21 : decode cX12_findFar 21 = .ok (.if_icmp .ne 7, 3) := by decide +kernel
theorem dX12_findFar_24 : decode cX12_findFar 24 = .ok (.iconst 0, 1) := by decide +kernel
theorem dX12_findFar_25 : decode cX12_findFar 25 = .ok (.goto 5, 3) := by decide +kernel
theorem dX12_findFar_28 : decode cX12_findFar 28 = .ok (.ldc 116, 2) := by decide +kernel
theorem dX12_findFar_30 : decode cX12_findFar 30 = .ok (.iastore, 1) := by decide +kernel
theorem dX12_findFar_31 : decode cX12_findFar 31 = .ok (.iinc 1 1, 3) := by decide +kernel
theorem dX12_findFar_34 : decode cX12_findFar 34 = .ok (.goto (-32), 3) := by decide +kernel
theorem dX12_findFar_37 : decode cX12_findFar 37 = .ok (.iconst 0, 1) := by decide +kernel
theorem dX12_findFar_38 : decode cX12_findFar 38 = .ok (.istore_n 1, 1) := by decide +kernel
theorem dX12_findFar_39 : decode cX12_findFar 39 = .ok (.iload_n 1, 1) := by decide +kernel
theorem dX12_findFar_40 : decode cX12_findFar 40 = .ok (.aload_n 0, 1) := by decide +kernel
theorem dX12_findFar_41 : decode cX12_findFar 41 = .ok (.getfield 117, 3) := by decide +kernel
theorem dX12_findFar_44 : decode cX12_findFar 44 = .ok (.if_icmp .ge 63, 3) := by decide +kernel
theorem dX12_findFar_47 : decode cX12_findFar 47 = .ok (.aload_n 0, 1) := by decide +kernel
theorem dX12_findFar_48 : decode cX12_findFar 48 = .ok (.getfield 56, 3) := by decide +kernel
theorem dX12_findFar_51 : decode cX12_findFar 51 = .ok (.bipush 8, 2) := by decide +kernel
theorem dX12_findFar_53 : decode cX12_findFar 53 = .ok (.aload_n 0, 1) := by decide +kernel
theorem dX12_findFar_54 : decode cX12_findFar 54 = .ok (.getfield 13, 3) := by decide +kernel
theorem dX12_findFar_57 : decode cX12_findFar 57 = .ok (.iload_n 1, 1) := by decide +kernel
theorem dX12_findFar_58 : decode cX12_findFar 58 = .ok (.iaload, 1) := by decide +kernel
theorem dX12_findFar_59 : decode cX12_findFar 59 = .ok (.imul, 1) := by decide +kernel
theorem dX12_findFar_60 : decode cX12_findFar 60 = .ok (.aload_n 0, 1) := by decide +kernel
theorem dX12_findFar_61 : decode cX12_findFar 61 = .ok (.getfield 16, 3) := by decide +kernel
theorem dX12_findFar_64 : decode cX12_findFar 64 = .ok (.iload_n 1, 1) := by decide +kernel
theorem dX12_findFar_65 : decode cX12_findFar 65 = .ok (.iaload, 1) := by decide +kernel
theorem dX12_findFar_66 : decode cX12_findFar 66 = .ok (.iadd, 1) := by decide +kernel
theorem dX12_findFar_67 : decode cX12_findFar 67 = .ok (.aload_n 0, 1) := by decide +kernel
theorem dX12_findFar_68 : decode cX12_findFar 68 = .ok (.getfield 19, 3) := by decide +kernel
theorem dX12_findFar_71 : decode cX12_findFar 71 = .ok (.iload_n 1, 1) := by decide +kernel
theorem dX12_findFar_72 : decode cX12_findFar 72 = .ok (.iaload, 1) := by decide +kernel
theorem dX12_findFar_73 : decode cX12_findFar 73 = .ok (.iastore, 1) := by decide +kernel
theorem dX12_findFar_74 : decode cX12_findFar 74 = .ok (.aload_n 0, 1) := by decide +kernel
theorem dX12_findFar_75 : decode cX12_findFar 75 = .ok (.getfield 56, 3) := by decide +kernel
theorem dX12_findFar_78 : decode cX12_findFar 78 = .ok (.bipush 8, 2) := by decide +kernel
theorem dX12_findFar_80 : decode cX12_findFar 80 = .ok (.aload_n 0, 1) := by decide +kernel
theorem dX12_findFar_81 : decode cX12_findFar 81 = .ok (.getfield 16, 3) := by decide +kernel
theorem dX12_findFar_84 : decode cX12_findFar 84 = .ok (.iload_n 1, 1) := by decide +kernel
theorem dX12_findFar_85 : decode cX12_findFar 85 = .ok (.iaload, 1) := by decide +kernel
theorem dX12_findFar_86 : decode cX12_findFar 86 = .ok (.imul, 1) := by decide +kernel
theorem dX12_findFar_87 : decode cX12_findFar 87 = .ok (.aload_n 0, 1) := by decide +kernel
theorem dX12_findFar_88 : decode cX12_findFar 88 = .ok (.getfield 13, 3) := by decide +kernel
theorem dX12_findFar_91 : decode cX12_findFar 91 = .ok (.iload_n 1, 1) := by decide +kernel
theorem dX12_findFar_92 : decode cX12_findFar 92 = .ok (.iaload, 1) := by decide +kernel
theorem dX12_findFar_93 : decode cX12_findFar 93 = .ok (.iadd, 1) := by decide +kernel
theorem dX12_findFar_94 : decode cX12_findFar 94 = .ok (.aload_n 0, 1) := by decide +kernel
theorem dX12_findFar_95 : decode cX12_findFar 95 = .ok (.getfield 19, 3) := by decide +kernel
theorem dX12_findFar_98 : decode cX12_findFar 98 = .ok (.iload_n 1, 1) := by decide +kernel
theorem dX12_findFar_99 : decode cX12_findFar 99 = .ok (.iaload, 1) := by decide +kernel
theorem dX12_findFar_100 : decode cX12_findFar 100 = .ok (.iastore, 1) := by decide +kernel
theorem dX12_findFar_101 : decode cX12_findFar 101 = .ok (.iinc 1 1, 3) := by decide +kernel
theorem dX12_findFar_104 : decode cX12_findFar 104 = .ok (.goto (-65), 3) := by decide +kernel
theorem dX12_findFar_107 : decode cX12_findFar 107 = .ok (.iconst 0, 1) := by decide +kernel
theorem dX12_findFar_108 : decode cX12_findFar 108 = .ok (.istore_n 1, 1) := by decide +kernel
theorem dX12_findFar_109 : decode cX12_findFar 109 = .ok (.iload_n 1, 1) := by decide +kernel
theorem dX12_findFar_110 : decode cX12_findFar 110 = .ok (.aload_n 0, 1) := by decide +kernel
theorem dX12_findFar_111 : decode cX12_findFar 111 = .ok (.getfield 52, 3) := by decide +kernel
theorem dX12_findFar_114 : decode cX12_findFar 114 = .ok (.if_icmp .ge 95, 3) := by decide +kernel
theorem dX12_findFar_117 : decode cX12_findFar 117 = .ok (.iconst 0, 1) := by decide +kernel
theorem dX12_findFar_118 : decode cX12_findFar 118 = .ok (.istore_n 2, 1) := by decide +kernel
theorem dX12_findFar_119 : decode cX12_findFar 119 = .ok (.iload_n 2, 1) := by decide +kernel
theorem dX12_findFar_120 : decode cX12_findFar 120 = .ok (.aload_n 0, 1) := by decide +kernel
theorem dX12_findFar_121 : decode cX12_findFar 121 = .ok (.getfield 52, 3) := by decide +kernel
theorem dX12_findFar_124 : decode cX12_findFar 124 = .ok (.if_icmp .ge 79, 3) := by decide +kernel
theorem dX12_findFar_127 : decode cX12_findFar 127 = .ok (.iconst 0, 1) := by decide +kernel
theorem dX12_findFar_128 : decode cX12_findFar 128 = .ok (.istore_n 3, 1) := by decide +kernel
theorem dX12_findFar_129 : decode cX12_findFar 129 = .ok (.iload_n 3, 1) := by decide +kernel
theorem dX12_findFar_130 : decode cX12_findFar 130 = .ok (.aload_n 0, 1) := by decide +kernel
theorem dX12_findFar_131 : decode cX12_findFar 131 = .ok (.getfield 52, 3) := by decide +kernel
theorem dX12_findFar_134 : decode cX12_findFar 134 = .ok (.if_icmp .ge 63, 3) := by decide +kernel
theorem dX12_findFar_137 : decode cX12_findFar 137 = .ok (.aload_n 0, 1) := by decide +kernel
theorem dX12_findFar_138 : decode cX12_findFar 138 = .ok (.getfield 56, 3) := by decide +kernel
theorem dX12_findFar_141 : decode cX12_findFar 141 = .ok (.bipush 8, 2) := by decide +kernel
theorem dX12_findFar_143 : decode cX12_findFar 143 = .ok (.iload_n 2, 1) := by decide +kernel
theorem dX12_findFar_144 : decode cX12_findFar 144 = .ok (.imul, 1) := by decide +kernel
theorem dX12_findFar_145 : decode cX12_findFar 145 = .ok (.iload_n 1, 1) := by decide +kernel
theorem dX12_findFar_146 : decode cX12_findFar 146 = .ok (.iadd, 1) := by decide +kernel
theorem dX12_findFar_147 : decode cX12_findFar 147 = .ok (.iaload, 1) := by decide +kernel
theorem dX12_findFar_148 : decode cX12_findFar 148 = .ok (.aload_n 0, 1) := by decide +kernel
theorem dX12_findFar_149 : decode cX12_findFar 149 = .ok (.getfield 56, 3) := by decide +kernel
theorem dX12_findFar_152 : decode cX12_findFar 152 = .ok (.bipush 8, 2) := by decide +kernel
theorem dX12_findFar_154 : decode cX12_findFar 154 = .ok (.iload_n 1, 1) := by decide +kernel
theorem dX12_findFar_155 : decode cX12_findFar 155 = .ok (.imul, 1) := by decide +kernel
theorem dX12_findFar_156 : decode cX12_findFar 156 = .ok (.iload_n 3, 1) := by decide +kernel
theorem dX12_findFar_157 : decode cX12_findFar 157 = .ok (.iadd, 1) := by decide +kernel
theorem dX12_findFar_158 : decode cX12_findFar 158 = .ok (.iaload, 1) := by decide +kernel
theorem dX12_findFar_159 : decode cX12_findFar 159 = .ok (.iadd, 1) := by decide +kernel
theorem dX12_findFar_160 : decode cX12_findFar 160 = .ok (.istore 4, 2) := by decide +kernel
theorem dX12_findFar_162 : decode cX12_findFar 162 = .ok (.iload 4, 2) := by decide +kernel
theorem dX12_findFar_164 : decode cX12_findFar 164 = .ok (.aload_n 0, 1) := by decide +kernel
theorem dX12_findFar_165 : decode cX12_findFar 165 = .ok (.getfield 56, 3) := by decide +kernel
theorem dX12_findFar_168 : decode cX12_findFar 168 = .ok (.bipush 8, 2) := by decide +kernel
theorem dX12_findFar_170 : decode cX12_findFar 170 = .ok (.iload_n 2, 1) := by decide +kernel
theorem dX12_findFar_171 : decode cX12_findFar 171 = .ok (.imul, 1) := by decide +kernel
theorem dX12_findFar_172 : decode cX12_findFar 172 = .ok (.iload_n 3, 1) := by decide +kernel
theorem dX12_findFar_173 : decode cX12_findFar 173 = .ok (.iadd, 1) := by decide +kernel
theorem dX12_findFar_174 : decode cX12_findFar 174 = .ok (.iaload, 1) := by decide +kernel
theorem dX12_findFar_175 : decode cX12_findFar 175 = .ok (.if_icmp .ge 16, 3) := by decide +kernel
theorem dX12_findFar_178 : decode cX12_findFar 178 = .ok (.aload_n 0, 1) := by decide +kernel
theorem dX12_findFar_179 : decode cX12_findFar 179 = .ok (.getfield 56, 3) := by decide +kernel
theorem dX12_findFar_182 : decode cX12_findFar 182 = .ok (.bipush 8, 2) := by decide +kernel
theorem dX12_findFar_184 : decode cX12_findFar 184 = .ok (.iload_n 2, 1) := by decide +kernel
theorem dX12_findFar_185 : decode cX12_findFar 185 = .ok (.imul, 1) := by decide +kernel
theorem dX12_findFar_186 : decode cX12_findFar 186 = .ok (.iload_n 3, 1) := by decide +kernel
theorem dX12_findFar_187 : decode cX12_findFar 187 = .ok (.iadd, 1) := by decide +kernel
theorem dX12_findFar_188 : decode cX12_findFar 188 = .ok (.iload 4, 2) := by decide +kernel
theorem dX12_findFar_190 : decode cX12_findFar 190 = .ok (.iastore, 1) := by decide +kernel
theorem dX12_findFar_191 : decode cX12_findFar 191 = .ok (.iinc 3 1, 3) := by decide +kernel
theorem dX12_findFar_194 : decode cX12_findFar 194 = .ok (.goto (-65), 3) := by decide +kernel
theorem dX12_findFar_197 : decode cX12_findFar 197 = .ok (.iinc 2 1, 3) := by decide +kernel
theorem dX12_findFar_200 : decode cX12_findFar 200 = .ok (.goto (-81), 3) := by decide +kernel
theorem dX12_findFar_203 : decode cX12_findFar 203 = .ok (.iinc 1 1, 3) := by decide +kernel
theorem dX12_findFar_206 : decode cX12_findFar 206 = .ok (.goto (-97), 3) := by decide +kernel
theorem dX12_findFar_209 : decode cX12_findFar 209 = .ok (.return_, 1) := by decide +kernel
theorem dX12_farOf_0 : decode cX12_farOf 0 = .ok (.aload_n 0, 1) := by decide +kernel
theorem dX12_farOf_1 : decode cX12_farOf 1 = .ok (.getfield 56, 3) := by decide +kernel
theorem dX12_farOf_4 : decode cX12_farOf 4 = .ok (.bipush 8, 2) := by decide +kernel
theorem dX12_farOf_6 : decode cX12_farOf 6 = .ok (.iload_n 1, 1) := by decide +kernel
theorem dX12_farOf_7 : decode cX12_farOf 7 = .ok (.imul, 1) := by decide +kernel
theorem dX12_farOf_8 : decode cX12_farOf 8 = .ok (.iload_n 2, 1) := by decide +kernel
theorem dX12_farOf_9 : decode cX12_farOf 9 = .ok (.iadd, 1) := by decide +kernel
theorem dX12_farOf_10 : decode cX12_farOf 10 = .ok (.iaload, 1) := by decide +kernel
theorem dX12_farOf_11 : decode cX12_farOf 11 = .ok (.ireturn, 1) := by decide +kernel
theorem dX12_feed_0 : decode cX12_feed 0 = .ok (.iload_n 1, 1) := by decide +kernel
theorem dX12_feed_1 : decode cX12_feed 1 = .ok (.iconst 1, 1) := by decide +kernel
theorem dX12_feed_2 : decode cX12_feed 2 = .ok (.bipush 8, 2) := by decide +kernel
theorem dX12_feed_4 : decode cX12_feed 4 = .ok (.invokestatic 120, 3) := by decide +kernel
theorem dX12_feed_7 : decode cX12_feed 7 = .ok (.istore 4, 2) := by decide +kernel
theorem dX12_feed_9 : decode cX12_feed 9 = .ok (.iload 4, 2) := by decide +kernel
theorem dX12_feed_11 : decode cX12_feed 11 = .ok (.ifCond .ne 18, 3) := by decide +kernel
theorem dX12_feed_14 : decode cX12_feed 14 = .ok (.aload_n 0, 1) := by decide +kernel
theorem dX12_feed_15 : decode cX12_feed 15 = .ok (.getfield 124, 3) := by decide +kernel
theorem dX12_feed_18 : decode cX12_feed 18 = .ok (.iload_n 1, 1) := by decide +kernel
theorem dX12_feed_19 : decode cX12_feed 19 = .ok (.iadd, 1) := by decide +kernel
theorem dX12_feed_20 : decode cX12_feed 20 = .ok (.bipush 64, 2) := by decide +kernel
theorem dX12_feed_22 : decode cX12_feed 22 = .ok (.if_icmp .le 7, 3) := by decide +kernel
theorem dX12_feed_25 : decode cX12_feed 25 = .ok (.bipush (-6), 2) := by decide +kernel
theorem dX12_feed_27 : decode cX12_feed 27 = .ok (.istore 4, 2) := by decide +kernel
theorem dX12_feed_29 : decode cX12_feed 29 = .ok (.iload 4, 2) := by decide +kernel
theorem dX12_feed_31 : decode cX12_feed 31 = .ok (.ifCond .eq 10, 3) := by decide +kernel
theorem dX12_feed_34 : decode cX12_feed 34 = .ok (.aload_n 0, 1) := by decide +kernel
theorem dX12_feed_35 : decode cX12_feed 35 = .ok (.iload 4, 2) := by decide +kernel
theorem dX12_feed_37 : decode cX12_feed 37 = .ok (.invokevirtual 127, 3) := by decide +kernel
theorem dX12_feed_40 : decode cX12_feed 40 = .ok (.ireturn, 1) := by decide +kernel
theorem dX12_feed_41 : decode cX12_feed 41 = .ok (.iconst 0, 1) := by decide +kernel
theorem dX12_feed_42 : decode cX12_feed 42 = .ok (.istore 5, 2) := by decide +kernel
theorem dX12_feed_44 : decode cX12_feed 44 = .ok (.iload 5, 2) := by decide +kernel
theorem dX12_feed_46 : decode cX12_feed 46 = .ok (.iload_n 1, 1) := by decide +kernel
theorem dX12_feed_47 : decode cX12_feed 47 = .ok (.if_icmp .ge 40, 3) := by decide +kernel
theorem dX12_feed_50 : decode cX12_feed 50 = .ok (.aload_n 0, 1) := by decide +kernel
theorem dX12_feed_51 : decode cX12_feed 51 = .ok (.getfield 59, 3) := by decide +kernel
theorem dX12_feed_54 : decode cX12_feed 54 = .ok (.aload_n 0, 1) := by decide +kernel
theorem dX12_feed_55 : decode cX12_feed 55 = .ok (.getfield 124, 3) := by decide +kernel
theorem dX12_feed_58 : decode cX12_feed 58 = .ok (.lload_n 2, 1) := by decide +kernel
theorem dX12_feed_59 : decode cX12_feed 59 = .ok (.bipush 8, 2) := by decide +kernel
theorem dX12_feed_61 : decode cX12_feed 61 = .ok (.iload 5, 2) := by decide +kernel
theorem dX12_feed_63 : decode cX12_feed 63 = .ok (.imul, 1) := by decide +kernel
theorem dX12_feed_64 : decode cX12_feed 64 = .ok (.lshr, 1) := by decide +kernel
theorem dX12_feed_65 : decode cX12_feed 65 = .ok (.ldc2_w 131, 3) := by decide +kernel
theorem dX12_feed_68 : decode cX12_feed 68 = .ok (.land, 1) := by decide +kernel
theorem dX12_feed_69 : decode cX12_feed 69 = .ok (.l2i, 1) := by decide +kernel
theorem dX12_feed_70 : decode cX12_feed 70 = .ok (.iastore, 1) := by decide +kernel
theorem dX12_feed_71 : decode cX12_feed 71 = .ok (.aload_n 0, 1) := by decide +kernel
theorem dX12_feed_72 : decode cX12_feed 72 = .ok (.dup, 1) := by decide +kernel
theorem dX12_feed_73 : decode cX12_feed 73 = .ok (.getfield 124, 3) := by decide +kernel
theorem dX12_feed_76 : decode cX12_feed 76 = .ok (.iconst 1, 1) := by decide +kernel
theorem dX12_feed_77 : decode cX12_feed 77 = .ok (.iadd, 1) := by decide +kernel
theorem dX12_feed_78 : decode cX12_feed 78 = .ok (.putfield 124, 3) := by decide +kernel
theorem dX12_feed_81 : decode cX12_feed 81 = .ok (.iinc 5 1, 3) := by decide +kernel
theorem dX12_feed_84 : decode cX12_feed 84 = .ok (.goto (-40), 3) := by decide +kernel
theorem dX12_feed_87 : decode cX12_feed 87 = .ok (.aload_n 0, 1) := by decide +kernel
theorem dX12_feed_88 : decode cX12_feed 88 = .ok (.getfield 124, 3) := by decide +kernel
theorem dX12_feed_91 : decode cX12_feed 91 = .ok (.ireturn, 1) := by decide +kernel
theorem dX12_nextByte_0 : decode cX12_nextByte 0 = .ok (.aload_n 0, 1) := by decide +kernel
theorem dX12_nextByte_1 : decode cX12_nextByte 1 = .ok (.getfield 133, 3) := by decide +kernel
theorem dX12_nextByte_4 : decode cX12_nextByte 4 = .ok (.aload_n 0, 1) := by decide +kernel
theorem dX12_nextByte_5 : decode cX12_nextByte 5 = .ok (.getfield 124, 3) := by decide +kernel
theorem dX12_nextByte_8 : decode cX12_nextByte 8 = .ok (.if_icmp .ge 15, 3) := by decide +kernel
theorem dX12_nextByte_11 : decode cX12_nextByte 11 = .ok (.aload_n 0, 1) := by decide +kernel
theorem dX12_nextByte_12 : decode cX12_nextByte 12 = .ok (.getfield 59, 3) := by decide +kernel
theorem dX12_nextByte_15 : decode cX12_nextByte 15 = .ok (.aload_n 0, 1) := by decide +kernel
theorem dX12_nextByte_16 : decode cX12_nextByte 16 = .ok (.getfield 133, 3) := by decide +kernel
theorem dX12_nextByte_19 : decode cX12_nextByte 19 = .ok (.iaload, 1) := by decide +kernel
theorem dX12_nextByte_20 : decode cX12_nextByte 20 = .ok (.goto 4, 3) := by decide +kernel
theorem dX12_nextByte_23 : decode cX12_nextByte 23 = .ok (.iconst (-1), 1) := by decide +kernel
theorem dX12_nextByte_24 : decode cX12_nextByte 24 = .ok (.ireturn, 1) := by decide +kernel
theorem dX12_isNext_0 : decode cX12_isNext 0 = .ok (.aload_n 0, 1) := by decide +kernel
theorem dX12_isNext_1 : decode cX12_isNext 1 = .ok (.invokevirtual 136, 3) := by decide +kernel
theorem dX12_isNext_4 : decode cX12_isNext 4 = .ok (.iload_n 1, 1) := by decide +kernel
theorem dX12_isNext_5 : decode cX12_isNext 5 = .ok (.if_icmp .eq 5, 3) := by decide +kernel
theorem dX12_isNext_8 : decode cX12_isNext 8 = .ok (.iconst 0, 1) := by decide +kernel
theorem dX12_isNext_9 : decode cX12_isNext 9 = .ok (.ireturn, 1) := by decide +kernel
theorem dX12_isNext_10 : decode cX12_isNext 10 = .ok (.aload_n 0, 1) := by decide +kernel
theorem dX12_isNext_11 : decode cX12_isNext 11 = .ok (.dup, 1) := by decide +kernel
theorem dX12_isNext_12 : decode cX12_isNext 12 = .ok (.getfield 133, 3) := by decide +kernel
theorem dX12_isNext_15 : decode cX12_isNext 15 = .ok (.iconst 1, 1) := by decide +kernel
theorem dX12_isNext_16 : decode cX12_isNext 16 = .ok (.iadd, 1) := by decide +kernel
theorem dX12_isNext_17 : decode cX12_isNext 17 = .ok (.putfield 133, 3) := by decide +kernel
theorem dX12_isNext_20 : decode cX12_isNext 20 = .ok (.iconst 1, 1) := by decide +kernel
theorem dX12_isNext_21 : decode cX12_isNext 21 = .ok (.ireturn, 1) := by decide +kernel
theorem dX12_number_0 : decode cX12_number 0 = .ok (.aload_n 0, 1) := by decide +kernel
theorem dX12_number_1 : decode cX12_number 1 = .ok (.invokevirtual 136, 3) := by decide +kernel
theorem dX12_number_4 : decode cX12_number 4 = .ok (.bipush 48, 2) := by decide +kernel
theorem dX12_number_6 : decode cX12_number 6 = .ok (.bipush 57, 2) := by decide +kernel
theorem dX12_number_8 : decode cX12_number 8 = .ok (.invokestatic 140, 3) := by decide +kernel
theorem dX12_number_11 : decode cX12_number 11 = .ok (.ifCond .ne 5, 3) := by decide +kernel
theorem dX12_number_14 : decode cX12_number 14 = .ok (.iconst (-1), 1) := by decide +kernel
theorem dX12_number_15 : decode cX12_number 15 = .ok (.ireturn, 1) := by decide +kernel
theorem dX12_number_16 : decode cX12_number 16 = .ok (.iconst 0, 1) := by decide +kernel
theorem dX12_number_17 : decode cX12_number 17 = .ok (.istore_n 2, 1) := by decide +kernel
theorem dX12_number_18 : decode cX12_number 18 = .ok (.iconst 0, 1) := by decide +kernel
theorem dX12_number_19 : decode cX12_number 19 = .ok (.istore_n 3, 1) := by decide +kernel
theorem dX12_number_20 : decode cX12_number 20 = .ok (.iload_n 3, 1) := by decide +kernel
theorem dX12_number_21 : decode cX12_number 21 = .ok (.iload_n 1, 1) := by decide +kernel
theorem dX12_number_22 : decode cX12_number 22 = .ok (.if_icmp .ge 46, 3) := by decide +kernel
theorem dX12_number_25 : decode cX12_number 25 = .ok (.aload_n 0, 1) := by decide +kernel
theorem dX12_number_26 : decode cX12_number 26 = .ok (.invokevirtual 136, 3) := by decide +kernel
theorem dX12_number_29 : decode cX12_number 29 = .ok (.bipush 48, 2) := by decide +kernel
theorem dX12_number_31 : decode cX12_number 31 = .ok (.bipush 57, 2) := by decide +kernel
theorem dX12_number_33 : decode cX12_number 33 = .ok (.invokestatic 140, 3) := by decide +kernel
theorem dX12_number_36 : decode cX12_number 36 = .ok (.ifCond .eq 32, 3) := by decide +kernel
theorem dX12_number_39 : decode cX12_number 39 = .ok (.bipush 10, 2) := by decide +kernel
theorem dX12_number_41 : decode cX12_number 41 = .ok (.iload_n 2, 1) := by decide +kernel
theorem dX12_number_42 : decode cX12_number 42 = .ok (.imul, 1) := by decide +kernel
theorem dX12_number_43 : decode cX12_number 43 = .ok (.aload_n 0, 1) := by decide +kernel
theorem dX12_number_44 : decode cX12_number 44 = .ok (.invokevirtual 136, 3) := by decide +kernel
theorem dX12_number_47 : decode cX12_number 47 = .ok (.iadd, 1) := by decide +kernel
theorem dX12_number_48 : decode cX12_number 48 = .ok (.bipush 48, 2) := by decide +kernel
theorem dX12_number_50 : decode cX12_number 50 = .ok (.isub, 1) := by decide +kernel
theorem dX12_number_51 : decode cX12_number 51 = .ok (.istore_n 2, 1) := by decide +kernel
theorem dX12_number_52 : decode cX12_number 52 = .ok (.aload_n 0, 1) := by decide +kernel
theorem dX12_number_53 : decode cX12_number 53 = .ok (.dup, 1) := by decide +kernel
theorem dX12_number_54 : decode cX12_number 54 = .ok (.getfield 133, 3) := by decide +kernel
theorem dX12_number_57 : decode cX12_number 57 = .ok (.iconst 1, 1) := by decide +kernel
theorem dX12_number_58 : decode cX12_number 58 = .ok (.iadd, 1) := by decide +kernel
theorem dX12_number_59 : decode cX12_number 59 = .ok (.putfield 133, 3) := by decide +kernel
theorem dX12_number_62 : decode cX12_number 62 = .ok (.iinc 3 1, 3) := by decide +kernel
theorem dX12_number_65 : decode cX12_number 65 = .ok (.goto (-45), 3) := by decide +kernel
theorem dX12_number_68 : decode cX12_number 68 = .ok (.iload_n 2, 1) := by decide +kernel
theorem dX12_number_69 : decode cX12_number 69 = .ok (.ireturn, 1) := by decide +kernel
theorem dX12_kindOf_0 : decode cX12_kindOf 0 = .ok (.iload_n 0, 1) := by decide +kernel
theorem dX12_kindOf_1 : decode cX12_kindOf 1 = .ok (.lookupswitch 71 #[(97, 61), (98, 63), (103, 67), (108, 69), (111, 59), (121, 65)], 59) := by decide +kernel
theorem dX12_kindOf_60 : decode cX12_kindOf 60 = .ok (.iconst 0, 1) := by decide +kernel
theorem dX12_kindOf_61 : decode cX12_kindOf 61 = .ok (.ireturn, 1) := by decide +kernel
theorem dX12_kindOf_62 : decode cX12_kindOf 62 = .ok (.iconst 1, 1) := by decide +kernel
theorem dX12_kindOf_63 : decode cX12_kindOf 63 = .ok (.ireturn, 1) := by decide +kernel
theorem dX12_kindOf_64 : decode cX12_kindOf 64 = .ok (.iconst 2, 1) := by decide +kernel
theorem dX12_kindOf_65 : decode cX12_kindOf 65 = .ok (.ireturn, 1) := by decide +kernel
theorem dX12_kindOf_66 : decode cX12_kindOf 66 = .ok (.iconst 3, 1) := by decide +kernel
theorem dX12_kindOf_67 : decode cX12_kindOf 67 = .ok (.ireturn, 1) := by decide +kernel
theorem dX12_kindOf_68 : decode cX12_kindOf 68 = .ok (.iconst 4, 1) := by decide +kernel
theorem dX12_kindOf_69 : decode cX12_kindOf 69 = .ok (.ireturn, 1) := by decide +kernel
theorem dX12_kindOf_70 : decode cX12_kindOf 70 = .ok (.iconst 5, 1) := by decide +kernel
theorem dX12_kindOf_71 : decode cX12_kindOf 71 = .ok (.ireturn, 1) := by decide +kernel
theorem dX12_kindOf_72 : decode cX12_kindOf 72 = .ok (.iconst (-1), 1) := by decide +kernel
theorem dX12_kindOf_73 : decode cX12_kindOf 73 = .ok (.ireturn, 1) := by decide +kernel
theorem dX12_readsWay_0 : decode cX12_readsWay 0 = .ok (.aload_n 0, 1) := by decide +kernel
theorem dX12_readsWay_1 : decode cX12_readsWay 1 = .ok (.getfield 68, 3) := by decide +kernel
theorem dX12_readsWay_4 : decode cX12_readsWay 4 = .ok (.iload_n 1, 1) := by decide +kernel
theorem dX12_readsWay_5 : decode cX12_readsWay 5 = .ok (.aload_n 0, 1) := by decide +kernel
theorem dX12_readsWay_6 : decode cX12_readsWay 6 = .ok (.iconst 1, 1) := by decide +kernel
theorem dX12_readsWay_7 : decode cX12_readsWay 7 = .ok (.invokevirtual 144, 3) := by decide +kernel
theorem dX12_readsWay_10 : decode cX12_readsWay 10 = .ok (.iastore, 1) := by decide +kernel
theorem dX12_readsWay_11 : decode cX12_readsWay 11 = .ok (.aload_n 0, 1) := by decide +kernel
theorem dX12_readsWay_12 : decode cX12_readsWay 12 = .ok (.getfield 68, 3) := by decide +kernel
theorem dX12_readsWay_15 : decode cX12_readsWay 15 = .ok (.iload_n 1, 1) := by decide +kernel
theorem dX12_readsWay_16 : decode cX12_readsWay 16 = .ok (.iaload, 1) := by decide +kernel
theorem dX12_readsWay_17 : decode cX12_readsWay 17 = .ok (.ifCond .ge 5, 3) := by decide +kernel
theorem dX12_readsWay_20 : decode cX12_readsWay 20 = .ok (.iconst 0, 1) := by decide +kernel
theorem dX12_readsWay_21 : decode cX12_readsWay 21 = .ok (.ireturn, 1) := by decide +kernel
theorem dX12_readsWay_22 : decode cX12_readsWay 22 = .ok (.aload_n 0, 1) := by decide +kernel
theorem dX12_readsWay_23 : decode cX12_readsWay 23 = .ok (.getfield 71, 3) := by decide +kernel
theorem dX12_readsWay_26 : decode cX12_readsWay 26 = .ok (.iload_n 1, 1) := by decide +kernel
theorem dX12_readsWay_27 : decode cX12_readsWay 27 = .ok (.aload_n 0, 1) := by decide +kernel
theorem dX12_readsWay_28 : decode cX12_readsWay 28 = .ok (.iconst 1, 1) := by decide +kernel
theorem dX12_readsWay_29 : decode cX12_readsWay 29 = .ok (.invokevirtual 144, 3) := by decide +kernel
theorem dX12_readsWay_32 : decode cX12_readsWay 32 = .ok (.iastore, 1) := by decide +kernel
theorem dX12_readsWay_33 : decode cX12_readsWay 33 = .ok (.aload_n 0, 1) := by decide +kernel
theorem dX12_readsWay_34 : decode cX12_readsWay 34 = .ok (.getfield 71, 3) := by decide +kernel
theorem dX12_readsWay_37 : decode cX12_readsWay 37 = .ok (.iload_n 1, 1) := by decide +kernel
theorem dX12_readsWay_38 : decode cX12_readsWay 38 = .ok (.iaload, 1) := by decide +kernel
theorem dX12_readsWay_39 : decode cX12_readsWay 39 = .ok (.ifCond .lt 12, 3) := by decide +kernel
theorem dX12_readsWay_42 : decode cX12_readsWay 42 = .ok (.aload_n 0, 1) := by decide +kernel
theorem dX12_readsWay_43 : decode cX12_readsWay 43 = .ok (.bipush 44, 2) := by decide +kernel
theorem dX12_readsWay_45 : decode cX12_readsWay 45 = .ok (.invokevirtual 147, 3) := by decide +kernel
theorem dX12_readsWay_48 : decode cX12_readsWay 48 = .ok (.ifCond .ne 5, 3) := by decide +kernel
theorem dX12_readsWay_51 : decode cX12_readsWay 51 = .ok (.iconst 0, 1) := by decide +kernel
theorem dX12_readsWay_52 : decode cX12_readsWay 52 = .ok (.ireturn, 1) := by decide +kernel
theorem dX12_readsWay_53 : decode cX12_readsWay 53 = .ok (.aload_n 0, 1) := by decide +kernel
theorem dX12_readsWay_54 : decode cX12_readsWay 54 = .ok (.getfield 74, 3) := by decide +kernel
theorem dX12_readsWay_57 : decode cX12_readsWay 57 = .ok (.iload_n 1, 1) := by decide +kernel
theorem dX12_readsWay_58 : decode cX12_readsWay 58 = .ok (.aload_n 0, 1) := by decide +kernel
theorem dX12_readsWay_59 : decode cX12_readsWay 59 = .ok (.iconst 3, 1) := by decide +kernel
theorem dX12_readsWay_60 : decode cX12_readsWay 60 = .ok (.invokevirtual 144, 3) := by decide +kernel
theorem dX12_readsWay_63 : decode cX12_readsWay 63 = .ok (.iastore, 1) := by decide +kernel
theorem dX12_readsWay_64 : decode cX12_readsWay 64 = .ok (.aload_n 0, 1) := by decide +kernel
theorem dX12_readsWay_65 : decode cX12_readsWay 65 = .ok (.getfield 74, 3) := by decide +kernel
theorem dX12_readsWay_68 : decode cX12_readsWay 68 = .ok (.iload_n 1, 1) := by decide +kernel
theorem dX12_readsWay_69 : decode cX12_readsWay 69 = .ok (.iaload, 1) := by decide +kernel
theorem dX12_readsWay_70 : decode cX12_readsWay 70 = .ok (.ifCond .lt 16, 3) := by decide +kernel
theorem dX12_readsWay_73 : decode cX12_readsWay 73 = .ok (.aload_n 0, 1) := by decide +kernel
theorem dX12_readsWay_74 : decode cX12_readsWay 74 = .ok (.bipush 59, 2) := by decide +kernel
theorem dX12_readsWay_76 : decode cX12_readsWay 76 = .ok (.invokevirtual 147, 3) := by decide +kernel
theorem dX12_readsWay_79 : decode cX12_readsWay 79 = .ok (.ifCond .eq 7, 3) := by decide +kernel
theorem dX12_readsWay_82 : decode cX12_readsWay 82 = .ok (.iconst 1, 1) := by decide +kernel
theorem dX12_readsWay_83 : decode cX12_readsWay 83 = .ok (.goto 4, 3) := by decide +kernel
theorem dX12_readsWay_86 : decode cX12_readsWay 86 = .ok (.iconst 0, 1) := by decide +kernel
theorem dX12_readsWay_87 : decode cX12_readsWay 87 = .ok (.ireturn, 1) := by decide +kernel
theorem dX12_readsThing_0 : decode cX12_readsThing 0 = .ok (.aload_n 0, 1) := by decide +kernel
theorem dX12_readsThing_1 : decode cX12_readsThing 1 = .ok (.getfield 68, 3) := by decide +kernel
theorem dX12_readsThing_4 : decode cX12_readsThing 4 = .ok (.iload_n 1, 1) := by decide +kernel
theorem dX12_readsThing_5 : decode cX12_readsThing 5 = .ok (.aload_n 0, 1) := by decide +kernel
theorem dX12_readsThing_6 : decode cX12_readsThing 6 = .ok (.invokevirtual 136, 3) := by decide +kernel
theorem dX12_readsThing_9 : decode cX12_readsThing 9 = .ok (.invokestatic 151, 3) := by decide +kernel
theorem dX12_readsThing_12 : decode cX12_readsThing 12 = .ok (.iastore, 1) := by decide +kernel
theorem dX12_readsThing_13 : decode cX12_readsThing 13 = .ok (.aload_n 0, 1) := by decide +kernel
theorem dX12_readsThing_14 : decode cX12_readsThing 14 = .ok (.getfield 68, 3) := by decide +kernel
theorem dX12_readsThing_17 : decode cX12_readsThing 17 = .ok (.iload_n 1, 1) := by decide +kernel
theorem dX12_readsThing_18 : decode cX12_readsThing 18 = .ok (.iaload, 1) := by decide +kernel
theorem dX12_readsThing_19 : decode cX12_readsThing 19 = .ok (.ifCond .ge 5, 3) := by decide +kernel
theorem dX12_readsThing_22 : decode cX12_readsThing 22 = .ok (.iconst 0, 1) := by decide +kernel
theorem dX12_readsThing_23 : decode cX12_readsThing 23 = .ok (.ireturn, 1) := by decide +kernel
theorem dX12_readsThing_24 : decode cX12_readsThing 24 = .ok (.aload_n 0, 1) := by decide +kernel
theorem dX12_readsThing_25 : decode cX12_readsThing 25 = .ok (.dup, 1) := by decide +kernel
theorem dX12_readsThing_26 : decode cX12_readsThing 26 = .ok (.getfield 133, 3) := by decide +kernel
theorem dX12_readsThing_29 : decode cX12_readsThing 29 = .ok (.iconst 1, 1) := by decide +kernel
theorem dX12_readsThing_30 : decode cX12_readsThing 30 = .ok (.iadd, 1) := by decide +kernel
theorem dX12_readsThing_31 : decode cX12_readsThing 31 = .ok (.putfield 133, 3) := by decide +kernel
theorem dX12_readsThing_34 : decode cX12_readsThing 34 = .ok (.aload_n 0, 1) := by decide +kernel
theorem dX12_readsThing_35 : decode cX12_readsThing 35 = .ok (.getfield 71, 3) := by decide +kernel
theorem dX12_readsThing_38 : decode cX12_readsThing 38 = .ok (.iload_n 1, 1) := by decide +kernel
theorem dX12_readsThing_39 : decode cX12_readsThing 39 = .ok (.aload_n 0, 1) := by decide +kernel
theorem dX12_readsThing_40 : decode cX12_readsThing 40 = .ok (.iconst 1, 1) := by decide +kernel
theorem dX12_readsThing_41 : decode cX12_readsThing 41 = .ok (.invokevirtual 144, 3) := by decide +kernel
theorem dX12_readsThing_44 : decode cX12_readsThing 44 = .ok (.iastore, 1) := by decide +kernel
theorem dX12_readsThing_45 : decode cX12_readsThing 45 = .ok (.aload_n 0, 1) := by decide +kernel
theorem dX12_readsThing_46 : decode cX12_readsThing 46 = .ok (.getfield 71, 3) := by decide +kernel
theorem dX12_readsThing_49 : decode cX12_readsThing 49 = .ok (.iload_n 1, 1) := by decide +kernel
theorem dX12_readsThing_50 : decode cX12_readsThing 50 = .ok (.iaload, 1) := by decide +kernel
theorem dX12_readsThing_51 : decode cX12_readsThing 51 = .ok (.ifCond .ge 5, 3) := by decide +kernel
theorem dX12_readsThing_54 : decode cX12_readsThing 54 = .ok (.iconst 0, 1) := by decide +kernel
theorem dX12_readsThing_55 : decode cX12_readsThing 55 = .ok (.ireturn, 1) := by decide +kernel
theorem dX12_readsThing_56 : decode cX12_readsThing 56 = .ok (.aload_n 0, 1) := by decide +kernel
theorem dX12_readsThing_57 : decode cX12_readsThing 57 = .ok (.getfield 74, 3) := by decide +kernel
theorem dX12_readsThing_60 : decode cX12_readsThing 60 = .ok (.iload_n 1, 1) := by decide +kernel
theorem dX12_readsThing_61 : decode cX12_readsThing 61 = .ok (.aload_n 0, 1) := by decide +kernel
theorem dX12_readsThing_62 : decode cX12_readsThing 62 = .ok (.iconst 2, 1) := by decide +kernel
theorem dX12_readsThing_63 : decode cX12_readsThing 63 = .ok (.invokevirtual 144, 3) := by decide +kernel
theorem dX12_readsThing_66 : decode cX12_readsThing 66 = .ok (.iastore, 1) := by decide +kernel
theorem dX12_readsThing_67 : decode cX12_readsThing 67 = .ok (.aload_n 0, 1) := by decide +kernel
theorem dX12_readsThing_68 : decode cX12_readsThing 68 = .ok (.getfield 74, 3) := by decide +kernel
theorem dX12_readsThing_71 : decode cX12_readsThing 71 = .ok (.iload_n 1, 1) := by decide +kernel
theorem dX12_readsThing_72 : decode cX12_readsThing 72 = .ok (.iaload, 1) := by decide +kernel
theorem dX12_readsThing_73 : decode cX12_readsThing 73 = .ok (.ifCond .lt 12, 3) := by decide +kernel
theorem dX12_readsThing_76 : decode cX12_readsThing 76 = .ok (.aload_n 0, 1) := by decide +kernel
theorem dX12_readsThing_77 : decode cX12_readsThing 77 = .ok (.bipush 44, 2) := by decide +kernel
theorem dX12_readsThing_79 : decode cX12_readsThing 79 = .ok (.invokevirtual 147, 3) := by decide +kernel
theorem dX12_readsThing_82 : decode cX12_readsThing 82 = .ok (.ifCond .ne 5, 3) := by decide +kernel
theorem dX12_readsThing_85 : decode cX12_readsThing 85 = .ok (.iconst 0, 1) := by decide +kernel
theorem dX12_readsThing_86 : decode cX12_readsThing 86 = .ok (.ireturn, 1) := by decide +kernel
theorem dX12_readsThing_87 : decode cX12_readsThing 87 = .ok (.aload_n 0, 1) := by decide +kernel
theorem dX12_readsThing_88 : decode cX12_readsThing 88 = .ok (.getfield 77, 3) := by decide +kernel
theorem dX12_readsThing_91 : decode cX12_readsThing 91 = .ok (.iload_n 1, 1) := by decide +kernel
theorem dX12_readsThing_92 : decode cX12_readsThing 92 = .ok (.aload_n 0, 1) := by decide +kernel
theorem dX12_readsThing_93 : decode cX12_readsThing 93 = .ok (.iconst 3, 1) := by decide +kernel
theorem dX12_readsThing_94 : decode cX12_readsThing 94 = .ok (.invokevirtual 144, 3) := by decide +kernel
theorem dX12_readsThing_97 : decode cX12_readsThing 97 = .ok (.iastore, 1) := by decide +kernel
theorem dX12_readsThing_98 : decode cX12_readsThing 98 = .ok (.aload_n 0, 1) := by decide +kernel
theorem dX12_readsThing_99 : decode cX12_readsThing 99 = .ok (.getfield 77, 3) := by decide +kernel
theorem dX12_readsThing_102 : decode cX12_readsThing 102 = .ok (.iload_n 1, 1) := by decide +kernel
theorem dX12_readsThing_103 : decode cX12_readsThing 103 = .ok (.iaload, 1) := by decide +kernel
theorem dX12_readsThing_104 : decode cX12_readsThing 104 = .ok (.ifCond .lt 16, 3) := by decide +kernel
theorem dX12_readsThing_107 : decode cX12_readsThing 107 = .ok (.aload_n 0, 1) := by decide +kernel
theorem dX12_readsThing_108 : decode cX12_readsThing 108 = .ok (.bipush 59, 2) := by decide +kernel
theorem dX12_readsThing_110 : decode cX12_readsThing 110 = .ok (.invokevirtual 147, 3) := by decide +kernel
theorem dX12_readsThing_113 : decode cX12_readsThing 113 = .ok (.ifCond .eq 7, 3) := by decide +kernel
theorem dX12_readsThing_116 : decode cX12_readsThing 116 = .ok (.iconst 1, 1) := by decide +kernel
theorem dX12_readsThing_117 : decode cX12_readsThing 117 = .ok (.goto 4, 3) := by decide +kernel
theorem dX12_readsThing_120 : decode cX12_readsThing 120 = .ok (.iconst 0, 1) := by decide +kernel
theorem dX12_readsThing_121 : decode cX12_readsThing 121 = .ok (.ireturn, 1) := by decide +kernel
theorem dX12_statement_0 : decode cX12_statement 0 = .ok (.aload_n 0, 1) := by decide +kernel
theorem dX12_statement_1 : decode cX12_statement 1 = .ok (.getfield 154, 3) := by decide +kernel
theorem dX12_statement_4 : decode cX12_statement 4 = .ok (.istore_n 1, 1) := by decide +kernel
theorem dX12_statement_5 : decode cX12_statement 5 = .ok (.aload_n 0, 1) := by decide +kernel
theorem dX12_statement_6 : decode cX12_statement 6 = .ok (.invokevirtual 136, 3) := by decide +kernel
theorem dX12_statement_9 : decode cX12_statement 9 = .ok (.istore_n 2, 1) := by decide +kernel
theorem dX12_statement_10 : decode cX12_statement 10 = .ok (.iload_n 2, 1) := by decide +kernel
theorem dX12_statement_11 : decode cX12_statement 11 = .ok (.bipush 110, 2) := by decide +kernel
theorem dX12_statement_13 : decode cX12_statement 13 = .ok (.if_icmp .eq 17, 3) := by decide +kernel
theorem dX12_statement_16 : decode cX12_statement 16 = .ok (.iload_n 2, 1) := by decide +kernel
theorem dX12_statement_17 : decode cX12_statement 17 = .ok (.bipush 119, 2) := by decide +kernel
theorem dX12_statement_19 : decode cX12_statement 19 = .ok (.if_icmp .eq 11, 3) := by decide +kernel
theorem dX12_statement_22 : decode cX12_statement 22 = .ok (.iload_n 2, 1) := by decide +kernel
theorem dX12_statement_23 : decode cX12_statement 23 = .ok (.bipush 116, 2) := by decide +kernel
theorem dX12_statement_25 : decode cX12_statement 25 = .ok (.if_icmp .eq 5, 3) := by decide +kernel
theorem dX12_statement_28 : decode cX12_statement 28 = .ok (.iconst 0, 1) := by decide +kernel
theorem dX12_statement_29 : decode cX12_statement 29 = .ok (.ireturn, 1) := by decide +kernel
theorem dX12_statement_30 : decode cX12_statement 30 = .ok (.aload_n 0, 1) := by decide +kernel
theorem dX12_statement_31 : decode cX12_statement 31 = .ok (.getfield 62, 3) := by decide +kernel
theorem dX12_statement_34 : decode cX12_statement 34 = .ok (.iload_n 1, 1) := by decide +kernel
theorem dX12_statement_35 : decode cX12_statement 35 = .ok (.iload_n 2, 1) := by decide +kernel
theorem dX12_statement_36 : decode cX12_statement 36 = .ok (.iastore, 1) := by decide +kernel
theorem dX12_statement_37 : decode cX12_statement 37 = .ok (.aload_n 0, 1) := by decide +kernel
theorem dX12_statement_38 : decode cX12_statement 38 = .ok (.getfield 65, 3) := by decide +kernel
theorem dX12_statement_41 : decode cX12_statement 41 = .ok (.iload_n 1, 1) := by decide +kernel
theorem dX12_statement_42 : decode cX12_statement 42 = .ok (.aload_n 0, 1) := by decide +kernel
theorem dX12_statement_43 : decode cX12_statement 43 = .ok (.getfield 133, 3) := by decide +kernel
theorem dX12_statement_46 : decode cX12_statement 46 = .ok (.iastore, 1) := by decide +kernel
theorem dX12_statement_47 : decode cX12_statement 47 = .ok (.aload_n 0, 1) := by decide +kernel
theorem dX12_statement_48 : decode cX12_statement 48 = .ok (.dup, 1) := by decide +kernel
theorem dX12_statement_49 : decode cX12_statement 49 = .ok (.getfield 133, 3) := by decide +kernel
theorem dX12_statement_52 : decode cX12_statement 52 = .ok (.iconst 1, 1) := by decide +kernel
theorem dX12_statement_53 : decode cX12_statement 53 = .ok (.iadd, 1) := by decide +kernel
theorem dX12_statement_54 : decode cX12_statement 54 = .ok (.putfield 133, 3) := by decide +kernel
theorem dX12_statement_57 : decode cX12_statement 57 = .ok (.iload_n 2, 1) := by decide +kernel
theorem dX12_statement_58 : decode cX12_statement 58 = .ok (.bipush 119, 2) := by decide +kernel
theorem dX12_statement_60 : decode cX12_statement 60 = .ok (.if_icmp .ne 9, 3) := by decide +kernel
theorem dX12_statement_63 : decode cX12_statement 63 = .ok (.aload_n 0, 1) := by decide +kernel
theorem dX12_statement_64 : decode cX12_statement 64 = .ok (.iload_n 1, 1) := by decide +kernel
theorem dX12_statement_65 : decode cX12_statement 65 = .ok (.invokevirtual 157, 3) := by decide +kernel
theorem dX12_statement_68 : decode cX12_statement 68 = .ok (.ireturn, 1) := by decide +kernel
theorem dX12_statement_69 : decode cX12_statement 69 = .ok (.iload_n 2, 1) := by decide +kernel
theorem dX12_statement_70 : decode cX12_statement 70 = .ok (.bipush 116, 2) := by decide +kernel
theorem dX12_statement_72 : decode cX12_statement 72 = .ok (.if_icmp .ne 9, 3) := by decide +kernel
theorem dX12_statement_75 : decode cX12_statement 75 = .ok (.aload_n 0, 1) := by decide +kernel
theorem dX12_statement_76 : decode cX12_statement 76 = .ok (.iload_n 1, 1) := by decide +kernel
theorem dX12_statement_77 : decode cX12_statement 77 = .ok (.invokevirtual 160, 3) := by decide +kernel
theorem dX12_statement_80 : decode cX12_statement 80 = .ok (.ireturn, 1) := by decide +kernel
theorem dX12_statement_81 : decode cX12_statement 81 = .ok (.aload_n 0, 1) := by decide +kernel
theorem dX12_statement_82 : decode cX12_statement 82 = .ok (.getfield 68, 3) := by decide +kernel
theorem dX12_statement_85 : decode cX12_statement 85 = .ok (.iload_n 1, 1) := by decide +kernel
theorem dX12_statement_86 : decode cX12_statement 86 = .ok (.aload_n 0, 1) := by decide +kernel
theorem dX12_statement_87 : decode cX12_statement 87 = .ok (.iconst 1, 1) := by decide +kernel
theorem dX12_statement_88 : decode cX12_statement 88 = .ok (.invokevirtual 144, 3) := by decide +kernel
theorem dX12_statement_91 : decode cX12_statement 91 = .ok (.iastore, 1) := by decide +kernel
theorem dX12_statement_92 : decode cX12_statement 92 = .ok (.aload_n 0, 1) := by decide +kernel
theorem dX12_statement_93 : decode cX12_statement 93 = .ok (.getfield 68, 3) := by decide +kernel
theorem dX12_statement_96 : decode cX12_statement 96 = .ok (.iload_n 1, 1) := by decide +kernel
theorem dX12_statement_97 : decode cX12_statement 97 = .ok (.iaload, 1) := by decide +kernel
theorem dX12_statement_98 : decode cX12_statement 98 = .ok (.ifCond .lt 16, 3) := by decide +kernel
theorem dX12_statement_101 : decode cX12_statement 101 = .ok (.aload_n 0, 1) := by decide +kernel
theorem dX12_statement_102 : decode cX12_statement 102 = .ok (.bipush 59, 2) := by decide +kernel
theorem dX12_statement_104 : decode cX12_statement 104 = .ok (.invokevirtual 147, 3) := by decide +kernel
theorem dX12_statement_107 : decode cX12_statement 107 = .ok (.ifCond .eq 7, 3) := by decide +kernel
theorem dX12_statement_110 : decode cX12_statement 110 = .ok (.iconst 1, 1) := by decide +kernel
theorem dX12_statement_111 : decode cX12_statement 111 = .ok (.goto 4, 3) := by decide +kernel
theorem dX12_statement_114 : decode cX12_statement 114 = .ok (.iconst 0, 1) := by decide +kernel
theorem dX12_statement_115 : decode cX12_statement 115 = .ok (.ireturn, 1) := by decide +kernel
theorem dX12_toldPlaces_0 : decode cX12_toldPlaces 0 = .ok (.aload_n 0, 1) := by decide +kernel
theorem dX12_toldPlaces_1 : decode cX12_toldPlaces 1 = .ok (.getfield 34, 3) := by decide +kernel
theorem dX12_toldPlaces_4 : decode cX12_toldPlaces 4 = .ok (.iconst 3, 1) := by decide +kernel
theorem dX12_toldPlaces_5 : decode cX12_toldPlaces 5 = .ok (.iaload, 1) := by decide +kernel
theorem dX12_toldPlaces_6 : decode cX12_toldPlaces 6 = .ok (.aload_n 0, 1) := by decide +kernel
theorem dX12_toldPlaces_7 : decode cX12_toldPlaces 7 = .ok (.getfield 163, 3) := by decide +kernel
theorem dX12_toldPlaces_10 : decode cX12_toldPlaces 10 = .ok (.if_icmp .le 12, 3) := by decide +kernel
theorem dX12_toldPlaces_13 : decode cX12_toldPlaces 13 = .ok (.aload_n 0, 1) := by decide +kernel
theorem dX12_toldPlaces_14 : decode cX12_toldPlaces 14 = .ok (.getfield 34, 3) := by decide +kernel
theorem dX12_toldPlaces_17 : decode cX12_toldPlaces 17 = .ok (.iconst 3, 1) := by decide +kernel
theorem dX12_toldPlaces_18 : decode cX12_toldPlaces 18 = .ok (.iaload, 1) := by decide +kernel
theorem dX12_toldPlaces_19 : decode cX12_toldPlaces 19 = .ok (.goto 7, 3) := by decide +kernel
theorem dX12_toldPlaces_22 : decode cX12_toldPlaces 22 = .ok (.aload_n 0, 1) := by decide +kernel
theorem dX12_toldPlaces_23 : decode cX12_toldPlaces 23 = .ok (.getfield 163, 3) := by decide +kernel
theorem dX12_toldPlaces_26 : decode cX12_toldPlaces 26 = .ok (.istore_n 1, 1) := by decide +kernel
theorem dX12_toldPlaces_27 : decode cX12_toldPlaces 27 = .ok (.iconst 0, 1) := by decide +kernel
theorem dX12_toldPlaces_28 : decode cX12_toldPlaces 28 = .ok (.istore_n 2, 1) := by decide +kernel
theorem dX12_toldPlaces_29 : decode cX12_toldPlaces 29 = .ok (.iload_n 2, 1) := by decide +kernel
theorem dX12_toldPlaces_30 : decode cX12_toldPlaces 30 = .ok (.aload_n 0, 1) := by decide +kernel
theorem dX12_toldPlaces_31 : decode cX12_toldPlaces 31 = .ok (.getfield 117, 3) := by decide +kernel
theorem dX12_toldPlaces_34 : decode cX12_toldPlaces 34 = .ok (.if_icmp .ge 51, 3) := by decide +kernel
theorem dX12_toldPlaces_37 : decode cX12_toldPlaces 37 = .ok (.aload_n 0, 1) := by decide +kernel
theorem dX12_toldPlaces_38 : decode cX12_toldPlaces 38 = .ok (.getfield 13, 3) := by decide +kernel
theorem dX12_toldPlaces_41 : decode cX12_toldPlaces 41 = .ok (.iload_n 2, 1) := by decide +kernel
theorem dX12_toldPlaces_42 : decode cX12_toldPlaces 42 = .ok (.iaload, 1) := by decide +kernel
theorem dX12_toldPlaces_43 : decode cX12_toldPlaces 43 = .ok (.iload_n 1, 1) := by decide +kernel
theorem dX12_toldPlaces_44 : decode cX12_toldPlaces 44 = .ok (.if_icmp .le 12, 3) := by decide +kernel
theorem dX12_toldPlaces_47 : decode cX12_toldPlaces 47 = .ok (.aload_n 0, 1) := by decide +kernel
theorem dX12_toldPlaces_48 : decode cX12_toldPlaces 48 = .ok (.getfield 13, 3) := by decide +kernel
theorem dX12_toldPlaces_51 : decode cX12_toldPlaces 51 = .ok (.iload_n 2, 1) := by decide +kernel
theorem dX12_toldPlaces_52 : decode cX12_toldPlaces 52 = .ok (.iaload, 1) := by decide +kernel
theorem dX12_toldPlaces_53 : decode cX12_toldPlaces 53 = .ok (.goto 4, 3) := by decide +kernel
theorem dX12_toldPlaces_56 : decode cX12_toldPlaces 56 = .ok (.iload_n 1, 1) := by decide +kernel
theorem dX12_toldPlaces_57 : decode cX12_toldPlaces 57 = .ok (.istore_n 1, 1) := by decide +kernel
theorem dX12_toldPlaces_58 : decode cX12_toldPlaces 58 = .ok (.aload_n 0, 1) := by decide +kernel
theorem dX12_toldPlaces_59 : decode cX12_toldPlaces 59 = .ok (.getfield 16, 3) := by decide +kernel
theorem dX12_toldPlaces_62 : decode cX12_toldPlaces 62 = .ok (.iload_n 2, 1) := by decide +kernel
theorem dX12_toldPlaces_63 : decode cX12_toldPlaces 63 = .ok (.iaload, 1) := by decide +kernel
theorem dX12_toldPlaces_64 : decode cX12_toldPlaces 64 = .ok (.iload_n 1, 1) := by decide +kernel
theorem dX12_toldPlaces_65 : decode cX12_toldPlaces 65 = .ok (.if_icmp .le 12, 3) := by decide +kernel
theorem dX12_toldPlaces_68 : decode cX12_toldPlaces 68 = .ok (.aload_n 0, 1) := by decide +kernel
theorem dX12_toldPlaces_69 : decode cX12_toldPlaces 69 = .ok (.getfield 16, 3) := by decide +kernel
theorem dX12_toldPlaces_72 : decode cX12_toldPlaces 72 = .ok (.iload_n 2, 1) := by decide +kernel
theorem dX12_toldPlaces_73 : decode cX12_toldPlaces 73 = .ok (.iaload, 1) := by decide +kernel
theorem dX12_toldPlaces_74 : decode cX12_toldPlaces 74 = .ok (.goto 4, 3) := by decide +kernel
theorem dX12_toldPlaces_77 : decode cX12_toldPlaces 77 = .ok (.iload_n 1, 1) := by decide +kernel
theorem dX12_toldPlaces_78 : decode cX12_toldPlaces 78 = .ok (.istore_n 1, 1) := by decide +kernel
theorem dX12_toldPlaces_79 : decode cX12_toldPlaces 79 = .ok (.iinc 2 1, 3) := by decide +kernel
theorem dX12_toldPlaces_82 : decode cX12_toldPlaces 82 = .ok (.goto (-53), 3) := by decide +kernel
theorem dX12_toldPlaces_85 : decode cX12_toldPlaces 85 = .ok (.iconst 0, 1) := by decide +kernel
theorem dX12_toldPlaces_86 : decode cX12_toldPlaces 86 = .ok (.istore_n 2, 1) := by decide +kernel
theorem dX12_toldPlaces_87 : decode cX12_toldPlaces 87 = .ok (.iload_n 2, 1) := by decide +kernel
theorem dX12_toldPlaces_88 : decode cX12_toldPlaces 88 = .ok (.aload_n 0, 1) := by decide +kernel
theorem dX12_toldPlaces_89 : decode cX12_toldPlaces 89 = .ok (.getfield 113, 3) := by decide +kernel
theorem dX12_toldPlaces_92 : decode cX12_toldPlaces 92 = .ok (.if_icmp .ge 30, 3) := by decide +kernel
theorem dX12_toldPlaces_95 : decode cX12_toldPlaces 95 = .ok (.aload_n 0, 1) := by decide +kernel
theorem dX12_toldPlaces_96 : decode cX12_toldPlaces 96 = .ok (.getfield 25, 3) := by decide +kernel
theorem dX12_toldPlaces_99 : decode cX12_toldPlaces 99 = .ok (.iload_n 2, 1) := by decide +kernel
theorem dX12_toldPlaces_100 : decode cX12_toldPlaces 100 = .ok (.iaload, 1) := by decide +kernel
theorem dX12_toldPlaces_101 : decode cX12_toldPlaces 101 = .ok (.iload_n 1, 1) := by decide +kernel
theorem dX12_toldPlaces_102 : decode cX12_toldPlaces 102 = .ok (.if_icmp .le 12, 3) := by decide +kernel
theorem dX12_toldPlaces_105 : decode cX12_toldPlaces 105 = .ok (.aload_n 0, 1) := by decide +kernel
theorem dX12_toldPlaces_106 : decode cX12_toldPlaces 106 = .ok (.getfield 25, 3) := by decide +kernel
theorem dX12_toldPlaces_109 : decode cX12_toldPlaces 109 = .ok (.iload_n 2, 1) := by decide +kernel
theorem dX12_toldPlaces_110 : decode cX12_toldPlaces 110 = .ok (.iaload, 1) := by decide +kernel
theorem dX12_toldPlaces_111 : decode cX12_toldPlaces 111 = .ok (.goto 4, 3) := by decide +kernel
theorem dX12_toldPlaces_114 : decode cX12_toldPlaces 114 = .ok (.iload_n 1, 1) := by decide +kernel
theorem dX12_toldPlaces_115 : decode cX12_toldPlaces 115 = .ok (.istore_n 1, 1) := by decide +kernel
theorem dX12_toldPlaces_116 : decode cX12_toldPlaces 116 = .ok (.iinc 2 1, 3) := by decide +kernel
theorem dX12_toldPlaces_119 : decode cX12_toldPlaces 119 = .ok (.goto (-32), 3) := by decide +kernel
theorem dX12_toldPlaces_122 : decode cX12_toldPlaces 122 = .ok (.iconst 0, 1) := by decide +kernel
theorem dX12_toldPlaces_123 : decode cX12_toldPlaces 123 = .ok (.istore_n 2, 1) := by decide +kernel
theorem dX12_toldPlaces_124 : decode cX12_toldPlaces 124 = .ok (.iload_n 2, 1) := by decide +kernel
theorem dX12_toldPlaces_125 : decode cX12_toldPlaces 125 = .ok (.aload_n 0, 1) := by decide +kernel
theorem dX12_toldPlaces_126 : decode cX12_toldPlaces 126 = .ok (.getfield 166, 3) := by decide +kernel
theorem dX12_toldPlaces_129 : decode cX12_toldPlaces 129 = .ok (.if_icmp .ge 30, 3) := by decide +kernel
theorem dX12_toldPlaces_132 : decode cX12_toldPlaces 132 = .ok (.aload_n 0, 1) := by decide +kernel
theorem dX12_toldPlaces_133 : decode cX12_toldPlaces 133 = .ok (.getfield 43, 3) := by decide +kernel
theorem dX12_toldPlaces_136 : decode cX12_toldPlaces 136 = .ok (.iload_n 2, 1) := by decide +kernel
theorem dX12_toldPlaces_137 : decode cX12_toldPlaces 137 = .ok (.iaload, 1) := by decide +kernel
theorem dX12_toldPlaces_138 : decode cX12_toldPlaces 138 = .ok (.iload_n 1, 1) := by decide +kernel
theorem dX12_toldPlaces_139 : decode cX12_toldPlaces 139 = .ok (.if_icmp .le 12, 3) := by decide +kernel
theorem dX12_toldPlaces_142 : decode cX12_toldPlaces 142 = .ok (.aload_n 0, 1) := by decide +kernel
theorem dX12_toldPlaces_143 : decode cX12_toldPlaces 143 = .ok (.getfield 43, 3) := by decide +kernel
theorem dX12_toldPlaces_146 : decode cX12_toldPlaces 146 = .ok (.iload_n 2, 1) := by decide +kernel
theorem dX12_toldPlaces_147 : decode cX12_toldPlaces 147 = .ok (.iaload, 1) := by decide +kernel
theorem dX12_toldPlaces_148 : decode cX12_toldPlaces 148 = .ok (.goto 4, 3) := by decide +kernel
theorem dX12_toldPlaces_151 : decode cX12_toldPlaces 151 = .ok (.iload_n 1, 1) := by decide +kernel
theorem dX12_toldPlaces_152 : decode cX12_toldPlaces 152 = .ok (.istore_n 1, 1) := by decide +kernel
theorem dX12_toldPlaces_153 : decode cX12_toldPlaces 153 = .ok (.iinc 2 1, 3) := by decide +kernel
theorem dX12_toldPlaces_156 : decode cX12_toldPlaces 156 = .ok (.goto (-32), 3) := by decide +kernel
theorem dX12_toldPlaces_159 : decode cX12_toldPlaces 159 = .ok (.iconst 0, 1) := by decide +kernel
theorem dX12_toldPlaces_160 : decode cX12_toldPlaces 160 = .ok (.istore_n 2, 1) := by decide +kernel
theorem dX12_toldPlaces_161 : decode cX12_toldPlaces 161 = .ok (.iload_n 2, 1) := by decide +kernel
theorem dX12_toldPlaces_162 : decode cX12_toldPlaces 162 = .ok (.aload_n 0, 1) := by decide +kernel
theorem dX12_toldPlaces_163 : decode cX12_toldPlaces 163 = .ok (.getfield 169, 3) := by decide +kernel
theorem dX12_toldPlaces_166 : decode cX12_toldPlaces 166 = .ok (.if_icmp .ge 30, 3) := by decide +kernel
theorem dX12_toldPlaces_169 : decode cX12_toldPlaces 169 = .ok (.aload_n 0, 1) := by decide +kernel
theorem dX12_toldPlaces_170 : decode cX12_toldPlaces 170 = .ok (.getfield 49, 3) := by decide +kernel
theorem dX12_toldPlaces_173 : decode cX12_toldPlaces 173 = .ok (.iload_n 2, 1) := by decide +kernel
theorem dX12_toldPlaces_174 : decode cX12_toldPlaces 174 = .ok (.iaload, 1) := by decide +kernel
theorem dX12_toldPlaces_175 : decode cX12_toldPlaces 175 = .ok (.iload_n 1, 1) := by decide +kernel
theorem dX12_toldPlaces_176 : decode cX12_toldPlaces 176 = .ok (.if_icmp .le 12, 3) := by decide +kernel
theorem dX12_toldPlaces_179 : decode cX12_toldPlaces 179 = .ok (.aload_n 0, 1) := by decide +kernel
theorem dX12_toldPlaces_180 : decode cX12_toldPlaces 180 = .ok (.getfield 49, 3) := by decide +kernel
theorem dX12_toldPlaces_183 : decode cX12_toldPlaces 183 = .ok (.iload_n 2, 1) := by decide +kernel
theorem dX12_toldPlaces_184 : decode cX12_toldPlaces 184 = .ok (.iaload, 1) := by decide +kernel
theorem dX12_toldPlaces_185 : decode cX12_toldPlaces 185 = .ok (.goto 4, 3) := by decide +kernel
theorem dX12_toldPlaces_188 : decode cX12_toldPlaces 188 = .ok (.iload_n 1, 1) := by decide +kernel
theorem dX12_toldPlaces_189 : decode cX12_toldPlaces 189 = .ok (.istore_n 1, 1) := by decide +kernel
theorem dX12_toldPlaces_190 : decode cX12_toldPlaces 190 = .ok (.iinc 2 1, 3) := by decide +kernel
theorem dX12_toldPlaces_193 : decode cX12_toldPlaces 193 = .ok (.goto (-32), 3) := by decide +kernel
theorem dX12_toldPlaces_196 : decode cX12_toldPlaces 196 = .ok (.iconst 0, 1) := by decide +kernel
theorem dX12_toldPlaces_197 : decode cX12_toldPlaces 197 = .ok (.istore_n 2, 1) := by decide +kernel
theorem dX12_toldPlaces_198 : decode cX12_toldPlaces 198 = .ok (.iload_n 2, 1) := by decide +kernel
theorem dX12_toldPlaces_199 : decode cX12_toldPlaces 199 = .ok (.bipush 8, 2) := by decide +kernel
theorem dX12_toldPlaces_201 : decode cX12_toldPlaces 201 = .ok (.if_icmp .ge 29, 3) := by decide +kernel
theorem dX12_toldPlaces_204 : decode cX12_toldPlaces 204 = .ok (.aload_n 0, 1) := by decide +kernel
theorem dX12_toldPlaces_205 : decode cX12_toldPlaces 205 = .ok (.getfield 37, 3) := by decide +kernel
theorem dX12_toldPlaces_208 : decode cX12_toldPlaces 208 = .ok (.iload_n 2, 1) := by decide +kernel
theorem dX12_toldPlaces_209 : decode cX12_toldPlaces 209 = .ok (.iaload, 1) := by decide +kernel
theorem dX12_toldPlaces_210 : decode cX12_toldPlaces 210 = .ok (.ifCond .le 12, 3) := by decide +kernel
theorem dX12_toldPlaces_213 : decode cX12_toldPlaces 213 = .ok (.iload_n 2, 1) := by decide +kernel
theorem dX12_toldPlaces_214 : decode cX12_toldPlaces 214 = .ok (.iload_n 1, 1) := by decide +kernel
theorem dX12_toldPlaces_215 : decode cX12_toldPlaces 215 = .ok (.if_icmp .le 7, 3) := by decide +kernel
theorem dX12_toldPlaces_218 : decode cX12_toldPlaces 218 = .ok (.iload_n 2, 1) := by decide +kernel
theorem dX12_toldPlaces_219 : decode cX12_toldPlaces 219 = .ok (.goto 4, 3) := by decide +kernel
theorem dX12_toldPlaces_222 : decode cX12_toldPlaces 222 = .ok (.iload_n 1, 1) := by decide +kernel
theorem dX12_toldPlaces_223 : decode cX12_toldPlaces 223 = .ok (.istore_n 1, 1) := by decide +kernel
theorem dX12_toldPlaces_224 : decode cX12_toldPlaces 224 = .ok (.iinc 2 1, 3) := by decide +kernel
theorem dX12_toldPlaces_227 : decode cX12_toldPlaces 227 = .ok (.goto (-29), 3) := by decide +kernel
theorem dX12_toldPlaces_230 : decode cX12_toldPlaces 230 = .ok (.iload_n 1, 1) := by decide +kernel
theorem dX12_toldPlaces_231 : decode cX12_toldPlaces 231 = .ok (.iconst 1, 1) := by decide +kernel
theorem dX12_toldPlaces_232 : decode cX12_toldPlaces 232 = .ok (.iadd, 1) := by decide +kernel
theorem dX12_toldPlaces_233 : decode cX12_toldPlaces 233 = .ok (.ireturn, 1) := by decide +kernel
theorem dX12_comesWay_0 : decode cX12_comesWay 0 = .ok (.aload_n 0, 1) := by decide +kernel
theorem dX12_comesWay_1 : decode cX12_comesWay 1 = .ok (.iload_n 1, 1) := by decide +kernel
theorem dX12_comesWay_2 : decode cX12_comesWay 2 = .ok (.invokevirtual 172, 3) := by decide +kernel
theorem dX12_comesWay_5 : decode cX12_comesWay 5 = .ok (.ifCond .eq 36, 3) := by decide +kernel
theorem dX12_comesWay_8 : decode cX12_comesWay 8 = .ok (.aload_n 0, 1) := by decide +kernel
theorem dX12_comesWay_9 : decode cX12_comesWay 9 = .ok (.iload_n 2, 1) := by decide +kernel
theorem dX12_comesWay_10 : decode cX12_comesWay 10 = .ok (.invokevirtual 172, 3) := by decide +kernel
theorem dX12_comesWay_13 : decode cX12_comesWay 13 = .ok (.ifCond .eq 28, 3) := by decide +kernel
theorem dX12_comesWay_16 : decode cX12_comesWay 16 = .ok (.iload_n 1, 1) := by decide +kernel
theorem dX12_comesWay_17 : decode cX12_comesWay 17 = .ok (.iload_n 2, 1) := by decide +kernel
theorem dX12_comesWay_18 : decode cX12_comesWay 18 = .ok (.if_icmp .eq 23, 3) := by decide +kernel
theorem dX12_comesWay_21 : decode cX12_comesWay 21 = .ok (.iload_n 3, 1) := by decide +kernel
theorem dX12_comesWay_22 : decode cX12_comesWay 22 = .ok (.iconst 1, 1) := by decide +kernel
theorem dX12_comesWay_23 : decode cX12_comesWay 23 = .ok (.sipush 200, 3) := by decide +kernel
theorem dX12_comesWay_26 : decode cX12_comesWay 26 = .ok (.invokestatic 140, 3) := by decide +kernel
theorem dX12_comesWay_29 : decode cX12_comesWay 29 = .ok (.ifCond .eq 12, 3) := by decide +kernel
theorem dX12_comesWay_32 : decode cX12_comesWay 32 = .ok (.aload_n 0, 1) := by decide +kernel
theorem dX12_comesWay_33 : decode cX12_comesWay 33 = .ok (.getfield 117, 3) := by decide +kernel
theorem dX12_comesWay_36 : decode cX12_comesWay 36 = .ok (.bipush 14, 2) := by decide +kernel
theorem dX12_comesWay_38 : decode cX12_comesWay 38 = .ok (.if_icmp .ne 5, 3) := by decide +kernel
theorem dX12_comesWay_41 : decode cX12_comesWay 41 = .ok (.iconst 0, 1) := by decide +kernel
theorem dX12_comesWay_42 : decode cX12_comesWay 42 = .ok (.ireturn, 1) := by decide +kernel
theorem dX12_comesWay_43 : decode cX12_comesWay 43 = .ok (.iconst 0, 1) := by decide +kernel
theorem dX12_comesWay_44 : decode cX12_comesWay 44 = .ok (.istore 4, 2) := by decide +kernel
theorem dX12_comesWay_46 : decode cX12_comesWay 46 = .ok (.iload 4, 2) := by decide +kernel
theorem dX12_comesWay_48 : decode cX12_comesWay 48 = .ok (.aload_n 0, 1) := by decide +kernel
theorem dX12_comesWay_49 : decode cX12_comesWay 49 = .ok (.getfield 117, 3) := by decide +kernel
theorem dX12_comesWay_52 : decode cX12_comesWay 52 = .ok (.if_icmp .ge 55, 3) := by decide +kernel
theorem dX12_comesWay_55 : decode cX12_comesWay 55 = .ok (.aload_n 0, 1) := by decide +kernel
theorem dX12_comesWay_56 : decode cX12_comesWay 56 = .ok (.getfield 13, 3) := by decide +kernel
theorem dX12_comesWay_59 : decode cX12_comesWay 59 = .ok (.iload 4, 2) := by decide +kernel
theorem dX12_comesWay_61 : decode cX12_comesWay 61 = .ok (.iaload, 1) := by decide +kernel
theorem dX12_comesWay_62 : decode cX12_comesWay 62 = .ok (.iload_n 1, 1) := by decide +kernel
theorem dX12_comesWay_63 : decode cX12_comesWay 63 = .ok (.if_icmp .ne 14, 3) := by decide +kernel
theorem dX12_comesWay_66 : decode cX12_comesWay 66 = .ok (.aload_n 0, 1) := by decide +kernel
theorem dX12_comesWay_67 : decode cX12_comesWay 67 = .ok (.getfield 16, 3) := by decide +kernel
theorem dX12_comesWay_70 : decode cX12_comesWay 70 = .ok (.iload 4, 2) := by decide +kernel
theorem dX12_comesWay_72 : decode cX12_comesWay 72 = .ok (.iaload, 1) := by decide +kernel
theorem dX12_comesWay_73 : decode cX12_comesWay 73 = .ok (.iload_n 2, 1) := by decide +kernel
theorem dX12_comesWay_74 : decode cX12_comesWay 74 = .ok (.if_icmp .eq 25, 3) := by decide +kernel
theorem dX12_comesWay_77 : decode cX12_comesWay 77 = .ok (.aload_n 0, 1) := by decide +kernel
theorem dX12_comesWay_78 : decode cX12_comesWay 78 = .ok (.getfield 13, 3) := by decide +kernel
theorem dX12_comesWay_81 : decode cX12_comesWay 81 = .ok (.iload 4, 2) := by decide +kernel
theorem dX12_comesWay_83 : decode cX12_comesWay 83 = .ok (.iaload, 1) := by decide +kernel
theorem dX12_comesWay_84 : decode cX12_comesWay 84 = .ok (.iload_n 2, 1) := by decide +kernel
theorem dX12_comesWay_85 : decode cX12_comesWay 85 = .ok (.if_icmp .ne 16, 3) := by decide +kernel
theorem dX12_comesWay_88 : decode cX12_comesWay 88 = .ok (.aload_n 0, 1) := by decide +kernel
theorem dX12_comesWay_89 : decode cX12_comesWay 89 = .ok (.getfield 16, 3) := by decide +kernel
theorem dX12_comesWay_92 : decode cX12_comesWay 92 = .ok (.iload 4, 2) := by decide +kernel
theorem dX12_comesWay_94 : decode cX12_comesWay 94 = .ok (.iaload, 1) := by decide +kernel
theorem dX12_comesWay_95 : decode cX12_comesWay 95 = .ok (.iload_n 1, 1) := by decide +kernel
theorem dX12_comesWay_96 : decode cX12_comesWay 96 = .ok (.if_icmp .ne 5, 3) := by decide +kernel
theorem dX12_comesWay_99 : decode cX12_comesWay 99 = .ok (.iconst 0, 1) := by decide +kernel
theorem dX12_comesWay_100 : decode cX12_comesWay 100 = .ok (.ireturn, 1) := by decide +kernel
theorem dX12_comesWay_101 : decode cX12_comesWay 101 = .ok (.iinc 4 1, 3) := by decide +kernel
theorem dX12_comesWay_104 : decode cX12_comesWay 104 = .ok (.goto (-58), 3) := by decide +kernel
theorem dX12_comesWay_107 : decode cX12_comesWay 107 = .ok (.aload_n 0, 1) := by decide +kernel
theorem dX12_comesWay_108 : decode cX12_comesWay 108 = .ok (.getfield 13, 3) := by decide +kernel
theorem dX12_comesWay_111 : decode cX12_comesWay 111 = .ok (.aload_n 0, 1) := by decide +kernel
theorem dX12_comesWay_112 : decode cX12_comesWay 112 = .ok (.getfield 117, 3) := by decide +kernel
theorem dX12_comesWay_115 : decode cX12_comesWay 115 = .ok (.iload_n 1, 1) := by decide +kernel
theorem dX12_comesWay_116 : decode cX12_comesWay 116 = .ok (.iastore, 1) := by decide +kernel
theorem dX12_comesWay_117 : decode cX12_comesWay 117 = .ok (.aload_n 0, 1) := by decide +kernel
theorem dX12_comesWay_118 : decode cX12_comesWay 118 = .ok (.getfield 16, 3) := by decide +kernel
theorem dX12_comesWay_121 : decode cX12_comesWay 121 = .ok (.aload_n 0, 1) := by decide +kernel
theorem dX12_comesWay_122 : decode cX12_comesWay 122 = .ok (.getfield 117, 3) := by decide +kernel
theorem dX12_comesWay_125 : decode cX12_comesWay 125 = .ok (.iload_n 2, 1) := by decide +kernel
theorem dX12_comesWay_126 : decode cX12_comesWay 126 = .ok (.iastore, 1) := by decide +kernel
theorem dX12_comesWay_127 : decode cX12_comesWay 127 = .ok (.aload_n 0, 1) := by decide +kernel
theorem dX12_comesWay_128 : decode cX12_comesWay 128 = .ok (.getfield 19, 3) := by decide +kernel
theorem dX12_comesWay_131 : decode cX12_comesWay 131 = .ok (.aload_n 0, 1) := by decide +kernel
theorem dX12_comesWay_132 : decode cX12_comesWay 132 = .ok (.getfield 117, 3) := by decide +kernel
theorem dX12_comesWay_135 : decode cX12_comesWay 135 = .ok (.iload_n 3, 1) := by decide +kernel
theorem dX12_comesWay_136 : decode cX12_comesWay 136 = .ok (.iastore, 1) := by decide +kernel
theorem dX12_comesWay_137 : decode cX12_comesWay 137 = .ok (.aload_n 0, 1) := by decide +kernel
theorem dX12_comesWay_138 : decode cX12_comesWay 138 = .ok (.dup, 1) := by decide +kernel
theorem dX12_comesWay_139 : decode cX12_comesWay 139 = .ok (.getfield 117, 3) := by decide +kernel
theorem dX12_comesWay_142 : decode cX12_comesWay 142 = .ok (.iconst 1, 1) := by decide +kernel
theorem dX12_comesWay_143 : decode cX12_comesWay 143 = .ok (.iadd, 1) := by decide +kernel
theorem dX12_comesWay_144 : decode cX12_comesWay 144 = .ok (.putfield 117, 3) := by decide +kernel
theorem dX12_comesWay_147 : decode cX12_comesWay 147 = .ok (.iconst 1, 1) := by decide +kernel
theorem dX12_comesWay_148 : decode cX12_comesWay 148 = .ok (.ireturn, 1) := by decide +kernel
theorem dX12_comes_0 : decode cX12_comes 0 = .ok (.aload_n 0, 1) := by decide +kernel
theorem dX12_comes_1 : decode cX12_comes 1 = .ok (.getfield 62, 3) := by decide +kernel
theorem dX12_comes_4 : decode cX12_comes 4 = .ok (.iload_n 1, 1) := by decide +kernel
theorem dX12_comes_5 : decode cX12_comes 5 = .ok (.iaload, 1) := by decide +kernel
theorem dX12_comes_6 : decode cX12_comes 6 = .ok (.lookupswitch 91 #[(110, 26), (119, 68)], 26) := by decide +kernel
theorem dX12_comes_32 : decode cX12_comes 32 = .ok (.aload_n 0, 1) := by decide +kernel
theorem dX12_comes_33 : decode cX12_comes 33 = .ok (.getfield 68, 3) := by decide +kernel
theorem dX12_comes_36 : decode cX12_comes 36 = .ok (.iload_n 1, 1) := by decide +kernel
theorem dX12_comes_37 : decode cX12_comes 37 = .ok (.iaload, 1) := by decide +kernel
theorem dX12_comes_38 : decode cX12_comes 38 = .ok (.iconst 2, 1) := by decide +kernel
theorem dX12_comes_39 : decode cX12_comes 39 = .ok (.bipush 8, 2) := by decide +kernel
theorem dX12_comes_41 : decode cX12_comes 41 = .ok (.invokestatic 140, 3) := by decide +kernel
theorem dX12_comes_44 : decode cX12_comes 44 = .ok (.ifCond .eq 16, 3) := by decide +kernel
theorem dX12_comes_47 : decode cX12_comes 47 = .ok (.aload_n 0, 1) := by decide +kernel
theorem dX12_comes_48 : decode cX12_comes 48 = .ok (.getfield 68, 3) := by decide +kernel
theorem dX12_comes_51 : decode cX12_comes 51 = .ok (.iload_n 1, 1) := by decide +kernel
theorem dX12_comes_52 : decode cX12_comes 52 = .ok (.iaload, 1) := by decide +kernel
theorem dX12_comes_53 : decode cX12_comes 53 = .ok (.aload_n 0, 1) := by decide +kernel
theorem dX12_comes_54 : decode cX12_comes 54 = .ok (.invokevirtual 175, 3) := by decide +kernel
theorem dX12_comes_57 : decode cX12_comes 57 = .ok (.if_icmp .ge 5, 3) := by decide +kernel
theorem dX12_comes_60 : decode cX12_comes 60 = .ok (.iconst 0, 1) := by decide +kernel
theorem dX12_comes_61 : decode cX12_comes 61 = .ok (.ireturn, 1) := by decide +kernel
theorem dX12_comes_62 : decode cX12_comes 62 = .ok (.aload_n 0, 1) := by decide +kernel
theorem dX12_comes_63 : decode cX12_comes 63 = .ok (.aload_n 0, 1) := by decide +kernel
theorem dX12_comes_64 : decode cX12_comes 64 = .ok (.getfield 68, 3) := by decide +kernel
theorem dX12_comes_67 : decode cX12_comes 67 = .ok (.iload_n 1, 1) := by decide +kernel
theorem dX12_comes_68 : decode cX12_comes 68 = .ok (.iaload, 1) := by decide +kernel
theorem dX12_comes_69 : decode cX12_comes 69 = .ok (.putfield 52, 3) := by decide +kernel
theorem dX12_comes_72 : decode cX12_comes 72 = .ok (.iconst 1, 1) := by decide +kernel
theorem dX12_comes_73 : decode cX12_comes 73 = .ok (.ireturn, 1) := by decide +kernel
theorem dX12_comes_74 : decode cX12_comes 74 = .ok (.aload_n 0, 1) := by decide +kernel
theorem dX12_comes_75 : decode cX12_comes 75 = .ok (.aload_n 0, 1) := by decide +kernel
theorem dX12_comes_76 : decode cX12_comes 76 = .ok (.getfield 68, 3) := by decide +kernel
theorem dX12_comes_79 : decode cX12_comes 79 = .ok (.iload_n 1, 1) := by decide +kernel
theorem dX12_comes_80 : decode cX12_comes 80 = .ok (.iaload, 1) := by decide +kernel
theorem dX12_comes_81 : decode cX12_comes 81 = .ok (.aload_n 0, 1) := by decide +kernel
theorem dX12_comes_82 : decode cX12_comes 82 = .ok (.getfield 71, 3) := by decide +kernel
theorem dX12_comes_85 : decode cX12_comes 85 = .ok (.iload_n 1, 1) := by decide +kernel
theorem dX12_comes_86 : decode cX12_comes 86 = .ok (.iaload, 1) := by decide +kernel
theorem dX12_comes_87 : decode cX12_comes 87 = .ok (.aload_n 0, 1) := by decide +kernel
theorem dX12_comes_88 : decode cX12_comes 88 = .ok (.getfield 74, 3) := by decide +kernel
theorem dX12_comes_91 : decode cX12_comes 91 = .ok (.iload_n 1, 1) := by decide +kernel
theorem dX12_comes_92 : decode cX12_comes 92 = .ok (.iaload, 1) := by decide +kernel
theorem dX12_comes_93 : decode cX12_comes 93 = .ok (.invokevirtual 178, 3) := by decide +kernel
theorem dX12_comes_96 : decode cX12_comes 96 = .ok (.ireturn, 1) := by decide +kernel
theorem dX12_comes_97 : decode cX12_comes 97 = .ok (.aload_n 0, 1) := by decide +kernel
theorem dX12_comes_98 : decode cX12_comes 98 = .ok (.aload_n 0, 1) := by decide +kernel
theorem dX12_comes_99 : decode cX12_comes 99 = .ok (.getfield 71, 3) := by decide +kernel
theorem dX12_comes_102 : decode cX12_comes 102 = .ok (.iload_n 1, 1) := by decide +kernel
theorem dX12_comes_103 : decode cX12_comes 103 = .ok (.iaload, 1) := by decide +kernel
theorem dX12_comes_104 : decode cX12_comes 104 = .ok (.invokevirtual 172, 3) := by decide +kernel
theorem dX12_comes_107 : decode cX12_comes 107 = .ok (.ifCond .eq 35, 3) := by decide +kernel
theorem dX12_comes_110 : decode cX12_comes 110 = .ok (.aload_n 0, 1) := by decide +kernel
theorem dX12_comes_111 : decode cX12_comes 111 = .ok (.getfield 113, 3) := by decide +kernel
theorem dX12_comes_114 : decode cX12_comes 114 = .ok (.bipush 7, 2) := by decide +kernel
theorem dX12_comes_116 : decode cX12_comes 116 = .ok (.if_icmp .eq 26, 3) := by decide +kernel
theorem dX12_comes_119 : decode cX12_comes 119 = .ok (.aload_n 0, 1) := by decide +kernel
theorem dX12_comes_120 : decode cX12_comes 120 = .ok (.getfield 68, 3) := by decide +kernel
theorem dX12_comes_123 : decode cX12_comes 123 = .ok (.iload_n 1, 1) := by decide +kernel
theorem dX12_comes_124 : decode cX12_comes 124 = .ok (.iaload, 1) := by decide +kernel
theorem dX12_comes_125 : decode cX12_comes 125 = .ok (.iconst 2, 1) := by decide +kernel
theorem dX12_comes_126 : decode cX12_comes 126 = .ok (.if_icmp .ne 18, 3) := by decide +kernel
theorem dX12_comes_129 : decode cX12_comes 129 = .ok (.aload_n 0, 1) := by decide +kernel
theorem dX12_comes_130 : decode cX12_comes 130 = .ok (.aload_n 0, 1) := by decide +kernel
theorem dX12_comes_131 : decode cX12_comes 131 = .ok (.getfield 77, 3) := by decide +kernel
theorem dX12_comes_134 : decode cX12_comes 134 = .ok (.iload_n 1, 1) := by decide +kernel
theorem dX12_comes_135 : decode cX12_comes 135 = .ok (.iaload, 1) := by decide +kernel
theorem dX12_comes_136 : decode cX12_comes 136 = .ok (.invokevirtual 181, 3) := by decide +kernel
theorem dX12_comes_139 : decode cX12_comes 139 = .ok (.ifCond .ne 5, 3) := by decide +kernel
theorem dX12_comes_142 : decode cX12_comes 142 = .ok (.iconst 0, 1) := by decide +kernel
theorem dX12_comes_143 : decode cX12_comes 143 = .ok (.ireturn, 1) := by decide +kernel
theorem dX12_comes_144 : decode cX12_comes 144 = .ok (.aload_n 0, 1) := by decide +kernel
theorem dX12_comes_145 : decode cX12_comes 145 = .ok (.getfield 22, 3) := by decide +kernel
theorem dX12_comes_148 : decode cX12_comes 148 = .ok (.aload_n 0, 1) := by decide +kernel
theorem dX12_comes_149 : decode cX12_comes 149 = .ok (.getfield 113, 3) := by decide +kernel
theorem dX12_comes_152 : decode cX12_comes 152 = .ok (.aload_n 0, 1) := by decide +kernel
theorem dX12_comes_153 : decode cX12_comes 153 = .ok (.getfield 68, 3) := by decide +kernel
theorem dX12_comes_156 : decode cX12_comes 156 = .ok (.iload_n 1, 1) := by decide +kernel
theorem dX12_comes_157 : decode cX12_comes 157 = .ok (.iaload, 1) := by decide +kernel
theorem dX12_comes_158 : decode cX12_comes 158 = .ok (.iastore, 1) := by decide +kernel
theorem dX12_comes_159 : decode cX12_comes 159 = .ok (.aload_n 0, 1) := by decide +kernel
theorem dX12_comes_160 : decode cX12_comes 160 = .ok (.getfield 25, 3) := by decide +kernel
theorem dX12_comes_163 : decode cX12_comes 163 = .ok (.aload_n 0, 1) := by decide +kernel
theorem dX12_comes_164 : decode cX12_comes 164 = .ok (.getfield 113, 3) := by decide +kernel
theorem dX12_comes_167 : decode cX12_comes 167 = .ok (.aload_n 0, 1) := by decide +kernel
theorem dX12_comes_168 : decode cX12_comes 168 = .ok (.getfield 71, 3) := by decide +kernel
theorem dX12_comes_171 : decode cX12_comes 171 = .ok (.iload_n 1, 1) := by decide +kernel
theorem dX12_comes_172 : decode cX12_comes 172 = .ok (.iaload, 1) := by decide +kernel
theorem dX12_comes_173 : decode cX12_comes 173 = .ok (.iastore, 1) := by decide +kernel
theorem dX12_comes_174 : decode cX12_comes 174 = .ok (.aload_n 0, 1) := by decide +kernel
theorem dX12_comes_175 : decode cX12_comes 175 = .ok (.getfield 28, 3) := by decide +kernel
theorem dX12_comes_178 : decode cX12_comes 178 = .ok (.aload_n 0, 1) := by decide +kernel
theorem dX12_comes_179 : decode cX12_comes 179 = .ok (.getfield 113, 3) := by decide +kernel
theorem dX12_comes_182 : decode cX12_comes 182 = .ok (.aload_n 0, 1) := by decide +kernel
theorem dX12_comes_183 : decode cX12_comes 183 = .ok (.getfield 74, 3) := by decide +kernel
theorem dX12_comes_186 : decode cX12_comes 186 = .ok (.iload_n 1, 1) := by decide +kernel
theorem dX12_comes_187 : decode cX12_comes 187 = .ok (.iaload, 1) := by decide +kernel
theorem dX12_comes_188 : decode cX12_comes 188 = .ok (.iastore, 1) := by decide +kernel
theorem dX12_comes_189 : decode cX12_comes 189 = .ok (.aload_n 0, 1) := by decide +kernel
theorem dX12_comes_190 : decode cX12_comes 190 = .ok (.getfield 31, 3) := by decide +kernel
theorem dX12_comes_193 : decode cX12_comes 193 = .ok (.aload_n 0, 1) := by decide +kernel
theorem dX12_comes_194 : decode cX12_comes 194 = .ok (.getfield 113, 3) := by decide +kernel
theorem dX12_comes_197 : decode cX12_comes 197 = .ok (.aload_n 0, 1) := by decide +kernel
theorem dX12_comes_198 : decode cX12_comes 198 = .ok (.getfield 77, 3) := by decide +kernel
theorem dX12_comes_201 : decode cX12_comes 201 = .ok (.iload_n 1, 1) := by decide +kernel
theorem dX12_comes_202 : decode cX12_comes 202 = .ok (.iaload, 1) := by decide +kernel
theorem dX12_comes_203 : decode cX12_comes 203 = .ok (.iastore, 1) := by decide +kernel
theorem dX12_comes_204 : decode cX12_comes 204 = .ok (.aload_n 0, 1) := by decide +kernel
theorem dX12_comes_205 : decode cX12_comes 205 = .ok (.getfield 83, 3) := by decide +kernel
theorem dX12_comes_208 : decode cX12_comes 208 = .ok (.aload_n 0, 1) := by decide +kernel
theorem dX12_comes_209 : decode cX12_comes 209 = .ok (.getfield 113, 3) := by decide +kernel
theorem dX12_comes_212 : decode cX12_comes 212 = .ok (.iconst 0, 1) := by decide +kernel
theorem dX12_comes_213 : decode cX12_comes 213 = .ok (.iastore, 1) := by decide +kernel
theorem dX12_comes_214 : decode cX12_comes 214 = .ok (.aload_n 0, 1) := by decide +kernel
theorem dX12_comes_215 : decode cX12_comes 215 = .ok (.dup, 1) := by decide +kernel
theorem dX12_comes_216 : decode cX12_comes 216 = .ok (.getfield 113, 3) := by decide +kernel
theorem dX12_comes_219 : decode cX12_comes 219 = .ok (.iconst 1, 1) := by decide +kernel
theorem dX12_comes_220 : decode cX12_comes 220 = .ok (.iadd, 1) := by decide +kernel
theorem dX12_comes_221 : decode cX12_comes 221 = .ok (.putfield 113, 3) := by decide +kernel
theorem dX12_comes_224 : decode cX12_comes 224 = .ok (.iconst 1, 1) := by decide +kernel
theorem dX12_comes_225 : decode cX12_comes 225 = .ok (.ireturn, 1) := by decide +kernel
theorem dX12_land_0 : decode cX12_land 0 = .ok (.aload_n 0, 1) := by decide +kernel
theorem dX12_land_1 : decode cX12_land 1 = .ok (.iconst 0, 1) := by decide +kernel
theorem dX12_land_2 : decode cX12_land 2 = .ok (.putfield 133, 3) := by decide +kernel
theorem dX12_land_5 : decode cX12_land 5 = .ok (.aload_n 0, 1) := by decide +kernel
theorem dX12_land_6 : decode cX12_land 6 = .ok (.iconst 0, 1) := by decide +kernel
theorem dX12_land_7 : decode cX12_land 7 = .ok (.putfield 154, 3) := by decide +kernel
theorem dX12_land_10 : decode cX12_land 10 = .ok (.iconst 1, 1) := by decide +kernel
theorem dX12_land_11 : decode cX12_land 11 = .ok (.istore_n 1, 1) := by decide +kernel
theorem dX12_land_12 : decode cX12_land 12 = .ok (.iload_n 1, 1) := by decide +kernel
theorem dX12_land_13 : decode cX12_land 13 = .ok (.ifCond .eq 47, 3) := by decide +kernel
theorem dX12_land_16 : decode cX12_land 16 = .ok (.aload_n 0, 1) := by decide +kernel
theorem dX12_land_17 : decode cX12_land 17 = .ok (.getfield 133, 3) := by decide +kernel
theorem dX12_land_20 : decode cX12_land 20 = .ok (.aload_n 0, 1) := by decide +kernel
theorem dX12_land_21 : decode cX12_land 21 = .ok (.getfield 124, 3) := by decide +kernel
theorem dX12_land_24 : decode cX12_land 24 = .ok (.if_icmp .lt 10, 3) := by decide +kernel
theorem dX12_land_27 : decode cX12_land 27 = .ok (.aload_n 0, 1) := by decide +kernel
theorem dX12_land_28 : decode cX12_land 28 = .ok (.getfield 154, 3) := by decide +kernel
theorem dX12_land_31 : decode cX12_land 31 = .ok (.ifCond .ne 29, 3) := by decide +kernel
theorem dX12_land_34 : decode cX12_land 34 = .ok (.aload_n 0, 1) := by decide +kernel
theorem dX12_land_35 : decode cX12_land 35 = .ok (.invokevirtual 184, 3) := by decide +kernel
theorem dX12_land_38 : decode cX12_land 38 = .ok (.istore_n 1, 1) := by decide +kernel
theorem dX12_land_39 : decode cX12_land 39 = .ok (.aload_n 0, 1) := by decide +kernel
theorem dX12_land_40 : decode cX12_land 40 = .ok (.dup, 1) := by decide +kernel
theorem dX12_land_41 : decode cX12_land 41 = .ok (.getfield 154, 3) := by decide +kernel
theorem dX12_land_44 : decode cX12_land 44 = .ok (.iload_n 1, 1) := by decide +kernel
theorem dX12_land_45 : decode cX12_land 45 = .ok (.ifCond .eq 7, 3) := by decide +kernel
theorem dX12_land_48 : decode cX12_land 48 = .ok (.iconst 1, 1) := by decide +kernel
theorem dX12_land_49 : decode cX12_land 49 = .ok (.goto 4, 3) := by decide +kernel
theorem dX12_land_52 : decode cX12_land 52 = .ok (.iconst 0, 1) := by decide +kernel
theorem dX12_land_53 : decode cX12_land 53 = .ok (.iadd, 1) := by decide +kernel
theorem dX12_land_54 : decode cX12_land 54 = .ok (.putfield 154, 3) := by decide +kernel
theorem dX12_land_57 : decode cX12_land 57 = .ok (.goto (-45), 3) := by decide +kernel
theorem dX12_land_60 : decode cX12_land 60 = .ok (.aload_n 0, 1) := by decide +kernel
theorem dX12_land_61 : decode cX12_land 61 = .ok (.iconst 0, 1) := by decide +kernel
theorem dX12_land_62 : decode cX12_land 62 = .ok (.putfield 124, 3) := by decide +kernel
theorem dX12_land_65 : decode cX12_land 65 = .ok (.iload_n 1, 1) := by decide +kernel
theorem dX12_land_66 : decode cX12_land 66 = .ok (.ifCond .ne 12, 3) := by decide +kernel
theorem dX12_land_69 : decode cX12_land 69 = .ok (.sipush (-1000), 3) := by decide +kernel
theorem dX12_land_72 : decode cX12_land 72 = .ok (.aload_n 0, 1) := by decide +kernel
theorem dX12_land_73 : decode cX12_land 73 = .ok (.getfield 133, 3) := by decide +kernel
theorem dX12_land_76 : decode cX12_land 76 = .ok (.isub, 1) := by decide +kernel
theorem dX12_land_77 : decode cX12_land 77 = .ok (.ireturn, 1) := by decide +kernel
theorem dX12_land_78 : decode cX12_land 78 = .ok (.aload_n 0, 1) := by decide +kernel
theorem dX12_land_79 : decode cX12_land 79 = .ok (.iconst 1, 1) := by decide +kernel
theorem dX12_land_80 : decode cX12_land 80 = .ok (.iconst 1, 1) := by decide +kernel
theorem dX12_land_81 : decode cX12_land 81 = .ok (.invokevirtual 188, 3) := by decide +kernel
theorem dX12_land_84 : decode cX12_land 84 = .ok (.iconst 0, 1) := by decide +kernel
theorem dX12_land_85 : decode cX12_land 85 = .ok (.istore_n 2, 1) := by decide +kernel
theorem dX12_land_86 : decode cX12_land 86 = .ok (.iload_n 2, 1) := by decide +kernel
theorem dX12_land_87 : decode cX12_land 87 = .ok (.aload_n 0, 1) := by decide +kernel
theorem dX12_land_88 : decode cX12_land 88 = .ok (.getfield 154, 3) := by decide +kernel
theorem dX12_land_91 : decode cX12_land 91 = .ok (.if_icmp .ge 37, 3) := by decide +kernel
theorem dX12_land_94 : decode cX12_land 94 = .ok (.aload_n 0, 1) := by decide +kernel
theorem dX12_land_95 : decode cX12_land 95 = .ok (.iload_n 2, 1) := by decide +kernel
theorem dX12_land_96 : decode cX12_land 96 = .ok (.invokevirtual 192, 3) := by decide +kernel
theorem dX12_land_99 : decode cX12_land 99 = .ok (.ifCond .eq 6, 3) := by decide +kernel
theorem dX12_land_102 : decode cX12_land 102 = .ok (.goto 20, 3) := by decide +kernel
theorem dX12_land_105 : decode cX12_land 105 = .ok (.aload_n 0, 1) := by decide +kernel
theorem dX12_land_106 : decode cX12_land 106 = .ok (.iconst 1, 1) := by decide +kernel
theorem dX12_land_107 : decode cX12_land 107 = .ok (.iconst 0, 1) := by decide +kernel
theorem dX12_land_108 : decode cX12_land 108 = .ok (.invokevirtual 188, 3) := by decide +kernel
theorem dX12_land_111 : decode cX12_land 111 = .ok (.sipush (-2000), 3) := by decide +kernel
theorem dX12_land_114 : decode cX12_land 114 = .ok (.aload_n 0, 1) := by decide +kernel
theorem dX12_land_115 : decode cX12_land 115 = .ok (.getfield 65, 3) := by decide +kernel
theorem dX12_land_118 : decode cX12_land 118 = .ok (.iload_n 2, 1) := by decide +kernel
theorem dX12_land_119 : decode cX12_land 119 = .ok (.iaload, 1) := by decide +kernel
theorem dX12_land_120 : decode cX12_land 120 = .ok (.isub, 1) := by decide +kernel
theorem dX12_land_121 : decode cX12_land 121 = .ok (.ireturn, 1) := by decide +kernel
theorem dX12_land_122 : decode cX12_land 122 = .ok (.iinc 2 1, 3) := by decide +kernel
theorem dX12_land_125 : decode cX12_land 125 = .ok (.goto (-39), 3) := by decide +kernel
theorem dX12_land_128 : decode cX12_land 128 = .ok (.aload_n 0, 1) := by decide +kernel
theorem dX12_land_129 : decode cX12_land 129 = .ok (.getfield 154, 3) := by decide +kernel
theorem dX12_land_132 : decode cX12_land 132 = .ok (.ireturn, 1) := by decide +kernel
theorem dX12_passes_0 : decode cX12_passes 0 = .ok (.iconst 0, 1) := by decide +kernel
theorem dX12_passes_1 : decode cX12_passes 1 = .ok (.istore_n 2, 1) := by decide +kernel
theorem dX12_passes_2 : decode cX12_passes 2 = .ok (.iload_n 2, 1) := by decide +kernel
theorem dX12_passes_3 : decode cX12_passes 3 = .ok (.aload_n 1, 1) := by decide +kernel
theorem dX12_passes_4 : decode cX12_passes 4 = .ok (.arraylength, 1) := by decide +kernel
theorem dX12_passes_5 : decode cX12_passes 5 = .ok (.if_icmp .ge 53, 3) := by decide +kernel
theorem dX12_passes_8 : decode cX12_passes 8 = .ok (.aload_n 0, 1) := by decide +kernel
theorem dX12_passes_9 : decode cX12_passes 9 = .ok (.getfield 195, 3) := by decide +kernel
theorem dX12_passes_12 : decode cX12_passes 12 = .ok (.ifCond .eq 18, 3) := by decide +kernel
theorem dX12_passes_15 : decode cX12_passes 15 = .ok (.aload_n 0, 1) := by decide +kernel
theorem dX12_passes_16 : decode cX12_passes 16 = .ok (.getfield 80, 3) := by decide +kernel
theorem dX12_passes_19 : decode cX12_passes 19 = .ok (.aload_n 0, 1) := by decide +kernel
theorem dX12_passes_20 : decode cX12_passes 20 = .ok (.getfield 199, 3) := by decide +kernel
theorem dX12_passes_23 : decode cX12_passes 23 = .ok (.aload_n 1, 1) := by decide +kernel
theorem dX12_passes_24 : decode cX12_passes 24 = .ok (.iload_n 2, 1) := by decide +kernel
theorem dX12_passes_25 : decode cX12_passes 25 = .ok (.iaload, 1) := by decide +kernel
theorem dX12_passes_26 : decode cX12_passes 26 = .ok (.iastore, 1) := by decide +kernel
theorem dX12_passes_27 : decode cX12_passes 27 = .ok (.goto 15, 3) := by decide +kernel
theorem dX12_passes_30 : decode cX12_passes 30 = .ok (.aload_n 1, 1) := by decide +kernel
theorem dX12_passes_31 : decode cX12_passes 31 = .ok (.iload_n 2, 1) := by decide +kernel
theorem dX12_passes_32 : decode cX12_passes 32 = .ok (.aload_n 0, 1) := by decide +kernel
theorem dX12_passes_33 : decode cX12_passes 33 = .ok (.getfield 80, 3) := by decide +kernel
theorem dX12_passes_36 : decode cX12_passes 36 = .ok (.aload_n 0, 1) := by decide +kernel
theorem dX12_passes_37 : decode cX12_passes 37 = .ok (.getfield 199, 3) := by decide +kernel
theorem dX12_passes_40 : decode cX12_passes 40 = .ok (.iaload, 1) := by decide +kernel
theorem dX12_passes_41 : decode cX12_passes 41 = .ok (.iastore, 1) := by decide +kernel
theorem dX12_passes_42 : decode cX12_passes 42 = .ok (.aload_n 0, 1) := by decide +kernel
theorem dX12_passes_43 : decode cX12_passes 43 = .ok (.dup, 1) := by decide +kernel
theorem dX12_passes_44 : decode cX12_passes 44 = .ok (.getfield 199, 3) := by decide +kernel
theorem dX12_passes_47 : decode cX12_passes 47 = .ok (.iconst 1, 1) := by decide +kernel
theorem dX12_passes_48 : decode cX12_passes 48 = .ok (.iadd, 1) := by decide +kernel
theorem dX12_passes_49 : decode cX12_passes 49 = .ok (.putfield 199, 3) := by decide +kernel
theorem dX12_passes_52 : decode cX12_passes 52 = .ok (.iinc 2 1, 3) := by decide +kernel
theorem dX12_passes_55 : decode cX12_passes 55 = .ok (.goto (-53), 3) := by decide +kernel
theorem dX12_passes_58 : decode cX12_passes 58 = .ok (.return_, 1) := by decide +kernel
theorem dX12_passOne_0 : decode cX12_passOne 0 = .ok (.aload_n 0, 1) := by decide +kernel
theorem dX12_passOne_1 : decode cX12_passOne 1 = .ok (.getfield 195, 3) := by decide +kernel
theorem dX12_passOne_4 : decode cX12_passOne 4 = .ok (.ifCond .eq 7, 3) := by decide +kernel
theorem dX12_passOne_7 : decode cX12_passOne 7 = .ok (.iload_n 1, 1) := by decide +kernel
theorem dX12_passOne_8 : decode cX12_passOne 8 = .ok (.goto 12, 3) := by decide +kernel
theorem dX12_passOne_11 : decode cX12_passOne 11 = .ok (.aload_n 0, 1) := by decide +kernel
theorem dX12_passOne_12 : decode cX12_passOne 12 = .ok (.getfield 80, 3) := by decide +kernel
theorem dX12_passOne_15 : decode cX12_passOne 15 = .ok (.aload_n 0, 1) := by decide +kernel
theorem dX12_passOne_16 : decode cX12_passOne 16 = .ok (.getfield 199, 3) := by decide +kernel
theorem dX12_passOne_19 : decode cX12_passOne 19 = .ok (.iaload, 1) := by decide +kernel
theorem dX12_passOne_20 : decode cX12_passOne 20 = .ok (.istore_n 2, 1) := by decide +kernel
theorem dX12_passOne_21 : decode cX12_passOne 21 = .ok (.aload_n 0, 1) := by decide +kernel
theorem dX12_passOne_22 : decode cX12_passOne 22 = .ok (.getfield 195, 3) := by decide +kernel
theorem dX12_passOne_25 : decode cX12_passOne 25 = .ok (.ifCond .eq 13, 3) := by decide +kernel
theorem dX12_passOne_28 : decode cX12_passOne 28 = .ok (.aload_n 0, 1) := by decide +kernel
theorem dX12_passOne_29 : decode cX12_passOne 29 = .ok (.getfield 80, 3) := by decide +kernel
theorem dX12_passOne_32 : decode cX12_passOne 32 = .ok (.aload_n 0, 1) := by decide +kernel
theorem dX12_passOne_33 : decode cX12_passOne 33 = .ok (.getfield 199, 3) := by decide +kernel
theorem dX12_passOne_36 : decode cX12_passOne 36 = .ok (.iload_n 1, 1) := by decide +kernel
theorem dX12_passOne_37 : decode cX12_passOne 37 = .ok (.iastore, 1) := by decide +kernel
theorem dX12_passOne_38 : decode cX12_passOne 38 = .ok (.aload_n 0, 1) := by decide +kernel
theorem dX12_passOne_39 : decode cX12_passOne 39 = .ok (.dup, 1) := by decide +kernel
theorem dX12_passOne_40 : decode cX12_passOne 40 = .ok (.getfield 199, 3) := by decide +kernel
theorem dX12_passOne_43 : decode cX12_passOne 43 = .ok (.iconst 1, 1) := by decide +kernel
theorem dX12_passOne_44 : decode cX12_passOne 44 = .ok (.iadd, 1) := by decide +kernel
theorem dX12_passOne_45 : decode cX12_passOne 45 = .ok (.putfield 199, 3) := by decide +kernel
theorem dX12_passOne_48 : decode cX12_passOne 48 = .ok (.iload_n 2, 1) := by decide +kernel
theorem dX12_passOne_49 : decode cX12_passOne 49 = .ok (.ireturn, 1) := by decide +kernel
theorem dX12_passesAll_0 : decode cX12_passesAll 0 = .ok (.aload_n 0, 1) := by decide +kernel
theorem dX12_passesAll_1 : decode cX12_passesAll 1 = .ok (.sipush 200, 3) := by decide +kernel
theorem dX12_passesAll_4 : decode cX12_passesAll 4 = .ok (.iload_n 1, 1) := by decide +kernel
theorem dX12_passesAll_5 : decode cX12_passesAll 5 = .ok (.imul, 1) := by decide +kernel
theorem dX12_passesAll_6 : decode cX12_passesAll 6 = .ok (.putfield 199, 3) := by decide +kernel
theorem dX12_passesAll_9 : decode cX12_passesAll 9 = .ok (.aload_n 0, 1) := by decide +kernel
theorem dX12_passesAll_10 : decode cX12_passesAll 10 = .ok (.iload_n 2, 1) := by decide +kernel
theorem dX12_passesAll_11 : decode cX12_passesAll 11 = .ok (.putfield 195, 3) := by decide +kernel
theorem dX12_passesAll_14 : decode cX12_passesAll 14 = .ok (.aload_n 0, 1) := by decide +kernel
theorem dX12_passesAll_15 : decode cX12_passesAll 15 = .ok (.aload_n 0, 1) := by decide +kernel
theorem dX12_passesAll_16 : decode cX12_passesAll 16 = .ok (.getfield 13, 3) := by decide +kernel
theorem dX12_passesAll_19 : decode cX12_passesAll 19 = .ok (.invokevirtual 202, 3) := by decide +kernel
theorem dX12_passesAll_22 : decode cX12_passesAll 22 = .ok (.aload_n 0, 1) := by decide +kernel
theorem dX12_passesAll_23 : decode cX12_passesAll 23 = .ok (.aload_n 0, 1) := by decide +kernel
theorem dX12_passesAll_24 : decode cX12_passesAll 24 = .ok (.getfield 16, 3) := by decide +kernel
theorem dX12_passesAll_27 : decode cX12_passesAll 27 = .ok (.invokevirtual 202, 3) := by decide +kernel
theorem dX12_passesAll_30 : decode cX12_passesAll 30 = .ok (.aload_n 0, 1) := by decide +kernel
theorem dX12_passesAll_31 : decode cX12_passesAll 31 = .ok (.aload_n 0, 1) := by decide +kernel
theorem dX12_passesAll_32 : decode cX12_passesAll 32 = .ok (.getfield 19, 3) := by decide +kernel
theorem dX12_passesAll_35 : decode cX12_passesAll 35 = .ok (.invokevirtual 202, 3) := by decide +kernel
theorem dX12_passesAll_38 : decode cX12_passesAll 38 = .ok (.aload_n 0, 1) := by decide +kernel
theorem dX12_passesAll_39 : decode cX12_passesAll 39 = .ok (.aload_n 0, 1) := by decide +kernel
theorem dX12_passesAll_40 : decode cX12_passesAll 40 = .ok (.getfield 22, 3) := by decide +kernel
theorem dX12_passesAll_43 : decode cX12_passesAll 43 = .ok (.invokevirtual 202, 3) := by decide +kernel
theorem dX12_passesAll_46 : decode cX12_passesAll 46 = .ok (.aload_n 0, 1) := by decide +kernel
theorem dX12_passesAll_47 : decode cX12_passesAll 47 = .ok (.aload_n 0, 1) := by decide +kernel
theorem dX12_passesAll_48 : decode cX12_passesAll 48 = .ok (.getfield 25, 3) := by decide +kernel
theorem dX12_passesAll_51 : decode cX12_passesAll 51 = .ok (.invokevirtual 202, 3) := by decide +kernel
theorem dX12_passesAll_54 : decode cX12_passesAll 54 = .ok (.aload_n 0, 1) := by decide +kernel
theorem dX12_passesAll_55 : decode cX12_passesAll 55 = .ok (.aload_n 0, 1) := by decide +kernel
theorem dX12_passesAll_56 : decode cX12_passesAll 56 = .ok (.getfield 28, 3) := by decide +kernel
theorem dX12_passesAll_59 : decode cX12_passesAll 59 = .ok (.invokevirtual 202, 3) := by decide +kernel
theorem dX12_passesAll_62 : decode cX12_passesAll 62 = .ok (.aload_n 0, 1) := by decide +kernel
theorem dX12_passesAll_63 : decode cX12_passesAll 63 = .ok (.aload_n 0, 1) := by decide +kernel
theorem dX12_passesAll_64 : decode cX12_passesAll 64 = .ok (.getfield 31, 3) := by decide +kernel
theorem dX12_passesAll_67 : decode cX12_passesAll 67 = .ok (.invokevirtual 202, 3) := by decide +kernel
theorem dX12_passesAll_70 : decode cX12_passesAll 70 = .ok (.aload_n 0, 1) := by decide +kernel
theorem dX12_passesAll_71 : decode cX12_passesAll 71 = .ok (.aload_n 0, 1) := by decide +kernel
theorem dX12_passesAll_72 : decode cX12_passesAll 72 = .ok (.getfield 34, 3) := by decide +kernel
theorem dX12_passesAll_75 : decode cX12_passesAll 75 = .ok (.invokevirtual 202, 3) := by decide +kernel
theorem dX12_passesAll_78 : decode cX12_passesAll 78 = .ok (.aload_n 0, 1) := by decide +kernel
theorem dX12_passesAll_79 : decode cX12_passesAll 79 = .ok (.aload_n 0, 1) := by decide +kernel
theorem dX12_passesAll_80 : decode cX12_passesAll 80 = .ok (.getfield 37, 3) := by decide +kernel
theorem dX12_passesAll_83 : decode cX12_passesAll 83 = .ok (.invokevirtual 202, 3) := by decide +kernel
theorem dX12_passesAll_86 : decode cX12_passesAll 86 = .ok (.aload_n 0, 1) := by decide +kernel
theorem dX12_passesAll_87 : decode cX12_passesAll 87 = .ok (.aload_n 0, 1) := by decide +kernel
theorem dX12_passesAll_88 : decode cX12_passesAll 88 = .ok (.getfield 40, 3) := by decide +kernel
theorem dX12_passesAll_91 : decode cX12_passesAll 91 = .ok (.invokevirtual 202, 3) := by decide +kernel
theorem dX12_passesAll_94 : decode cX12_passesAll 94 = .ok (.aload_n 0, 1) := by decide +kernel
theorem dX12_passesAll_95 : decode cX12_passesAll 95 = .ok (.aload_n 0, 1) := by decide +kernel
theorem dX12_passesAll_96 : decode cX12_passesAll 96 = .ok (.getfield 43, 3) := by decide +kernel
theorem dX12_passesAll_99 : decode cX12_passesAll 99 = .ok (.invokevirtual 202, 3) := by decide +kernel
theorem dX12_passesAll_102 : decode cX12_passesAll 102 = .ok (.aload_n 0, 1) := by decide +kernel
theorem dX12_passesAll_103 : decode cX12_passesAll 103 = .ok (.aload_n 0, 1) := by decide +kernel
theorem dX12_passesAll_104 : decode cX12_passesAll 104 = .ok (.getfield 46, 3) := by decide +kernel
theorem dX12_passesAll_107 : decode cX12_passesAll 107 = .ok (.invokevirtual 202, 3) := by decide +kernel
theorem dX12_passesAll_110 : decode cX12_passesAll 110 = .ok (.aload_n 0, 1) := by decide +kernel
theorem dX12_passesAll_111 : decode cX12_passesAll 111 = .ok (.aload_n 0, 1) := by decide +kernel
theorem dX12_passesAll_112 : decode cX12_passesAll 112 = .ok (.getfield 49, 3) := by decide +kernel
theorem dX12_passesAll_115 : decode cX12_passesAll 115 = .ok (.invokevirtual 202, 3) := by decide +kernel
theorem dX12_passesAll_118 : decode cX12_passesAll 118 = .ok (.aload_n 0, 1) := by decide +kernel
theorem dX12_passesAll_119 : decode cX12_passesAll 119 = .ok (.aload_n 0, 1) := by decide +kernel
theorem dX12_passesAll_120 : decode cX12_passesAll 120 = .ok (.getfield 83, 3) := by decide +kernel
theorem dX12_passesAll_123 : decode cX12_passesAll 123 = .ok (.invokevirtual 202, 3) := by decide +kernel
theorem dX12_passesAll_126 : decode cX12_passesAll 126 = .ok (.aload_n 0, 1) := by decide +kernel
theorem dX12_passesAll_127 : decode cX12_passesAll 127 = .ok (.aload_n 0, 1) := by decide +kernel
theorem dX12_passesAll_128 : decode cX12_passesAll 128 = .ok (.aload_n 0, 1) := by decide +kernel
theorem dX12_passesAll_129 : decode cX12_passesAll 129 = .ok (.getfield 52, 3) := by decide +kernel
theorem dX12_passesAll_132 : decode cX12_passesAll 132 = .ok (.invokevirtual 206, 3) := by decide +kernel
theorem dX12_passesAll_135 : decode cX12_passesAll 135 = .ok (.putfield 52, 3) := by decide +kernel
theorem dX12_passesAll_138 : decode cX12_passesAll 138 = .ok (.aload_n 0, 1) := by decide +kernel
theorem dX12_passesAll_139 : decode cX12_passesAll 139 = .ok (.aload_n 0, 1) := by decide +kernel
theorem dX12_passesAll_140 : decode cX12_passesAll 140 = .ok (.aload_n 0, 1) := by decide +kernel
theorem dX12_passesAll_141 : decode cX12_passesAll 141 = .ok (.getfield 117, 3) := by decide +kernel
theorem dX12_passesAll_144 : decode cX12_passesAll 144 = .ok (.invokevirtual 206, 3) := by decide +kernel
theorem dX12_passesAll_147 : decode cX12_passesAll 147 = .ok (.putfield 117, 3) := by decide +kernel
theorem dX12_passesAll_150 : decode cX12_passesAll 150 = .ok (.aload_n 0, 1) := by decide +kernel
theorem dX12_passesAll_151 : decode cX12_passesAll 151 = .ok (.aload_n 0, 1) := by decide +kernel
theorem dX12_passesAll_152 : decode cX12_passesAll 152 = .ok (.aload_n 0, 1) := by decide +kernel
theorem dX12_passesAll_153 : decode cX12_passesAll 153 = .ok (.getfield 113, 3) := by decide +kernel
theorem dX12_passesAll_156 : decode cX12_passesAll 156 = .ok (.invokevirtual 206, 3) := by decide +kernel
theorem dX12_passesAll_159 : decode cX12_passesAll 159 = .ok (.putfield 113, 3) := by decide +kernel
theorem dX12_passesAll_162 : decode cX12_passesAll 162 = .ok (.aload_n 0, 1) := by decide +kernel
theorem dX12_passesAll_163 : decode cX12_passesAll 163 = .ok (.aload_n 0, 1) := by decide +kernel
theorem dX12_passesAll_164 : decode cX12_passesAll 164 = .ok (.aload_n 0, 1) := by decide +kernel
theorem dX12_passesAll_165 : decode cX12_passesAll 165 = .ok (.getfield 166, 3) := by decide +kernel
theorem dX12_passesAll_168 : decode cX12_passesAll 168 = .ok (.invokevirtual 206, 3) := by decide +kernel
theorem dX12_passesAll_171 : decode cX12_passesAll 171 = .ok (.putfield 166, 3) := by decide +kernel
theorem dX12_passesAll_174 : decode cX12_passesAll 174 = .ok (.aload_n 0, 1) := by decide +kernel
theorem dX12_passesAll_175 : decode cX12_passesAll 175 = .ok (.aload_n 0, 1) := by decide +kernel
theorem dX12_passesAll_176 : decode cX12_passesAll 176 = .ok (.aload_n 0, 1) := by decide +kernel
theorem dX12_passesAll_177 : decode cX12_passesAll 177 = .ok (.getfield 169, 3) := by decide +kernel
theorem dX12_passesAll_180 : decode cX12_passesAll 180 = .ok (.invokevirtual 206, 3) := by decide +kernel
theorem dX12_passesAll_183 : decode cX12_passesAll 183 = .ok (.putfield 169, 3) := by decide +kernel
theorem dX12_passesAll_186 : decode cX12_passesAll 186 = .ok (.aload_n 0, 1) := by decide +kernel
theorem dX12_passesAll_187 : decode cX12_passesAll 187 = .ok (.aload_n 0, 1) := by decide +kernel
theorem dX12_passesAll_188 : decode cX12_passesAll 188 = .ok (.aload_n 0, 1) := by decide +kernel
theorem dX12_passesAll_189 : decode cX12_passesAll 189 = .ok (.getfield 163, 3) := by decide +kernel
theorem dX12_passesAll_192 : decode cX12_passesAll 192 = .ok (.invokevirtual 206, 3) := by decide +kernel
theorem dX12_passesAll_195 : decode cX12_passesAll 195 = .ok (.putfield 163, 3) := by decide +kernel
theorem dX12_passesAll_198 : decode cX12_passesAll 198 = .ok (.aload_n 0, 1) := by decide +kernel
theorem dX12_passesAll_199 : decode cX12_passesAll 199 = .ok (.aload_n 0, 1) := by decide +kernel
theorem dX12_passesAll_200 : decode cX12_passesAll 200 = .ok (.aload_n 0, 1) := by decide +kernel
theorem dX12_passesAll_201 : decode cX12_passesAll 201 = .ok (.getfield 209, 3) := by decide +kernel
theorem dX12_passesAll_204 : decode cX12_passesAll 204 = .ok (.invokevirtual 206, 3) := by decide +kernel
theorem dX12_passesAll_207 : decode cX12_passesAll 207 = .ok (.putfield 209, 3) := by decide +kernel
theorem dX12_passesAll_210 : decode cX12_passesAll 210 = .ok (.aload_n 0, 1) := by decide +kernel
theorem dX12_passesAll_211 : decode cX12_passesAll 211 = .ok (.aload_n 0, 1) := by decide +kernel
theorem dX12_passesAll_212 : decode cX12_passesAll 212 = .ok (.aload_n 0, 1) := by decide +kernel
theorem dX12_passesAll_213 : decode cX12_passesAll 213 = .ok (.getfield 212, 3) := by decide +kernel
theorem dX12_passesAll_216 : decode cX12_passesAll 216 = .ok (.invokevirtual 206, 3) := by decide +kernel
theorem dX12_passesAll_219 : decode cX12_passesAll 219 = .ok (.putfield 212, 3) := by decide +kernel
theorem dX12_passesAll_222 : decode cX12_passesAll 222 = .ok (.return_, 1) := by decide +kernel
theorem dX12_far_0 : decode cX12_far 0 = .ok (.aload_n 0, 1) := by decide +kernel
theorem dX12_far_1 : decode cX12_far 1 = .ok (.iload_n 1, 1) := by decide +kernel
theorem dX12_far_2 : decode cX12_far 2 = .ok (.invokevirtual 172, 3) := by decide +kernel
theorem dX12_far_5 : decode cX12_far 5 = .ok (.ifCond .eq 11, 3) := by decide +kernel
theorem dX12_far_8 : decode cX12_far 8 = .ok (.aload_n 0, 1) := by decide +kernel
theorem dX12_far_9 : decode cX12_far 9 = .ok (.iload_n 2, 1) := by decide +kernel
theorem dX12_far_10 : decode cX12_far 10 = .ok (.invokevirtual 172, 3) := by decide +kernel
theorem dX12_far_13 : decode cX12_far 13 = .ok (.ifCond .ne 9, 3) := by decide +kernel
theorem dX12_far_16 : decode cX12_far 16 = .ok (.aload_n 0, 1) := by decide +kernel
theorem dX12_far_17 : decode cX12_far 17 = .ok (.iconst (-1), 1) := by decide +kernel
theorem dX12_far_18 : decode cX12_far 18 = .ok (.invokevirtual 127, 3) := by decide +kernel
theorem dX12_far_21 : decode cX12_far 21 = .ok (.ireturn, 1) := by decide +kernel
theorem dX12_far_22 : decode cX12_far 22 = .ok (.aload_n 0, 1) := by decide +kernel
theorem dX12_far_23 : decode cX12_far 23 = .ok (.invokevirtual 215, 3) := by decide +kernel
theorem dX12_far_26 : decode cX12_far 26 = .ok (.aload_n 0, 1) := by decide +kernel
theorem dX12_far_27 : decode cX12_far 27 = .ok (.iload_n 1, 1) := by decide +kernel
theorem dX12_far_28 : decode cX12_far 28 = .ok (.iload_n 2, 1) := by decide +kernel
theorem dX12_far_29 : decode cX12_far 29 = .ok (.invokevirtual 218, 3) := by decide +kernel
theorem dX12_far_32 : decode cX12_far 32 = .ok (.ldc 116, 2) := by decide +kernel
theorem dX12_far_34 : decode cX12_far 34 = .ok (.if_icmp .lt 8, 3) := by decide +kernel
theorem dX12_far_37 : decode cX12_far 37 = .ok (.bipush (-9), 2) := by decide +kernel
theorem dX12_far_39 : decode cX12_far 39 = .ok (.goto 9, 3) := by decide +kernel
theorem dX12_far_42 : decode cX12_far 42 = .ok (.aload_n 0, 1) := by decide +kernel
theorem dX12_far_43 : decode cX12_far 43 = .ok (.iload_n 1, 1) := by decide +kernel
theorem dX12_far_44 : decode cX12_far 44 = .ok (.iload_n 2, 1) := by decide +kernel
theorem dX12_far_45 : decode cX12_far 45 = .ok (.invokevirtual 218, 3) := by decide +kernel
theorem dX12_far_48 : decode cX12_far 48 = .ok (.ireturn, 1) := by decide +kernel
theorem dX12_worthOf_0 : decode cX12_worthOf 0 = .ok (.iload_n 3, 1) := by decide +kernel
theorem dX12_worthOf_1 : decode cX12_worthOf 1 = .ok (.ifCond .ne 12, 3) := by decide +kernel
theorem dX12_worthOf_4 : decode cX12_worthOf 4 = .ok (.aload_n 0, 1) := by decide +kernel
theorem dX12_worthOf_5 : decode cX12_worthOf 5 = .ok (.getfield 28, 3) := by decide +kernel
theorem dX12_worthOf_8 : decode cX12_worthOf 8 = .ok (.iload_n 1, 1) := by decide +kernel
theorem dX12_worthOf_9 : decode cX12_worthOf 9 = .ok (.iaload, 1) := by decide +kernel
theorem dX12_worthOf_10 : decode cX12_worthOf 10 = .ok (.goto 4, 3) := by decide +kernel
theorem dX12_worthOf_13 : decode cX12_worthOf 13 = .ok (.iconst 0, 1) := by decide +kernel
theorem dX12_worthOf_14 : decode cX12_worthOf 14 = .ok (.istore 4, 2) := by decide +kernel
theorem dX12_worthOf_16 : decode cX12_worthOf 16 = .ok (.aload_n 0, 1) := by decide +kernel
theorem dX12_worthOf_17 : decode cX12_worthOf 17 = .ok (.getfield 22, 3) := by decide +kernel
theorem dX12_worthOf_20 : decode cX12_worthOf 20 = .ok (.iload_n 1, 1) := by decide +kernel
theorem dX12_worthOf_21 : decode cX12_worthOf 21 = .ok (.iaload, 1) := by decide +kernel
theorem dX12_worthOf_22 : decode cX12_worthOf 22 = .ok (.tableswitch 161 1 5 #[34, 161, 71, 91, 108], 34) := by decide +kernel
theorem dX12_worthOf_56 : decode cX12_worthOf 56 = .ok (.aload_n 0, 1) := by decide +kernel
theorem dX12_worthOf_57 : decode cX12_worthOf 57 = .ok (.getfield 28, 3) := by decide +kernel
theorem dX12_worthOf_60 : decode cX12_worthOf 60 = .ok (.iload_n 1, 1) := by decide +kernel
theorem dX12_worthOf_61 : decode cX12_worthOf 61 = .ok (.iaload, 1) := by decide +kernel
theorem dX12_worthOf_62 : decode cX12_worthOf 62 = .ok (.istore 4, 2) := by decide +kernel
theorem dX12_worthOf_64 : decode cX12_worthOf 64 = .ok (.iconst 0, 1) := by decide +kernel
theorem dX12_worthOf_65 : decode cX12_worthOf 65 = .ok (.istore 5, 2) := by decide +kernel
theorem dX12_worthOf_67 : decode cX12_worthOf 67 = .ok (.iload 5, 2) := by decide +kernel
theorem dX12_worthOf_69 : decode cX12_worthOf 69 = .ok (.iload_n 3, 1) := by decide +kernel
theorem dX12_worthOf_70 : decode cX12_worthOf 70 = .ok (.if_icmp .ge 20, 3) := by decide +kernel
theorem dX12_worthOf_73 : decode cX12_worthOf 73 = .ok (.iload 4, 2) := by decide +kernel
theorem dX12_worthOf_75 : decode cX12_worthOf 75 = .ok (.ifCond .le 15, 3) := by decide +kernel
theorem dX12_worthOf_78 : decode cX12_worthOf 78 = .ok (.iload 4, 2) := by decide +kernel
theorem dX12_worthOf_80 : decode cX12_worthOf 80 = .ok (.iconst 2, 1) := by decide +kernel
theorem dX12_worthOf_81 : decode cX12_worthOf 81 = .ok (.idiv, 1) := by decide +kernel
theorem dX12_worthOf_82 : decode cX12_worthOf 82 = .ok (.istore 4, 2) := by decide +kernel
theorem dX12_worthOf_84 : decode cX12_worthOf 84 = .ok (.iinc 5 1, 3) := by decide +kernel
theorem dX12_worthOf_87 : decode cX12_worthOf 87 = .ok (.goto (-20), 3) := by decide +kernel
theorem dX12_worthOf_90 : decode cX12_worthOf 90 = .ok (.iload 4, 2) := by decide +kernel
theorem dX12_worthOf_92 : decode cX12_worthOf 92 = .ok (.ireturn, 1) := by decide +kernel
theorem dX12_worthOf_93 : decode cX12_worthOf 93 = .ok (.iload_n 2, 1) := by decide +kernel
theorem dX12_worthOf_94 : decode cX12_worthOf 94 = .ok (.aload_n 0, 1) := by decide +kernel
theorem dX12_worthOf_95 : decode cX12_worthOf 95 = .ok (.getfield 31, 3) := by decide +kernel
theorem dX12_worthOf_98 : decode cX12_worthOf 98 = .ok (.iload_n 1, 1) := by decide +kernel
theorem dX12_worthOf_99 : decode cX12_worthOf 99 = .ok (.iaload, 1) := by decide +kernel
theorem dX12_worthOf_100 : decode cX12_worthOf 100 = .ok (.if_icmp .gt 8, 3) := by decide +kernel
theorem dX12_worthOf_103 : decode cX12_worthOf 103 = .ok (.iload 4, 2) := by decide +kernel
theorem dX12_worthOf_105 : decode cX12_worthOf 105 = .ok (.goto 7, 3) := by decide +kernel
theorem dX12_worthOf_108 : decode cX12_worthOf 108 = .ok (.iload 4, 2) := by decide +kernel
theorem dX12_worthOf_110 : decode cX12_worthOf 110 = .ok (.iconst 2, 1) := by decide +kernel
theorem dX12_worthOf_111 : decode cX12_worthOf 111 = .ok (.idiv, 1) := by decide +kernel
theorem dX12_worthOf_112 : decode cX12_worthOf 112 = .ok (.ireturn, 1) := by decide +kernel
theorem dX12_worthOf_113 : decode cX12_worthOf 113 = .ok (.iload_n 2, 1) := by decide +kernel
theorem dX12_worthOf_114 : decode cX12_worthOf 114 = .ok (.aload_n 0, 1) := by decide +kernel
theorem dX12_worthOf_115 : decode cX12_worthOf 115 = .ok (.getfield 34, 3) := by decide +kernel
theorem dX12_worthOf_118 : decode cX12_worthOf 118 = .ok (.iconst 0, 1) := by decide +kernel
theorem dX12_worthOf_119 : decode cX12_worthOf 119 = .ok (.iaload, 1) := by decide +kernel
theorem dX12_worthOf_120 : decode cX12_worthOf 120 = .ok (.if_icmp .lt 8, 3) := by decide +kernel
theorem dX12_worthOf_123 : decode cX12_worthOf 123 = .ok (.iload 4, 2) := by decide +kernel
theorem dX12_worthOf_125 : decode cX12_worthOf 125 = .ok (.goto 4, 3) := by decide +kernel
theorem dX12_worthOf_128 : decode cX12_worthOf 128 = .ok (.iconst 0, 1) := by decide +kernel
theorem dX12_worthOf_129 : decode cX12_worthOf 129 = .ok (.ireturn, 1) := by decide +kernel
theorem dX12_worthOf_130 : decode cX12_worthOf 130 = .ok (.iload_n 2, 1) := by decide +kernel
theorem dX12_worthOf_131 : decode cX12_worthOf 131 = .ok (.aload_n 0, 1) := by decide +kernel
theorem dX12_worthOf_132 : decode cX12_worthOf 132 = .ok (.getfield 34, 3) := by decide +kernel
theorem dX12_worthOf_135 : decode cX12_worthOf 135 = .ok (.iconst 0, 1) := by decide +kernel
theorem dX12_worthOf_136 : decode cX12_worthOf 136 = .ok (.iaload, 1) := by decide +kernel
theorem dX12_worthOf_137 : decode cX12_worthOf 137 = .ok (.if_icmp .lt 8, 3) := by decide +kernel
theorem dX12_worthOf_140 : decode cX12_worthOf 140 = .ok (.iload 4, 2) := by decide +kernel
theorem dX12_worthOf_142 : decode cX12_worthOf 142 = .ok (.goto 4, 3) := by decide +kernel
theorem dX12_worthOf_145 : decode cX12_worthOf 145 = .ok (.iconst 0, 1) := by decide +kernel
theorem dX12_worthOf_146 : decode cX12_worthOf 146 = .ok (.istore 4, 2) := by decide +kernel
theorem dX12_worthOf_148 : decode cX12_worthOf 148 = .ok (.iload 4, 2) := by decide +kernel
theorem dX12_worthOf_150 : decode cX12_worthOf 150 = .ok (.ifCond .le 30, 3) := by decide +kernel
theorem dX12_worthOf_153 : decode cX12_worthOf 153 = .ok (.iload_n 2, 1) := by decide +kernel
theorem dX12_worthOf_154 : decode cX12_worthOf 154 = .ok (.aload_n 0, 1) := by decide +kernel
theorem dX12_worthOf_155 : decode cX12_worthOf 155 = .ok (.getfield 34, 3) := by decide +kernel
theorem dX12_worthOf_158 : decode cX12_worthOf 158 = .ok (.iconst 1, 1) := by decide +kernel
theorem dX12_worthOf_159 : decode cX12_worthOf 159 = .ok (.iaload, 1) := by decide +kernel
theorem dX12_worthOf_160 : decode cX12_worthOf 160 = .ok (.if_icmp .le 20, 3) := by decide +kernel
theorem dX12_worthOf_163 : decode cX12_worthOf 163 = .ok (.iload 4, 2) := by decide +kernel
theorem dX12_worthOf_165 : decode cX12_worthOf 165 = .ok (.iload_n 2, 1) := by decide +kernel
theorem dX12_worthOf_166 : decode cX12_worthOf 166 = .ok (.aload_n 0, 1) := by decide +kernel
theorem dX12_worthOf_167 : decode cX12_worthOf 167 = .ok (.getfield 34, 3) := by decide +kernel
theorem dX12_worthOf_170 : decode cX12_worthOf 170 = .ok (.iconst 1, 1) := by decide +kernel
theorem dX12_worthOf_171 : decode cX12_worthOf 171 = .ok (.iaload, 1) := by decide +kernel
theorem dX12_worthOf_172 : decode cX12_worthOf 172 = .ok (.isub, 1) := by decide +kernel
theorem dX12_worthOf_173 : decode cX12_worthOf 173 = .ok (.bipush 50, 2) := by decide +kernel
theorem dX12_worthOf_175 : decode cX12_worthOf 175 = .ok (.idiv, 1) := by decide +kernel
theorem dX12_worthOf_176 : decode cX12_worthOf 176 = .ok (.iadd, 1) := by decide +kernel
theorem dX12_worthOf_177 : decode cX12_worthOf 177 = .ok (.goto 5, 3) := by decide +kernel
theorem dX12_worthOf_180 : decode cX12_worthOf 180 = .ok (.iload 4, 2) := by decide +kernel
theorem dX12_worthOf_182 : decode cX12_worthOf 182 = .ok (.ireturn, 1) := by decide +kernel
theorem dX12_worthOf_183 : decode cX12_worthOf 183 = .ok (.iload 4, 2) := by decide +kernel
theorem dX12_worthOf_185 : decode cX12_worthOf 185 = .ok (.ireturn, 1) := by decide +kernel
theorem dX12_mayBe_0 : decode cX12_mayBe 0 = .ok (.aload_n 0, 1) := by decide +kernel
theorem dX12_mayBe_1 : decode cX12_mayBe 1 = .ok (.getfield 22, 3) := by decide +kernel
theorem dX12_mayBe_4 : decode cX12_mayBe 4 = .ok (.iload_n 1, 1) := by decide +kernel
theorem dX12_mayBe_5 : decode cX12_mayBe 5 = .ok (.iaload, 1) := by decide +kernel
theorem dX12_mayBe_6 : decode cX12_mayBe 6 = .ok (.iconst 1, 1) := by decide +kernel
theorem dX12_mayBe_7 : decode cX12_mayBe 7 = .ok (.if_icmp .ne 24, 3) := by decide +kernel
theorem dX12_mayBe_10 : decode cX12_mayBe 10 = .ok (.aload_n 0, 1) := by decide +kernel
theorem dX12_mayBe_11 : decode cX12_mayBe 11 = .ok (.iload_n 1, 1) := by decide +kernel
theorem dX12_mayBe_12 : decode cX12_mayBe 12 = .ok (.iload_n 2, 1) := by decide +kernel
theorem dX12_mayBe_13 : decode cX12_mayBe 13 = .ok (.aload_n 0, 1) := by decide +kernel
theorem dX12_mayBe_14 : decode cX12_mayBe 14 = .ok (.getfield 83, 3) := by decide +kernel
theorem dX12_mayBe_17 : decode cX12_mayBe 17 = .ok (.iload_n 1, 1) := by decide +kernel
theorem dX12_mayBe_18 : decode cX12_mayBe 18 = .ok (.iaload, 1) := by decide +kernel
theorem dX12_mayBe_19 : decode cX12_mayBe 19 = .ok (.invokevirtual 222, 3) := by decide +kernel
theorem dX12_mayBe_22 : decode cX12_mayBe 22 = .ok (.ifCond .le 7, 3) := by decide +kernel
theorem dX12_mayBe_25 : decode cX12_mayBe 25 = .ok (.iconst 1, 1) := by decide +kernel
theorem dX12_mayBe_26 : decode cX12_mayBe 26 = .ok (.goto 4, 3) := by decide +kernel
theorem dX12_mayBe_29 : decode cX12_mayBe 29 = .ok (.iconst 0, 1) := by decide +kernel
theorem dX12_mayBe_30 : decode cX12_mayBe 30 = .ok (.ireturn, 1) := by decide +kernel
theorem dX12_mayBe_31 : decode cX12_mayBe 31 = .ok (.aload_n 0, 1) := by decide +kernel
theorem dX12_mayBe_32 : decode cX12_mayBe 32 = .ok (.getfield 83, 3) := by decide +kernel
theorem dX12_mayBe_35 : decode cX12_mayBe 35 = .ok (.iload_n 1, 1) := by decide +kernel
theorem dX12_mayBe_36 : decode cX12_mayBe 36 = .ok (.iaload, 1) := by decide +kernel
theorem dX12_mayBe_37 : decode cX12_mayBe 37 = .ok (.ifCond .ne 31, 3) := by decide +kernel
theorem dX12_mayBe_40 : decode cX12_mayBe 40 = .ok (.aload_n 0, 1) := by decide +kernel
theorem dX12_mayBe_41 : decode cX12_mayBe 41 = .ok (.getfield 22, 3) := by decide +kernel
theorem dX12_mayBe_44 : decode cX12_mayBe 44 = .ok (.iload_n 1, 1) := by decide +kernel
theorem dX12_mayBe_45 : decode cX12_mayBe 45 = .ok (.iaload, 1) := by decide +kernel
theorem dX12_mayBe_46 : decode cX12_mayBe 46 = .ok (.iconst 2, 1) := by decide +kernel
theorem dX12_mayBe_47 : decode cX12_mayBe 47 = .ok (.if_icmp .ne 17, 3) := by decide +kernel
theorem dX12_mayBe_50 : decode cX12_mayBe 50 = .ok (.aload_n 0, 1) := by decide +kernel
theorem dX12_mayBe_51 : decode cX12_mayBe 51 = .ok (.getfield 83, 3) := by decide +kernel
theorem dX12_mayBe_54 : decode cX12_mayBe 54 = .ok (.aload_n 0, 1) := by decide +kernel
theorem dX12_mayBe_55 : decode cX12_mayBe 55 = .ok (.getfield 31, 3) := by decide +kernel
theorem dX12_mayBe_58 : decode cX12_mayBe 58 = .ok (.iload_n 1, 1) := by decide +kernel
theorem dX12_mayBe_59 : decode cX12_mayBe 59 = .ok (.iaload, 1) := by decide +kernel
theorem dX12_mayBe_60 : decode cX12_mayBe 60 = .ok (.iaload, 1) := by decide +kernel
theorem dX12_mayBe_61 : decode cX12_mayBe 61 = .ok (.ifCond .le 7, 3) := by decide +kernel
theorem dX12_mayBe_64 : decode cX12_mayBe 64 = .ok (.iconst 1, 1) := by decide +kernel
theorem dX12_mayBe_65 : decode cX12_mayBe 65 = .ok (.goto 4, 3) := by decide +kernel
theorem dX12_mayBe_68 : decode cX12_mayBe 68 = .ok (.iconst 0, 1) := by decide +kernel
theorem dX12_mayBe_69 : decode cX12_mayBe 69 = .ok (.ireturn, 1) := by decide +kernel
theorem dX12_mayHave_0 : decode cX12_mayHave 0 = .ok (.aload_n 0, 1) := by decide +kernel
theorem dX12_mayHave_1 : decode cX12_mayHave 1 = .ok (.getfield 25, 3) := by decide +kernel
theorem dX12_mayHave_4 : decode cX12_mayHave 4 = .ok (.iload_n 1, 1) := by decide +kernel
theorem dX12_mayHave_5 : decode cX12_mayHave 5 = .ok (.iaload, 1) := by decide +kernel
theorem dX12_mayHave_6 : decode cX12_mayHave 6 = .ok (.aload_n 0, 1) := by decide +kernel
theorem dX12_mayHave_7 : decode cX12_mayHave 7 = .ok (.getfield 163, 3) := by decide +kernel
theorem dX12_mayHave_10 : decode cX12_mayHave 10 = .ok (.if_icmp .ne 19, 3) := by decide +kernel
theorem dX12_mayHave_13 : decode cX12_mayHave 13 = .ok (.aload_n 0, 1) := by decide +kernel
theorem dX12_mayHave_14 : decode cX12_mayHave 14 = .ok (.iload_n 1, 1) := by decide +kernel
theorem dX12_mayHave_15 : decode cX12_mayHave 15 = .ok (.aload_n 0, 1) := by decide +kernel
theorem dX12_mayHave_16 : decode cX12_mayHave 16 = .ok (.getfield 209, 3) := by decide +kernel
theorem dX12_mayHave_19 : decode cX12_mayHave 19 = .ok (.invokevirtual 225, 3) := by decide +kernel
theorem dX12_mayHave_22 : decode cX12_mayHave 22 = .ok (.ifCond .eq 7, 3) := by decide +kernel
theorem dX12_mayHave_25 : decode cX12_mayHave 25 = .ok (.iconst 1, 1) := by decide +kernel
theorem dX12_mayHave_26 : decode cX12_mayHave 26 = .ok (.goto 4, 3) := by decide +kernel
theorem dX12_mayHave_29 : decode cX12_mayHave 29 = .ok (.iconst 0, 1) := by decide +kernel
theorem dX12_mayHave_30 : decode cX12_mayHave 30 = .ok (.ireturn, 1) := by decide +kernel
theorem dX12_hasIt_0 : decode cX12_hasIt 0 = .ok (.aload_n 0, 1) := by decide +kernel
theorem dX12_hasIt_1 : decode cX12_hasIt 1 = .ok (.iload_n 1, 1) := by decide +kernel
theorem dX12_hasIt_2 : decode cX12_hasIt 2 = .ok (.aload_n 0, 1) := by decide +kernel
theorem dX12_hasIt_3 : decode cX12_hasIt 3 = .ok (.getfield 209, 3) := by decide +kernel
theorem dX12_hasIt_6 : decode cX12_hasIt 6 = .ok (.aload_n 0, 1) := by decide +kernel
theorem dX12_hasIt_7 : decode cX12_hasIt 7 = .ok (.getfield 83, 3) := by decide +kernel
theorem dX12_hasIt_10 : decode cX12_hasIt 10 = .ok (.iload_n 1, 1) := by decide +kernel
theorem dX12_hasIt_11 : decode cX12_hasIt 11 = .ok (.iaload, 1) := by decide +kernel
theorem dX12_hasIt_12 : decode cX12_hasIt 12 = .ok (.invokevirtual 222, 3) := by decide +kernel
theorem dX12_hasIt_15 : decode cX12_hasIt 15 = .ok (.istore_n 2, 1) := by decide +kernel
theorem dX12_hasIt_16 : decode cX12_hasIt 16 = .ok (.aload_n 0, 1) := by decide +kernel
theorem dX12_hasIt_17 : decode cX12_hasIt 17 = .ok (.getfield 83, 3) := by decide +kernel
theorem dX12_hasIt_20 : decode cX12_hasIt 20 = .ok (.iload_n 1, 1) := by decide +kernel
theorem dX12_hasIt_21 : decode cX12_hasIt 21 = .ok (.dup2, 1) := by decide +kernel
theorem dX12_hasIt_22 : decode cX12_hasIt 22 = .ok (.iaload, 1) := by decide +kernel
theorem dX12_hasIt_23 : decode cX12_hasIt 23 = .ok (.iconst 1, 1) := by decide +kernel
theorem dX12_hasIt_24 : decode cX12_hasIt 24 = .ok (.iadd, 1) := by decide +kernel
theorem dX12_hasIt_25 : decode cX12_hasIt 25 = .ok (.iastore, 1) := by decide +kernel
theorem dX12_hasIt_26 : decode cX12_hasIt 26 = .ok (.aload_n 0, 1) := by decide +kernel
theorem dX12_hasIt_27 : decode cX12_hasIt 27 = .ok (.dup, 1) := by decide +kernel
theorem dX12_hasIt_28 : decode cX12_hasIt 28 = .ok (.getfield 212, 3) := by decide +kernel
theorem dX12_hasIt_31 : decode cX12_hasIt 31 = .ok (.iload_n 2, 1) := by decide +kernel
theorem dX12_hasIt_32 : decode cX12_hasIt 32 = .ok (.iadd, 1) := by decide +kernel
theorem dX12_hasIt_33 : decode cX12_hasIt 33 = .ok (.putfield 212, 3) := by decide +kernel
theorem dX12_hasIt_36 : decode cX12_hasIt 36 = .ok (.iload_n 2, 1) := by decide +kernel
theorem dX12_hasIt_37 : decode cX12_hasIt 37 = .ok (.ireturn, 1) := by decide +kernel
theorem dX12_begins_0 : decode cX12_begins 0 = .ok (.aload_n 0, 1) := by decide +kernel
theorem dX12_begins_1 : decode cX12_begins 1 = .ok (.iload_n 1, 1) := by decide +kernel
theorem dX12_begins_2 : decode cX12_begins 2 = .ok (.putfield 163, 3) := by decide +kernel
theorem dX12_begins_5 : decode cX12_begins 5 = .ok (.aload_n 0, 1) := by decide +kernel
theorem dX12_begins_6 : decode cX12_begins 6 = .ok (.iconst 0, 1) := by decide +kernel
theorem dX12_begins_7 : decode cX12_begins 7 = .ok (.putfield 209, 3) := by decide +kernel
theorem dX12_begins_10 : decode cX12_begins 10 = .ok (.aload_n 0, 1) := by decide +kernel
theorem dX12_begins_11 : decode cX12_begins 11 = .ok (.iconst 0, 1) := by decide +kernel
theorem dX12_begins_12 : decode cX12_begins 12 = .ok (.putfield 212, 3) := by decide +kernel
theorem dX12_begins_15 : decode cX12_begins 15 = .ok (.iconst 0, 1) := by decide +kernel
theorem dX12_begins_16 : decode cX12_begins 16 = .ok (.istore_n 2, 1) := by decide +kernel
theorem dX12_begins_17 : decode cX12_begins 17 = .ok (.iload_n 2, 1) := by decide +kernel
theorem dX12_begins_18 : decode cX12_begins 18 = .ok (.bipush 7, 2) := by decide +kernel
theorem dX12_begins_20 : decode cX12_begins 20 = .ok (.if_icmp .ge 16, 3) := by decide +kernel
theorem dX12_begins_23 : decode cX12_begins 23 = .ok (.aload_n 0, 1) := by decide +kernel
theorem dX12_begins_24 : decode cX12_begins 24 = .ok (.getfield 83, 3) := by decide +kernel
theorem dX12_begins_27 : decode cX12_begins 27 = .ok (.iload_n 2, 1) := by decide +kernel
theorem dX12_begins_28 : decode cX12_begins 28 = .ok (.iconst 0, 1) := by decide +kernel
theorem dX12_begins_29 : decode cX12_begins 29 = .ok (.iastore, 1) := by decide +kernel
theorem dX12_begins_30 : decode cX12_begins 30 = .ok (.iinc 2 1, 3) := by decide +kernel
theorem dX12_begins_33 : decode cX12_begins 33 = .ok (.goto (-16), 3) := by decide +kernel
theorem dX12_begins_36 : decode cX12_begins 36 = .ok (.return_, 1) := by decide +kernel
theorem dX12_mayGo_0 : decode cX12_mayGo 0 = .ok (.aload_n 0, 1) := by decide +kernel
theorem dX12_mayGo_1 : decode cX12_mayGo 1 = .ok (.getfield 209, 3) := by decide +kernel
theorem dX12_mayGo_4 : decode cX12_mayGo 4 = .ok (.aload_n 0, 1) := by decide +kernel
theorem dX12_mayGo_5 : decode cX12_mayGo 5 = .ok (.aload_n 0, 1) := by decide +kernel
theorem dX12_mayGo_6 : decode cX12_mayGo 6 = .ok (.getfield 163, 3) := by decide +kernel
theorem dX12_mayGo_9 : decode cX12_mayGo 9 = .ok (.iload_n 1, 1) := by decide +kernel
theorem dX12_mayGo_10 : decode cX12_mayGo 10 = .ok (.invokevirtual 218, 3) := by decide +kernel
theorem dX12_mayGo_13 : decode cX12_mayGo 13 = .ok (.iadd, 1) := by decide +kernel
theorem dX12_mayGo_14 : decode cX12_mayGo 14 = .ok (.aload_n 0, 1) := by decide +kernel
theorem dX12_mayGo_15 : decode cX12_mayGo 15 = .ok (.getfield 34, 3) := by decide +kernel
theorem dX12_mayGo_18 : decode cX12_mayGo 18 = .ok (.iconst 2, 1) := by decide +kernel
theorem dX12_mayGo_19 : decode cX12_mayGo 19 = .ok (.iaload, 1) := by decide +kernel
theorem dX12_mayGo_20 : decode cX12_mayGo 20 = .ok (.if_icmp .gt 7, 3) := by decide +kernel
theorem dX12_mayGo_23 : decode cX12_mayGo 23 = .ok (.iconst 1, 1) := by decide +kernel
theorem dX12_mayGo_24 : decode cX12_mayGo 24 = .ok (.goto 4, 3) := by decide +kernel
theorem dX12_mayGo_27 : decode cX12_mayGo 27 = .ok (.iconst 0, 1) := by decide +kernel
theorem dX12_mayGo_28 : decode cX12_mayGo 28 = .ok (.ireturn, 1) := by decide +kernel
theorem dX12_goesTo_0 : decode cX12_goesTo 0 = .ok (.aload_n 0, 1) := by decide +kernel
theorem dX12_goesTo_1 : decode cX12_goesTo 1 = .ok (.dup, 1) := by decide +kernel
theorem dX12_goesTo_2 : decode cX12_goesTo 2 = .ok (.getfield 209, 3) := by decide +kernel
theorem dX12_goesTo_5 : decode cX12_goesTo 5 = .ok (.aload_n 0, 1) := by decide +kernel
theorem dX12_goesTo_6 : decode cX12_goesTo 6 = .ok (.aload_n 0, 1) := by decide +kernel
theorem dX12_goesTo_7 : decode cX12_goesTo 7 = .ok (.getfield 163, 3) := by decide +kernel
theorem dX12_goesTo_10 : decode cX12_goesTo 10 = .ok (.iload_n 1, 1) := by decide +kernel
theorem dX12_goesTo_11 : decode cX12_goesTo 11 = .ok (.invokevirtual 218, 3) := by decide +kernel
theorem dX12_goesTo_14 : decode cX12_goesTo 14 = .ok (.iadd, 1) := by decide +kernel
theorem dX12_goesTo_15 : decode cX12_goesTo 15 = .ok (.putfield 209, 3) := by decide +kernel
theorem dX12_goesTo_18 : decode cX12_goesTo 18 = .ok (.aload_n 0, 1) := by decide +kernel
theorem dX12_goesTo_19 : decode cX12_goesTo 19 = .ok (.iload_n 1, 1) := by decide +kernel
theorem dX12_goesTo_20 : decode cX12_goesTo 20 = .ok (.putfield 163, 3) := by decide +kernel
theorem dX12_goesTo_23 : decode cX12_goesTo 23 = .ok (.return_, 1) := by decide +kernel
theorem dX12_thing_0 : decode cX12_thing 0 = .ok (.aload_n 0, 1) := by decide +kernel
theorem dX12_thing_1 : decode cX12_thing 1 = .ok (.iload_n 1, 1) := by decide +kernel
theorem dX12_thing_2 : decode cX12_thing 2 = .ok (.invokevirtual 181, 3) := by decide +kernel
theorem dX12_thing_5 : decode cX12_thing 5 = .ok (.ifCond .ne 9, 3) := by decide +kernel
theorem dX12_thing_8 : decode cX12_thing 8 = .ok (.aload_n 0, 1) := by decide +kernel
theorem dX12_thing_9 : decode cX12_thing 9 = .ok (.iconst (-1), 1) := by decide +kernel
theorem dX12_thing_10 : decode cX12_thing 10 = .ok (.invokevirtual 127, 3) := by decide +kernel
theorem dX12_thing_13 : decode cX12_thing 13 = .ok (.ireturn, 1) := by decide +kernel
theorem dX12_thing_14 : decode cX12_thing 14 = .ok (.iload_n 2, 1) := by decide +kernel
theorem dX12_thing_15 : decode cX12_thing 15 = .ok (.tableswitch 68 0 4 #[33, 40, 47, 54, 61], 33) := by decide +kernel
theorem dX12_thing_48 : decode cX12_thing 48 = .ok (.aload_n 0, 1) := by decide +kernel
theorem dX12_thing_49 : decode cX12_thing 49 = .ok (.getfield 22, 3) := by decide +kernel
theorem dX12_thing_52 : decode cX12_thing 52 = .ok (.iload_n 1, 1) := by decide +kernel
theorem dX12_thing_53 : decode cX12_thing 53 = .ok (.iaload, 1) := by decide +kernel
theorem dX12_thing_54 : decode cX12_thing 54 = .ok (.ireturn, 1) := by decide +kernel
theorem dX12_thing_55 : decode cX12_thing 55 = .ok (.aload_n 0, 1) := by decide +kernel
theorem dX12_thing_56 : decode cX12_thing 56 = .ok (.getfield 25, 3) := by decide +kernel
theorem dX12_thing_59 : decode cX12_thing 59 = .ok (.iload_n 1, 1) := by decide +kernel
theorem dX12_thing_60 : decode cX12_thing 60 = .ok (.iaload, 1) := by decide +kernel
theorem dX12_thing_61 : decode cX12_thing 61 = .ok (.ireturn, 1) := by decide +kernel
theorem dX12_thing_62 : decode cX12_thing 62 = .ok (.aload_n 0, 1) := by decide +kernel
theorem dX12_thing_63 : decode cX12_thing 63 = .ok (.getfield 28, 3) := by decide +kernel
theorem dX12_thing_66 : decode cX12_thing 66 = .ok (.iload_n 1, 1) := by decide +kernel
theorem dX12_thing_67 : decode cX12_thing 67 = .ok (.iaload, 1) := by decide +kernel
theorem dX12_thing_68 : decode cX12_thing 68 = .ok (.ireturn, 1) := by decide +kernel
theorem dX12_thing_69 : decode cX12_thing 69 = .ok (.aload_n 0, 1) := by decide +kernel
theorem dX12_thing_70 : decode cX12_thing 70 = .ok (.getfield 31, 3) := by decide +kernel
theorem dX12_thing_73 : decode cX12_thing 73 = .ok (.iload_n 1, 1) := by decide +kernel
theorem dX12_thing_74 : decode cX12_thing 74 = .ok (.iaload, 1) := by decide +kernel
theorem dX12_thing_75 : decode cX12_thing 75 = .ok (.ireturn, 1) := by decide +kernel
theorem dX12_thing_76 : decode cX12_thing 76 = .ok (.aload_n 0, 1) := by decide +kernel
theorem dX12_thing_77 : decode cX12_thing 77 = .ok (.getfield 83, 3) := by decide +kernel
theorem dX12_thing_80 : decode cX12_thing 80 = .ok (.iload_n 1, 1) := by decide +kernel
theorem dX12_thing_81 : decode cX12_thing 81 = .ok (.iaload, 1) := by decide +kernel
theorem dX12_thing_82 : decode cX12_thing 82 = .ok (.ireturn, 1) := by decide +kernel
theorem dX12_thing_83 : decode cX12_thing 83 = .ok (.aload_n 0, 1) := by decide +kernel
theorem dX12_thing_84 : decode cX12_thing 84 = .ok (.bipush (-2), 2) := by decide +kernel
theorem dX12_thing_86 : decode cX12_thing 86 = .ok (.invokevirtual 127, 3) := by decide +kernel
theorem dX12_thing_89 : decode cX12_thing 89 = .ok (.ireturn, 1) := by decide +kernel
theorem dX12_set_0 : decode cX12_set 0 = .ok (.iload_n 1, 1) := by decide +kernel
theorem dX12_set_1 : decode cX12_set 1 = .ok (.iconst 0, 1) := by decide +kernel
theorem dX12_set_2 : decode cX12_set 2 = .ok (.iconst 3, 1) := by decide +kernel
theorem dX12_set_3 : decode cX12_set 3 = .ok (.invokestatic 140, 3) := by decide +kernel
theorem dX12_set_6 : decode cX12_set 6 = .ok (.ifCond .ne 10, 3) := by decide +kernel
theorem dX12_set_9 : decode cX12_set 9 = .ok (.aload_n 0, 1) := by decide +kernel
theorem dX12_set_10 : decode cX12_set 10 = .ok (.bipush (-2), 2) := by decide +kernel
theorem dX12_set_12 : decode cX12_set 12 = .ok (.invokevirtual 127, 3) := by decide +kernel
theorem dX12_set_15 : decode cX12_set 15 = .ok (.ireturn, 1) := by decide +kernel
theorem dX12_set_16 : decode cX12_set 16 = .ok (.iload_n 1, 1) := by decide +kernel
theorem dX12_set_17 : decode cX12_set 17 = .ok (.iconst 3, 1) := by decide +kernel
theorem dX12_set_18 : decode cX12_set 18 = .ok (.if_icmp .ne 17, 3) := by decide +kernel
theorem dX12_set_21 : decode cX12_set 21 = .ok (.aload_n 0, 1) := by decide +kernel
theorem dX12_set_22 : decode cX12_set 22 = .ok (.iload_n 2, 1) := by decide +kernel
theorem dX12_set_23 : decode cX12_set 23 = .ok (.invokevirtual 172, 3) := by decide +kernel
theorem dX12_set_26 : decode cX12_set 26 = .ok (.ifCond .ne 9, 3) := by decide +kernel
theorem dX12_set_29 : decode cX12_set 29 = .ok (.aload_n 0, 1) := by decide +kernel
theorem dX12_set_30 : decode cX12_set 30 = .ok (.iconst (-1), 1) := by decide +kernel
theorem dX12_set_31 : decode cX12_set 31 = .ok (.invokevirtual 127, 3) := by decide +kernel
theorem dX12_set_34 : decode cX12_set 34 = .ok (.ireturn, 1) := by decide +kernel
theorem dX12_set_35 : decode cX12_set 35 = .ok (.iload_n 2, 1) := by decide +kernel
theorem dX12_set_36 : decode cX12_set 36 = .ok (.iload_n 1, 1) := by decide +kernel
theorem dX12_set_37 : decode cX12_set 37 = .ok (.iconst 2, 1) := by decide +kernel
theorem dX12_set_38 : decode cX12_set 38 = .ok (.if_icmp .ne 7, 3) := by decide +kernel
theorem dX12_set_41 : decode cX12_set 41 = .ok (.iconst 1, 1) := by decide +kernel
theorem dX12_set_42 : decode cX12_set 42 = .ok (.goto 4, 3) := by decide +kernel
theorem dX12_set_45 : decode cX12_set 45 = .ok (.iconst 0, 1) := by decide +kernel
theorem dX12_set_46 : decode cX12_set 46 = .ok (.sipush 999, 3) := by decide +kernel
theorem dX12_set_49 : decode cX12_set 49 = .ok (.invokestatic 120, 3) := by decide +kernel
theorem dX12_set_52 : decode cX12_set 52 = .ok (.istore_n 3, 1) := by decide +kernel
theorem dX12_set_53 : decode cX12_set 53 = .ok (.iload_n 3, 1) := by decide +kernel
theorem dX12_set_54 : decode cX12_set 54 = .ok (.ifCond .eq 9, 3) := by decide +kernel
theorem dX12_set_57 : decode cX12_set 57 = .ok (.aload_n 0, 1) := by decide +kernel
theorem dX12_set_58 : decode cX12_set 58 = .ok (.iload_n 3, 1) := by decide +kernel
theorem dX12_set_59 : decode cX12_set 59 = .ok (.invokevirtual 127, 3) := by decide +kernel
theorem dX12_set_62 : decode cX12_set 62 = .ok (.ireturn, 1) := by decide +kernel
theorem dX12_set_63 : decode cX12_set 63 = .ok (.aload_n 0, 1) := by decide +kernel
theorem dX12_set_64 : decode cX12_set 64 = .ok (.getfield 34, 3) := by decide +kernel
theorem dX12_set_67 : decode cX12_set 67 = .ok (.iload_n 1, 1) := by decide +kernel
theorem dX12_set_68 : decode cX12_set 68 = .ok (.iaload, 1) := by decide +kernel
theorem dX12_set_69 : decode cX12_set 69 = .ok (.istore 4, 2) := by decide +kernel
theorem dX12_set_71 : decode cX12_set 71 = .ok (.aload_n 0, 1) := by decide +kernel
theorem dX12_set_72 : decode cX12_set 72 = .ok (.getfield 34, 3) := by decide +kernel
theorem dX12_set_75 : decode cX12_set 75 = .ok (.iload_n 1, 1) := by decide +kernel
theorem dX12_set_76 : decode cX12_set 76 = .ok (.iload_n 2, 1) := by decide +kernel
theorem dX12_set_77 : decode cX12_set 77 = .ok (.iastore, 1) := by decide +kernel
theorem dX12_set_78 : decode cX12_set 78 = .ok (.iload 4, 2) := by decide +kernel
theorem dX12_set_80 : decode cX12_set 80 = .ok (.ireturn, 1) := by decide +kernel
theorem dX12_go_0 : decode cX12_go 0 = .ok (.aload_n 0, 1) := by decide +kernel
theorem dX12_go_1 : decode cX12_go 1 = .ok (.iload_n 1, 1) := by decide +kernel
theorem dX12_go_2 : decode cX12_go 2 = .ok (.invokevirtual 172, 3) := by decide +kernel
theorem dX12_go_5 : decode cX12_go 5 = .ok (.ifCond .ne 9, 3) := by decide +kernel
theorem dX12_go_8 : decode cX12_go 8 = .ok (.aload_n 0, 1) := by decide +kernel
theorem dX12_go_9 : decode cX12_go 9 = .ok (.iconst (-1), 1) := by decide +kernel
theorem dX12_go_10 : decode cX12_go 10 = .ok (.invokevirtual 127, 3) := by decide +kernel
theorem dX12_go_13 : decode cX12_go 13 = .ok (.ireturn, 1) := by decide +kernel
theorem dX12_go_14 : decode cX12_go 14 = .ok (.aload_n 0, 1) := by decide +kernel
theorem dX12_go_15 : decode cX12_go 15 = .ok (.invokevirtual 215, 3) := by decide +kernel
theorem dX12_go_18 : decode cX12_go 18 = .ok (.aload_n 0, 1) := by decide +kernel
theorem dX12_go_19 : decode cX12_go 19 = .ok (.iload_n 1, 1) := by decide +kernel
theorem dX12_go_20 : decode cX12_go 20 = .ok (.invokevirtual 229, 3) := by decide +kernel
theorem dX12_go_23 : decode cX12_go 23 = .ok (.ifCond .ne 10, 3) := by decide +kernel
theorem dX12_go_26 : decode cX12_go 26 = .ok (.aload_n 0, 1) := by decide +kernel
theorem dX12_go_27 : decode cX12_go 27 = .ok (.bipush (-3), 2) := by decide +kernel
theorem dX12_go_29 : decode cX12_go 29 = .ok (.invokevirtual 127, 3) := by decide +kernel
theorem dX12_go_32 : decode cX12_go 32 = .ok (.ireturn, 1) := by decide +kernel
theorem dX12_go_33 : decode cX12_go 33 = .ok (.aload_n 0, 1) := by decide +kernel
theorem dX12_go_34 : decode cX12_go 34 = .ok (.iload_n 1, 1) := by decide +kernel
theorem dX12_go_35 : decode cX12_go 35 = .ok (.invokevirtual 232, 3) := by decide +kernel
theorem dX12_go_38 : decode cX12_go 38 = .ok (.aload_n 0, 1) := by decide +kernel
theorem dX12_go_39 : decode cX12_go 39 = .ok (.getfield 209, 3) := by decide +kernel
theorem dX12_go_42 : decode cX12_go 42 = .ok (.ireturn, 1) := by decide +kernel
theorem dX12_have_0 : decode cX12_have 0 = .ok (.aload_n 0, 1) := by decide +kernel
theorem dX12_have_1 : decode cX12_have 1 = .ok (.iload_n 1, 1) := by decide +kernel
theorem dX12_have_2 : decode cX12_have 2 = .ok (.invokevirtual 181, 3) := by decide +kernel
theorem dX12_have_5 : decode cX12_have 5 = .ok (.ifCond .ne 9, 3) := by decide +kernel
theorem dX12_have_8 : decode cX12_have 8 = .ok (.aload_n 0, 1) := by decide +kernel
theorem dX12_have_9 : decode cX12_have 9 = .ok (.iconst (-1), 1) := by decide +kernel
theorem dX12_have_10 : decode cX12_have 10 = .ok (.invokevirtual 127, 3) := by decide +kernel
theorem dX12_have_13 : decode cX12_have 13 = .ok (.ireturn, 1) := by decide +kernel
theorem dX12_have_14 : decode cX12_have 14 = .ok (.aload_n 0, 1) := by decide +kernel
theorem dX12_have_15 : decode cX12_have 15 = .ok (.iload_n 1, 1) := by decide +kernel
theorem dX12_have_16 : decode cX12_have 16 = .ok (.invokevirtual 236, 3) := by decide +kernel
theorem dX12_have_19 : decode cX12_have 19 = .ok (.ifCond .eq 11, 3) := by decide +kernel
theorem dX12_have_22 : decode cX12_have 22 = .ok (.aload_n 0, 1) := by decide +kernel
theorem dX12_have_23 : decode cX12_have 23 = .ok (.iload_n 1, 1) := by decide +kernel
theorem dX12_have_24 : decode cX12_have 24 = .ok (.invokevirtual 239, 3) := by decide +kernel
theorem dX12_have_27 : decode cX12_have 27 = .ok (.goto 9, 3) := by decide +kernel
theorem dX12_have_30 : decode cX12_have 30 = .ok (.aload_n 0, 1) := by decide +kernel
theorem dX12_have_31 : decode cX12_have 31 = .ok (.bipush (-3), 2) := by decide +kernel
theorem dX12_have_33 : decode cX12_have 33 = .ok (.invokevirtual 127, 3) := by decide +kernel
theorem dX12_have_36 : decode cX12_have 36 = .ok (.ireturn, 1) := by decide +kernel
theorem dX12_worthAt_0 : decode cX12_worthAt 0 = .ok (.aload_n 0, 1) := by decide +kernel
theorem dX12_worthAt_1 : decode cX12_worthAt 1 = .ok (.iload_n 1, 1) := by decide +kernel
theorem dX12_worthAt_2 : decode cX12_worthAt 2 = .ok (.invokevirtual 181, 3) := by decide +kernel
theorem dX12_worthAt_5 : decode cX12_worthAt 5 = .ok (.ifCond .ne 9, 3) := by decide +kernel
theorem dX12_worthAt_8 : decode cX12_worthAt 8 = .ok (.aload_n 0, 1) := by decide +kernel
theorem dX12_worthAt_9 : decode cX12_worthAt 9 = .ok (.iconst (-1), 1) := by decide +kernel
theorem dX12_worthAt_10 : decode cX12_worthAt 10 = .ok (.invokevirtual 127, 3) := by decide +kernel
theorem dX12_worthAt_13 : decode cX12_worthAt 13 = .ok (.ireturn, 1) := by decide +kernel
theorem dX12_worthAt_14 : decode cX12_worthAt 14 = .ok (.iload_n 2, 1) := by decide +kernel
theorem dX12_worthAt_15 : decode cX12_worthAt 15 = .ok (.ifCond .lt 7, 3) := by decide +kernel
theorem dX12_worthAt_18 : decode cX12_worthAt 18 = .ok (.iload_n 3, 1) := by decide +kernel
theorem dX12_worthAt_19 : decode cX12_worthAt 19 = .ok (.ifCond .ge 8, 3) := by decide +kernel
theorem dX12_worthAt_22 : decode cX12_worthAt 22 = .ok (.bipush (-4), 2) := by decide +kernel
theorem dX12_worthAt_24 : decode cX12_worthAt 24 = .ok (.goto 22, 3) := by decide +kernel
theorem dX12_worthAt_27 : decode cX12_worthAt 27 = .ok (.iload_n 2, 1) := by decide +kernel
theorem dX12_worthAt_28 : decode cX12_worthAt 28 = .ok (.sipush 999, 3) := by decide +kernel
theorem dX12_worthAt_31 : decode cX12_worthAt 31 = .ok (.if_icmp .gt 9, 3) := by decide +kernel
theorem dX12_worthAt_34 : decode cX12_worthAt 34 = .ok (.iload_n 3, 1) := by decide +kernel
theorem dX12_worthAt_35 : decode cX12_worthAt 35 = .ok (.bipush 20, 2) := by decide +kernel
theorem dX12_worthAt_37 : decode cX12_worthAt 37 = .ok (.if_icmp .le 8, 3) := by decide +kernel
theorem dX12_worthAt_40 : decode cX12_worthAt 40 = .ok (.bipush (-6), 2) := by decide +kernel
theorem dX12_worthAt_42 : decode cX12_worthAt 42 = .ok (.goto 4, 3) := by decide +kernel
theorem dX12_worthAt_45 : decode cX12_worthAt 45 = .ok (.iconst 0, 1) := by decide +kernel
theorem dX12_worthAt_46 : decode cX12_worthAt 46 = .ok (.istore 4, 2) := by decide +kernel
theorem dX12_worthAt_48 : decode cX12_worthAt 48 = .ok (.iload 4, 2) := by decide +kernel
theorem dX12_worthAt_50 : decode cX12_worthAt 50 = .ok (.ifCond .eq 12, 3) := by decide +kernel
theorem dX12_worthAt_53 : decode cX12_worthAt 53 = .ok (.aload_n 0, 1) := by decide +kernel
theorem dX12_worthAt_54 : decode cX12_worthAt 54 = .ok (.iload 4, 2) := by decide +kernel
theorem dX12_worthAt_56 : decode cX12_worthAt 56 = .ok (.invokevirtual 127, 3) := by decide +kernel
theorem dX12_worthAt_59 : decode cX12_worthAt 59 = .ok (.goto 10, 3) := by decide +kernel
theorem dX12_worthAt_62 : decode cX12_worthAt 62 = .ok (.aload_n 0, 1) := by decide +kernel
theorem dX12_worthAt_63 : decode cX12_worthAt 63 = .ok (.iload_n 1, 1) := by decide +kernel
theorem dX12_worthAt_64 : decode cX12_worthAt 64 = .ok (.iload_n 2, 1) := by decide +kernel
theorem dX12_worthAt_65 : decode cX12_worthAt 65 = .ok (.iload_n 3, 1) := by decide +kernel
theorem dX12_worthAt_66 : decode cX12_worthAt 66 = .ok (.invokevirtual 222, 3) := by decide +kernel
theorem dX12_worthAt_69 : decode cX12_worthAt 69 = .ok (.ireturn, 1) := by decide +kernel
theorem dX12_may_0 : decode cX12_may 0 = .ok (.aload_n 0, 1) := by decide +kernel
theorem dX12_may_1 : decode cX12_may 1 = .ok (.iload_n 1, 1) := by decide +kernel
theorem dX12_may_2 : decode cX12_may 2 = .ok (.invokevirtual 181, 3) := by decide +kernel
theorem dX12_may_5 : decode cX12_may 5 = .ok (.ifCond .ne 11, 3) := by decide +kernel
theorem dX12_may_8 : decode cX12_may 8 = .ok (.aload_n 0, 1) := by decide +kernel
theorem dX12_may_9 : decode cX12_may 9 = .ok (.iconst (-1), 1) := by decide +kernel
theorem dX12_may_10 : decode cX12_may 10 = .ok (.invokevirtual 127, 3) := by decide +kernel
theorem dX12_may_13 : decode cX12_may 13 = .ok (.goto 16, 3) := by decide +kernel
theorem dX12_may_16 : decode cX12_may 16 = .ok (.aload_n 0, 1) := by decide +kernel
theorem dX12_may_17 : decode cX12_may 17 = .ok (.iload_n 1, 1) := by decide +kernel
theorem dX12_may_18 : decode cX12_may 18 = .ok (.invokevirtual 236, 3) := by decide +kernel
theorem dX12_may_21 : decode cX12_may 21 = .ok (.ifCond .eq 7, 3) := by decide +kernel
theorem dX12_may_24 : decode cX12_may 24 = .ok (.iconst 1, 1) := by decide +kernel
theorem dX12_may_25 : decode cX12_may 25 = .ok (.goto 4, 3) := by decide +kernel
theorem dX12_may_28 : decode cX12_may 28 = .ok (.iconst 0, 1) := by decide +kernel
theorem dX12_may_29 : decode cX12_may 29 = .ok (.ireturn, 1) := by decide +kernel
theorem dX12_life_0 : decode cX12_life 0 = .ok (.iload_n 1, 1) := by decide +kernel
theorem dX12_life_1 : decode cX12_life 1 = .ok (.tableswitch 88 0 4 #[35, 40, 45, 50, 69], 35) := by decide +kernel
theorem dX12_life_36 : decode cX12_life 36 = .ok (.aload_n 0, 1) := by decide +kernel
theorem dX12_life_37 : decode cX12_life 37 = .ok (.getfield 163, 3) := by decide +kernel
theorem dX12_life_40 : decode cX12_life 40 = .ok (.ireturn, 1) := by decide +kernel
theorem dX12_life_41 : decode cX12_life 41 = .ok (.aload_n 0, 1) := by decide +kernel
theorem dX12_life_42 : decode cX12_life 42 = .ok (.getfield 209, 3) := by decide +kernel
theorem dX12_life_45 : decode cX12_life 45 = .ok (.ireturn, 1) := by decide +kernel
theorem dX12_life_46 : decode cX12_life 46 = .ok (.aload_n 0, 1) := by decide +kernel
theorem dX12_life_47 : decode cX12_life 47 = .ok (.getfield 212, 3) := by decide +kernel
theorem dX12_life_50 : decode cX12_life 50 = .ok (.ireturn, 1) := by decide +kernel
theorem dX12_life_51 : decode cX12_life 51 = .ok (.aload_n 0, 1) := by decide +kernel
theorem dX12_life_52 : decode cX12_life 52 = .ok (.getfield 209, 3) := by decide +kernel
theorem dX12_life_55 : decode cX12_life 55 = .ok (.aload_n 0, 1) := by decide +kernel
theorem dX12_life_56 : decode cX12_life 56 = .ok (.getfield 34, 3) := by decide +kernel
theorem dX12_life_59 : decode cX12_life 59 = .ok (.iconst 0, 1) := by decide +kernel
theorem dX12_life_60 : decode cX12_life 60 = .ok (.iaload, 1) := by decide +kernel
theorem dX12_life_61 : decode cX12_life 61 = .ok (.if_icmp .lt 7, 3) := by decide +kernel
theorem dX12_life_64 : decode cX12_life 64 = .ok (.iconst 1, 1) := by decide +kernel
theorem dX12_life_65 : decode cX12_life 65 = .ok (.goto 4, 3) := by decide +kernel
theorem dX12_life_68 : decode cX12_life 68 = .ok (.iconst 0, 1) := by decide +kernel
theorem dX12_life_69 : decode cX12_life 69 = .ok (.ireturn, 1) := by decide +kernel
theorem dX12_life_70 : decode cX12_life 70 = .ok (.aload_n 0, 1) := by decide +kernel
theorem dX12_life_71 : decode cX12_life 71 = .ok (.getfield 209, 3) := by decide +kernel
theorem dX12_life_74 : decode cX12_life 74 = .ok (.aload_n 0, 1) := by decide +kernel
theorem dX12_life_75 : decode cX12_life 75 = .ok (.getfield 34, 3) := by decide +kernel
theorem dX12_life_78 : decode cX12_life 78 = .ok (.iconst 1, 1) := by decide +kernel
theorem dX12_life_79 : decode cX12_life 79 = .ok (.iaload, 1) := by decide +kernel
theorem dX12_life_80 : decode cX12_life 80 = .ok (.if_icmp .lt 7, 3) := by decide +kernel
theorem dX12_life_83 : decode cX12_life 83 = .ok (.iconst 1, 1) := by decide +kernel
theorem dX12_life_84 : decode cX12_life 84 = .ok (.goto 4, 3) := by decide +kernel
theorem dX12_life_87 : decode cX12_life 87 = .ok (.iconst 0, 1) := by decide +kernel
theorem dX12_life_88 : decode cX12_life 88 = .ok (.ireturn, 1) := by decide +kernel
theorem dX12_life_89 : decode cX12_life 89 = .ok (.aload_n 0, 1) := by decide +kernel
theorem dX12_life_90 : decode cX12_life 90 = .ok (.bipush (-2), 2) := by decide +kernel
theorem dX12_life_92 : decode cX12_life 92 = .ok (.invokevirtual 127, 3) := by decide +kernel
theorem dX12_life_95 : decode cX12_life 95 = .ok (.ireturn, 1) := by decide +kernel
theorem dX12_nextLife_0 : decode cX12_nextLife 0 = .ok (.aload_n 0, 1) := by decide +kernel
theorem dX12_nextLife_1 : decode cX12_nextLife 1 = .ok (.getfield 212, 3) := by decide +kernel
theorem dX12_nextLife_4 : decode cX12_nextLife 4 = .ok (.istore_n 1, 1) := by decide +kernel
theorem dX12_nextLife_5 : decode cX12_nextLife 5 = .ok (.aload_n 0, 1) := by decide +kernel
theorem dX12_nextLife_6 : decode cX12_nextLife 6 = .ok (.aload_n 0, 1) := by decide +kernel
theorem dX12_nextLife_7 : decode cX12_nextLife 7 = .ok (.getfield 34, 3) := by decide +kernel
theorem dX12_nextLife_10 : decode cX12_nextLife 10 = .ok (.iconst 3, 1) := by decide +kernel
theorem dX12_nextLife_11 : decode cX12_nextLife 11 = .ok (.iaload, 1) := by decide +kernel
theorem dX12_nextLife_12 : decode cX12_nextLife 12 = .ok (.invokevirtual 242, 3) := by decide +kernel
theorem dX12_nextLife_15 : decode cX12_nextLife 15 = .ok (.iload_n 1, 1) := by decide +kernel
theorem dX12_nextLife_16 : decode cX12_nextLife 16 = .ok (.ireturn, 1) := by decide +kernel
theorem dX12_order_0 : decode cX12_order 0 = .ok (.iload_n 1, 1) := by decide +kernel
theorem dX12_order_1 : decode cX12_order 1 = .ok (.iconst 0, 1) := by decide +kernel
theorem dX12_order_2 : decode cX12_order 2 = .ok (.bipush 8, 2) := by decide +kernel
theorem dX12_order_4 : decode cX12_order 4 = .ok (.invokestatic 120, 3) := by decide +kernel
theorem dX12_order_7 : decode cX12_order 7 = .ok (.istore 4, 2) := by decide +kernel
theorem dX12_order_9 : decode cX12_order 9 = .ok (.iload 4, 2) := by decide +kernel
theorem dX12_order_11 : decode cX12_order 11 = .ok (.ifCond .eq 10, 3) := by decide +kernel
theorem dX12_order_14 : decode cX12_order 14 = .ok (.aload_n 0, 1) := by decide +kernel
theorem dX12_order_15 : decode cX12_order 15 = .ok (.iload 4, 2) := by decide +kernel
theorem dX12_order_17 : decode cX12_order 17 = .ok (.invokevirtual 127, 3) := by decide +kernel
theorem dX12_order_20 : decode cX12_order 20 = .ok (.ireturn, 1) := by decide +kernel
theorem dX12_order_21 : decode cX12_order 21 = .ok (.lload_n 2, 1) := by decide +kernel
theorem dX12_order_22 : decode cX12_order 22 = .ok (.lconst 0, 1) := by decide +kernel
theorem dX12_order_23 : decode cX12_order 23 = .ok (.lcmp, 1) := by decide +kernel
theorem dX12_order_24 : decode cX12_order 24 = .ok (.ifCond .ge 9, 3) := by decide +kernel
theorem dX12_order_27 : decode cX12_order 27 = .ok (.aload_n 0, 1) := by decide +kernel
theorem dX12_order_28 : decode cX12_order 28 = .ok (.iconst (-1), 1) := by decide +kernel
theorem dX12_order_29 : decode cX12_order 29 = .ok (.invokevirtual 127, 3) := by decide +kernel
theorem dX12_order_32 : decode cX12_order 32 = .ok (.ireturn, 1) := by decide +kernel
theorem dX12_order_33 : decode cX12_order 33 = .ok (.lload_n 2, 1) := by decide +kernel
theorem dX12_order_34 : decode cX12_order 34 = .ok (.lstore 5, 2) := by decide +kernel
theorem dX12_order_36 : decode cX12_order 36 = .ok (.iconst 0, 1) := by decide +kernel
theorem dX12_order_37 : decode cX12_order 37 = .ok (.istore 7, 2) := by decide +kernel
theorem dX12_order_39 : decode cX12_order 39 = .ok (.iload 7, 2) := by decide +kernel
theorem dX12_order_41 : decode cX12_order 41 = .ok (.iload_n 1, 1) := by decide +kernel
theorem dX12_order_42 : decode cX12_order 42 = .ok (.if_icmp .ge 38, 3) := by decide +kernel
theorem dX12_order_45 : decode cX12_order 45 = .ok (.lload 5, 2) := by decide +kernel
theorem dX12_order_47 : decode cX12_order 47 = .ok (.ldc2_w 245, 3) := by decide +kernel
theorem dX12_order_50 : decode cX12_order 50 = .ok (.lrem, 1) := by decide +kernel
theorem dX12_order_51 : decode cX12_order 51 = .ok (.aload_n 0, 1) := by decide +kernel
theorem dX12_order_52 : decode cX12_order 52 = .ok (.getfield 52, 3) := by decide +kernel
theorem dX12_order_55 : decode cX12_order 55 = .ok (.i2l, 1) := by decide +kernel
theorem dX12_order_56 : decode cX12_order 56 = .ok (.lcmp, 1) := by decide +kernel
theorem dX12_order_57 : decode cX12_order 57 = .ok (.ifCond .lt 9, 3) := by decide +kernel
theorem dX12_order_60 : decode cX12_order 60 = .ok (.aload_n 0, 1) := by decide +kernel
theorem dX12_order_61 : decode cX12_order 61 = .ok (.iconst (-1), 1) := by decide +kernel
theorem dX12_order_62 : decode cX12_order 62 = .ok (.invokevirtual 127, 3) := by decide +kernel
theorem dX12_order_65 : decode cX12_order 65 = .ok (.ireturn, 1) := by decide +kernel
theorem dX12_order_66 : decode cX12_order 66 = .ok (.lload 5, 2) := by decide +kernel
theorem dX12_order_68 : decode cX12_order 68 = .ok (.ldc2_w 245, 3) := by decide +kernel
theorem dX12_order_71 : decode cX12_order 71 = .ok (.ldiv, 1) := by decide +kernel
theorem dX12_order_72 : decode cX12_order 72 = .ok (.lstore 5, 2) := by decide +kernel
theorem dX12_order_74 : decode cX12_order 74 = .ok (.iinc 7 1, 3) := by decide +kernel
theorem dX12_order_77 : decode cX12_order 77 = .ok (.goto (-38), 3) := by decide +kernel
theorem dX12_order_80 : decode cX12_order 80 = .ok (.aload_n 0, 1) := by decide +kernel
theorem dX12_order_81 : decode cX12_order 81 = .ok (.getfield 169, 3) := by decide +kernel
theorem dX12_order_84 : decode cX12_order 84 = .ok (.istore 7, 2) := by decide +kernel
theorem dX12_order_86 : decode cX12_order 86 = .ok (.lload_n 2, 1) := by decide +kernel
theorem dX12_order_87 : decode cX12_order 87 = .ok (.lstore 5, 2) := by decide +kernel
theorem dX12_order_89 : decode cX12_order 89 = .ok (.iconst 0, 1) := by decide +kernel
