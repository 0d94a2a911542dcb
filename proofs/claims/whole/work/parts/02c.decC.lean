theorem dX12_init_0 : decode cX12_init 0 = .ok (.aload_n 0, 1) := by decide +kernel
theorem dX12_init_1 : decode cX12_init 1 = .ok (.invokespecial 1, 3) := by decide +kernel
theorem dX12_init_4 : decode cX12_init 4 = .ok (.aload_n 0, 1) := by decide +kernel
theorem dX12_init_5 : decode cX12_init 5 = .ok (.sipush 248, 3) := by decide +kernel
theorem dX12_init_8 : decode cX12_init 8 = .ok (.newarray .int, 2) := by decide +kernel
theorem dX12_init_10 : decode cX12_init 10 = .ok (.putfield 7, 3) := by decide +kernel
theorem dX12_init_13 : decode cX12_init 13 = .ok (.aload_n 0, 1) := by decide +kernel
theorem dX12_init_14 : decode cX12_init 14 = .ok (.sipush 1984, 3) := by decide +kernel
theorem dX12_init_17 : decode cX12_init 17 = .ok (.newarray .int, 2) := by decide +kernel
theorem dX12_init_19 : decode cX12_init 19 = .ok (.putfield 13, 3) := by decide +kernel
theorem dX12_init_22 : decode cX12_init 22 = .ok (.aload_n 0, 1) := by decide +kernel
theorem dX12_init_23 : decode cX12_init 23 = .ok (.sipush 248, 3) := by decide +kernel
theorem dX12_init_26 : decode cX12_init 26 = .ok (.newarray .int, 2) := by decide +kernel
theorem dX12_init_28 : decode cX12_init 28 = .ok (.putfield 16, 3) := by decide +kernel
theorem dX12_init_31 : decode cX12_init 31 = .ok (.aload_n 0, 1) := by decide +kernel
theorem dX12_init_32 : decode cX12_init 32 = .ok (.sipush 248, 3) := by decide +kernel
theorem dX12_init_35 : decode cX12_init 35 = .ok (.newarray .int, 2) := by decide +kernel
theorem dX12_init_37 : decode cX12_init 37 = .ok (.putfield 19, 3) := by decide +kernel
theorem dX12_init_40 : decode cX12_init 40 = .ok (.aload_n 0, 1) := by decide +kernel
theorem dX12_init_41 : decode cX12_init 41 = .ok (.sipush 130, 3) := by decide +kernel
theorem dX12_init_44 : decode cX12_init 44 = .ok (.newarray .int, 2) := by decide +kernel
theorem dX12_init_46 : decode cX12_init 46 = .ok (.putfield 22, 3) := by decide +kernel
theorem dX12_init_49 : decode cX12_init 49 = .ok (.aload_n 0, 1) := by decide +kernel
theorem dX12_init_50 : decode cX12_init 50 = .ok (.bipush 60, 2) := by decide +kernel
theorem dX12_init_52 : decode cX12_init 52 = .ok (.newarray .char, 2) := by decide +kernel
theorem dX12_init_54 : decode cX12_init 54 = .ok (.putfield 25, 3) := by decide +kernel
theorem dX12_init_57 : decode cX12_init 57 = .ok (.aload_n 0, 1) := by decide +kernel
theorem dX12_init_58 : decode cX12_init 58 = .ok (.iconst (-1), 1) := by decide +kernel
theorem dX12_init_59 : decode cX12_init 59 = .ok (.putfield 29, 3) := by decide +kernel
theorem dX12_init_62 : decode cX12_init 62 = .ok (.aload_n 0, 1) := by decide +kernel
theorem dX12_init_63 : decode cX12_init 63 = .ok (.iconst (-1), 1) := by decide +kernel
theorem dX12_init_64 : decode cX12_init 64 = .ok (.putfield 33, 3) := by decide +kernel
theorem dX12_init_67 : decode cX12_init 67 = .ok (.aload_n 0, 1) := by decide +kernel
theorem dX12_init_68 : decode cX12_init 68 = .ok (.bipush 80, 2) := by decide +kernel
theorem dX12_init_70 : decode cX12_init 70 = .ok (.newarray .int, 2) := by decide +kernel
theorem dX12_init_72 : decode cX12_init 72 = .ok (.putfield 36, 3) := by decide +kernel
theorem dX12_init_75 : decode cX12_init 75 = .ok (.aload_n 0, 1) := by decide +kernel
theorem dX12_init_76 : decode cX12_init 76 = .ok (.bipush 60, 2) := by decide +kernel
theorem dX12_init_78 : decode cX12_init 78 = .ok (.newarray .int, 2) := by decide +kernel
theorem dX12_init_80 : decode cX12_init 80 = .ok (.putfield 39, 3) := by decide +kernel
theorem dX12_init_83 : decode cX12_init 83 = .ok (.aload_n 0, 1) := by decide +kernel
theorem dX12_init_84 : decode cX12_init 84 = .ok (.sipush 774, 3) := by decide +kernel
theorem dX12_init_87 : decode cX12_init 87 = .ok (.newarray .int, 2) := by decide +kernel
theorem dX12_init_89 : decode cX12_init 89 = .ok (.putfield 42, 3) := by decide +kernel
theorem dX12_init_92 : decode cX12_init 92 = .ok (.aload_n 0, 1) := by decide +kernel
theorem dX12_init_93 : decode cX12_init 93 = .ok (.bipush 14, 2) := by decide +kernel
theorem dX12_init_95 : decode cX12_init 95 = .ok (.newarray .int, 2) := by decide +kernel
theorem dX12_init_97 : decode cX12_init 97 = .ok (.putfield 45, 3) := by decide +kernel
theorem dX12_init_100 : decode cX12_init 100 = .ok (.aload_n 0, 1) := by decide +kernel
theorem dX12_init_101 : decode cX12_init 101 = .ok (.bipush 6, 2) := by decide +kernel
theorem dX12_init_103 : decode cX12_init 103 = .ok (.newarray .int, 2) := by decide +kernel
theorem dX12_init_105 : decode cX12_init 105 = .ok (.putfield 48, 3) := by decide +kernel
theorem dX12_init_108 : decode cX12_init 108 = .ok (.aload_n 0, 1) := by decide +kernel
theorem dX12_init_109 : decode cX12_init 109 = .ok (.iconst 2, 1) := by decide +kernel
theorem dX12_init_110 : decode cX12_init 110 = .ok (.newarray .int, 2) := by decide +kernel
theorem dX12_init_112 : decode cX12_init 112 = .ok (.putfield 51, 3) := by decide +kernel
theorem dX12_init_115 : decode cX12_init 115 = .ok (.aload_n 0, 1) := by decide +kernel
theorem dX12_init_116 : decode cX12_init 116 = .ok (.iconst 2, 1) := by decide +kernel
theorem dX12_init_117 : decode cX12_init 117 = .ok (.newarray .int, 2) := by decide +kernel
theorem dX12_init_119 : decode cX12_init 119 = .ok (.putfield 54, 3) := by decide +kernel
theorem dX12_init_122 : decode cX12_init 122 = .ok (.aload_n 0, 1) := by decide +kernel
theorem dX12_init_123 : decode cX12_init 123 = .ok (.iconst 2, 1) := by decide +kernel
theorem dX12_init_124 : decode cX12_init 124 = .ok (.newarray .int, 2) := by decide +kernel
theorem dX12_init_126 : decode cX12_init 126 = .ok (.putfield 57, 3) := by decide +kernel
theorem dX12_init_129 : decode cX12_init 129 = .ok (.aload_n 0, 1) := by decide +kernel
theorem dX12_init_130 : decode cX12_init 130 = .ok (.bipush 8, 2) := by decide +kernel
theorem dX12_init_132 : decode cX12_init 132 = .ok (.newarray .int, 2) := by decide +kernel
theorem dX12_init_134 : decode cX12_init 134 = .ok (.putfield 60, 3) := by decide +kernel
theorem dX12_init_137 : decode cX12_init 137 = .ok (.aload_n 0, 1) := by decide +kernel
theorem dX12_init_138 : decode cX12_init 138 = .ok (.bipush 8, 2) := by decide +kernel
theorem dX12_init_140 : decode cX12_init 140 = .ok (.newarray .int, 2) := by decide +kernel
theorem dX12_init_142 : decode cX12_init 142 = .ok (.putfield 63, 3) := by decide +kernel
theorem dX12_init_145 : decode cX12_init 145 = .ok (.aload_n 0, 1) := by decide +kernel
theorem dX12_init_146 : decode cX12_init 146 = .ok (.bipush 8, 2) := by decide +kernel
theorem dX12_init_148 : decode cX12_init 148 = .ok (.newarray .int, 2) := by decide +kernel
theorem dX12_init_150 : decode cX12_init 150 = .ok (.putfield 66, 3) := by decide +kernel
theorem dX12_init_153 : decode cX12_init 153 = .ok (.aload_n 0, 1) := by decide +kernel
theorem dX12_init_154 : decode cX12_init 154 = .ok (.sipush 258, 3) := by decide +kernel
theorem dX12_init_157 : decode cX12_init 157 = .ok (.newarray .int, 2) := by decide +kernel
theorem dX12_init_159 : decode cX12_init 159 = .ok (.putfield 69, 3) := by decide +kernel
theorem dX12_init_162 : decode cX12_init 162 = .ok (.aload_n 0, 1) := by decide +kernel
theorem dX12_init_163 : decode cX12_init 163 = .ok (.sipush 258, 3) := by decide +kernel
theorem dX12_init_166 : decode cX12_init 166 = .ok (.newarray .int, 2) := by decide +kernel
theorem dX12_init_168 : decode cX12_init 168 = .ok (.putfield 72, 3) := by decide +kernel
theorem dX12_init_171 : decode cX12_init 171 = .ok (.aload_n 0, 1) := by decide +kernel
theorem dX12_init_172 : decode cX12_init 172 = .ok (.iconst 2, 1) := by decide +kernel
theorem dX12_init_173 : decode cX12_init 173 = .ok (.newarray .int, 2) := by decide +kernel
theorem dX12_init_175 : decode cX12_init 175 = .ok (.putfield 75, 3) := by decide +kernel
theorem dX12_init_178 : decode cX12_init 178 = .ok (.aload_n 0, 1) := by decide +kernel
theorem dX12_init_179 : decode cX12_init 179 = .ok (.sipush 129, 3) := by decide +kernel
theorem dX12_init_182 : decode cX12_init 182 = .ok (.newarray .int, 2) := by decide +kernel
theorem dX12_init_184 : decode cX12_init 184 = .ok (.putfield 78, 3) := by decide +kernel
theorem dX12_init_187 : decode cX12_init 187 = .ok (.aload_n 0, 1) := by decide +kernel
theorem dX12_init_188 : decode cX12_init 188 = .ok (.sipush 129, 3) := by decide +kernel
theorem dX12_init_191 : decode cX12_init 191 = .ok (.newarray .int, 2) := by decide +kernel
theorem dX12_init_193 : decode cX12_init 193 = .ok (.putfield 81, 3) := by decide +kernel
theorem dX12_init_196 : decode cX12_init 196 = .ok (.aload_n 0, 1) := by decide +kernel
theorem dX12_init_197 : decode cX12_init 197 = .ok (.sipush 129, 3) := by decide +kernel
theorem dX12_init_200 : decode cX12_init 200 = .ok (.newarray .int, 2) := by decide +kernel
theorem dX12_init_202 : decode cX12_init 202 = .ok (.putfield 84, 3) := by decide +kernel
theorem dX12_init_205 : decode cX12_init 205 = .ok (.aload_n 0, 1) := by decide +kernel
theorem dX12_init_206 : decode cX12_init 206 = .ok (.sipush 645, 3) := by decide +kernel
theorem dX12_init_209 : decode cX12_init 209 = .ok (.newarray .int, 2) := by decide +kernel
theorem dX12_init_211 : decode cX12_init 211 = .ok (.putfield 87, 3) := by decide +kernel
theorem dX12_init_214 : decode cX12_init 214 = .ok (.aload_n 0, 1) := by decide +kernel
theorem dX12_init_215 : decode cX12_init 215 = .ok (.sipush 645, 3) := by decide +kernel
theorem dX12_init_218 : decode cX12_init 218 = .ok (.newarray .int, 2) := by decide +kernel
theorem dX12_init_220 : decode cX12_init 220 = .ok (.putfield 90, 3) := by decide +kernel
theorem dX12_init_223 : decode cX12_init 223 = .ok (.aload_n 0, 1) := by decide +kernel
theorem dX12_init_224 : decode cX12_init 224 = .ok (.sipush 645, 3) := by decide +kernel
theorem dX12_init_227 : decode cX12_init 227 = .ok (.newarray .int, 2) := by decide +kernel
theorem dX12_init_229 : decode cX12_init 229 = .ok (.putfield 93, 3) := by decide +kernel
theorem dX12_init_232 : decode cX12_init 232 = .ok (.aload_n 0, 1) := by decide +kernel
theorem dX12_init_233 : decode cX12_init 233 = .ok (.sipush 129, 3) := by decide +kernel
theorem dX12_init_236 : decode cX12_init 236 = .ok (.newarray .int, 2) := by decide +kernel
theorem dX12_init_238 : decode cX12_init 238 = .ok (.putfield 96, 3) := by decide +kernel
theorem dX12_init_241 : decode cX12_init 241 = .ok (.aload_n 0, 1) := by decide +kernel
theorem dX12_init_242 : decode cX12_init 242 = .ok (.sipush 129, 3) := by decide +kernel
theorem dX12_init_245 : decode cX12_init 245 = .ok (.newarray .int, 2) := by decide +kernel
theorem dX12_init_247 : decode cX12_init 247 = .ok (.putfield 99, 3) := by decide +kernel
theorem dX12_init_250 : decode cX12_init 250 = .ok (.aload_n 0, 1) := by decide +kernel
theorem dX12_init_251 : decode cX12_init 251 = .ok (.bipush 6, 2) := by decide +kernel
theorem dX12_init_253 : decode cX12_init 253 = .ok (.newarray .int, 2) := by decide +kernel
theorem dX12_init_255 : decode cX12_init 255 = .ok (.putfield 102, 3) := by decide +kernel
theorem dX12_init_258 : decode cX12_init 258 = .ok (.aload_n 0, 1) := by decide +kernel
theorem dX12_init_259 : decode cX12_init 259 = .ok (.bipush 120, 2) := by decide +kernel
theorem dX12_init_261 : decode cX12_init 261 = .ok (.newarray .char, 2) := by decide +kernel
theorem dX12_init_263 : decode cX12_init 263 = .ok (.putfield 105, 3) := by decide +kernel
theorem dX12_init_266 : decode cX12_init 266 = .ok (.aload_n 0, 1) := by decide +kernel
theorem dX12_init_267 : decode cX12_init 267 = .ok (.bipush 8, 2) := by decide +kernel
theorem dX12_init_269 : decode cX12_init 269 = .ok (.newarray .int, 2) := by decide +kernel
theorem dX12_init_271 : decode cX12_init 271 = .ok (.putfield 108, 3) := by decide +kernel
theorem dX12_init_274 : decode cX12_init 274 = .ok (.aload_n 0, 1) := by decide +kernel
theorem dX12_init_275 : decode cX12_init 275 = .ok (.bipush 8, 2) := by decide +kernel
theorem dX12_init_277 : decode cX12_init 277 = .ok (.newarray .int, 2) := by decide +kernel
theorem dX12_init_279 : decode cX12_init 279 = .ok (.putfield 111, 3) := by decide +kernel
theorem dX12_init_282 : decode cX12_init 282 = .ok (.aload_n 0, 1) := by decide +kernel
theorem dX12_init_283 : decode cX12_init 283 = .ok (.iconst 3, 1) := by decide +kernel
theorem dX12_init_284 : decode cX12_init 284 = .ok (.newarray .int, 2) := by decide +kernel
theorem dX12_init_286 : decode cX12_init 286 = .ok (.putfield 114, 3) := by decide +kernel
theorem dX12_init_289 : decode cX12_init 289 = .ok (.return_, 1) := by decide +kernel
theorem dX12_thrown_0 : decode cX12_thrown 0 = .ok (.aload_n 0, 1) := by decide +kernel
theorem dX12_thrown_1 : decode cX12_thrown 1 = .ok (.getfield 117, 3) := by decide +kernel
theorem dX12_thrown_4 : decode cX12_thrown 4 = .ok (.ireturn, 1) := by decide +kernel
theorem dX12_fails_0 : decode cX12_fails 0 = .ok (.aload_n 0, 1) := by decide +kernel
theorem dX12_fails_1 : decode cX12_fails 1 = .ok (.iload_n 1, 1) := by decide +kernel
theorem dX12_fails_2 : decode cX12_fails 2 = .ok (.putfield 117, 3) := by decide +kernel
theorem dX12_fails_5 : decode cX12_fails 5 = .ok (.iconst 0, 1) := by decide +kernel
theorem dX12_fails_6 : decode cX12_fails 6 = .ok (.ireturn, 1) := by decide +kernel
theorem dX12_isBetween_0 : decode cX12_isBetween 0 = .ok (.iload_n 1, 1) := by decide +kernel
theorem dX12_isBetween_1 : decode cX12_isBetween 1 = .ok (.iload_n 0, 1) := by decide +kernel
theorem dX12_isBetween_2 : decode cX12_isBetween 2 = .ok (.if_icmp .gt 12, 3) := by decide +kernel
theorem dX12_isBetween_5 : decode cX12_isBetween 5 = .ok (.iload_n 0, 1) := by decide +kernel
theorem dX12_isBetween_6 : decode cX12_isBetween 6 = .ok (.iload_n 2, 1) := by decide +kernel
theorem dX12_isBetween_7 : decode cX12_isBetween 7 = .ok (.if_icmp .gt 7, 3) := by decide +kernel
theorem dX12_isBetween_10 : decode cX12_isBetween 10 = .ok (.iconst 1, 1) := by decide +kernel
theorem dX12_isBetween_11 : decode cX12_isBetween 11 = .ok (.goto 4, 3) := by decide +kernel
theorem dX12_isBetween_14 : decode cX12_isBetween 14 = .ok (.iconst 0, 1) := by decide +kernel
theorem dX12_isBetween_15 : decode cX12_isBetween 15 = .ok (.ireturn, 1) := by decide +kernel
theorem dX12_copies_0 : decode cX12_copies 0 = .ok (.iconst 0, 1) := by decide +kernel
theorem dX12_copies_1 : decode cX12_copies 1 = .ok (.istore_n 1, 1) := by decide +kernel
theorem dX12_copies_2 : decode cX12_copies 2 = .ok (.iload_n 1, 1) := by decide +kernel
theorem dX12_copies_3 : decode cX12_copies 3 = .ok (.sipush 248, 3) := by decide +kernel
theorem dX12_copies_6 : decode cX12_copies 6 = .ok (.if_icmp .ge 21, 3) := by decide +kernel
theorem dX12_copies_9 : decode cX12_copies 9 = .ok (.aload_n 0, 1) := by decide +kernel
theorem dX12_copies_10 : decode cX12_copies 10 = .ok (.getfield 19, 3) := by decide +kernel
theorem dX12_copies_13 : decode cX12_copies 13 = .ok (.iload_n 1, 1) := by decide +kernel
theorem dX12_copies_14 : decode cX12_copies 14 = .ok (.aload_n 0, 1) := by decide +kernel
theorem dX12_copies_15 : decode cX12_copies 15 = .ok (.getfield 7, 3) := by decide +kernel
theorem dX12_copies_18 : decode cX12_copies 18 = .ok (.iload_n 1, 1) := by decide +kernel
theorem dX12_copies_19 : decode cX12_copies 19 = .ok (.iaload, 1) := by decide +kernel
theorem dX12_copies_20 : decode cX12_copies 20 = .ok (.iastore, 1) := by decide +kernel
theorem dX12_copies_21 : decode cX12_copies 21 = .ok (.iinc 1 1, 3) := by decide +kernel
theorem dX12_copies_24 : decode cX12_copies 24 = .ok (.goto (-22), 3) := by decide +kernel
theorem dX12_copies_27 : decode cX12_copies 27 = .ok (.return_, 1) := by decide +kernel
theorem dX12_goesBack_0 : decode cX12_goesBack 0 = .ok (.iconst 0, 1) := by decide +kernel
theorem dX12_goesBack_1 : decode cX12_goesBack 1 = .ok (.istore_n 1, 1) := by decide +kernel
theorem dX12_goesBack_2 : decode cX12_goesBack 2 = .ok (.iload_n 1, 1) := by decide +kernel
theorem dX12_goesBack_3 : decode cX12_goesBack 3 = .ok (.sipush 248, 3) := by decide +kernel
theorem dX12_goesBack_6 : decode cX12_goesBack 6 = .ok (.if_icmp .ge 21, 3) := by decide +kernel
theorem dX12_goesBack_9 : decode cX12_goesBack 9 = .ok (.aload_n 0, 1) := by decide +kernel
theorem dX12_goesBack_10 : decode cX12_goesBack 10 = .ok (.getfield 7, 3) := by decide +kernel
theorem dX12_goesBack_13 : decode cX12_goesBack 13 = .ok (.iload_n 1, 1) := by decide +kernel
theorem dX12_goesBack_14 : decode cX12_goesBack 14 = .ok (.aload_n 0, 1) := by decide +kernel
theorem dX12_goesBack_15 : decode cX12_goesBack 15 = .ok (.getfield 19, 3) := by decide +kernel
theorem dX12_goesBack_18 : decode cX12_goesBack 18 = .ok (.iload_n 1, 1) := by decide +kernel
theorem dX12_goesBack_19 : decode cX12_goesBack 19 = .ok (.iaload, 1) := by decide +kernel
theorem dX12_goesBack_20 : decode cX12_goesBack 20 = .ok (.iastore, 1) := by decide +kernel
theorem dX12_goesBack_21 : decode cX12_goesBack 21 = .ok (.iinc 1 1, 3) := by decide +kernel
theorem dX12_goesBack_24 : decode cX12_goesBack 24 = .ok (.goto (-22), 3) := by decide +kernel
theorem dX12_goesBack_27 : decode cX12_goesBack 27 = .ok (.return_, 1) := by decide +kernel
theorem dX12_keeps_0 : decode cX12_keeps 0 = .ok (.aload_n 0, 1) := by decide +kernel
theorem dX12_keeps_1 : decode cX12_keeps 1 = .ok (.getfield 120, 3) := by decide +kernel
theorem dX12_keeps_4 : decode cX12_keeps 4 = .ok (.bipush 8, 2) := by decide +kernel
theorem dX12_keeps_6 : decode cX12_keeps 6 = .ok (.if_icmp .ne 26, 3) := by decide +kernel
theorem dX12_keeps_9 : decode cX12_keeps 9 = .ok (.aload_n 0, 1) := by decide +kernel
theorem dX12_keeps_10 : decode cX12_keeps 10 = .ok (.aload_n 0, 1) := by decide +kernel
theorem dX12_keeps_11 : decode cX12_keeps 11 = .ok (.getfield 123, 3) := by decide +kernel
theorem dX12_keeps_14 : decode cX12_keeps 14 = .ok (.iconst 1, 1) := by decide +kernel
theorem dX12_keeps_15 : decode cX12_keeps 15 = .ok (.iadd, 1) := by decide +kernel
theorem dX12_keeps_16 : decode cX12_keeps 16 = .ok (.bipush 8, 2) := by decide +kernel
theorem dX12_keeps_18 : decode cX12_keeps 18 = .ok (.irem, 1) := by decide +kernel
theorem dX12_keeps_19 : decode cX12_keeps 19 = .ok (.putfield 123, 3) := by decide +kernel
theorem dX12_keeps_22 : decode cX12_keeps 22 = .ok (.aload_n 0, 1) := by decide +kernel
theorem dX12_keeps_23 : decode cX12_keeps 23 = .ok (.dup, 1) := by decide +kernel
theorem dX12_keeps_24 : decode cX12_keeps 24 = .ok (.getfield 120, 3) := by decide +kernel
theorem dX12_keeps_27 : decode cX12_keeps 27 = .ok (.iconst 1, 1) := by decide +kernel
theorem dX12_keeps_28 : decode cX12_keeps 28 = .ok (.isub, 1) := by decide +kernel
theorem dX12_keeps_29 : decode cX12_keeps 29 = .ok (.putfield 120, 3) := by decide +kernel
theorem dX12_keeps_32 : decode cX12_keeps 32 = .ok (.aload_n 0, 1) := by decide +kernel
theorem dX12_keeps_33 : decode cX12_keeps 33 = .ok (.getfield 123, 3) := by decide +kernel
theorem dX12_keeps_36 : decode cX12_keeps 36 = .ok (.aload_n 0, 1) := by decide +kernel
theorem dX12_keeps_37 : decode cX12_keeps 37 = .ok (.getfield 120, 3) := by decide +kernel
theorem dX12_keeps_40 : decode cX12_keeps 40 = .ok (.iadd, 1) := by decide +kernel
theorem dX12_keeps_41 : decode cX12_keeps 41 = .ok (.bipush 8, 2) := by decide +kernel
theorem dX12_keeps_43 : decode cX12_keeps 43 = .ok (.irem, 1) := by decide +kernel
theorem dX12_keeps_44 : decode cX12_keeps 44 = .ok (.istore_n 1, 1) := by decide +kernel
theorem dX12_keeps_45 : decode cX12_keeps 45 = .ok (.iconst 0, 1) := by decide +kernel
theorem dX12_keeps_46 : decode cX12_keeps 46 = .ok (.istore_n 2, 1) := by decide +kernel
theorem dX12_keeps_47 : decode cX12_keeps 47 = .ok (.iload_n 2, 1) := by decide +kernel
theorem dX12_keeps_48 : decode cX12_keeps 48 = .ok (.sipush 248, 3) := by decide +kernel
theorem dX12_keeps_51 : decode cX12_keeps 51 = .ok (.if_icmp .ge 27, 3) := by decide +kernel
theorem dX12_keeps_54 : decode cX12_keeps 54 = .ok (.aload_n 0, 1) := by decide +kernel
theorem dX12_keeps_55 : decode cX12_keeps 55 = .ok (.getfield 13, 3) := by decide +kernel
theorem dX12_keeps_58 : decode cX12_keeps 58 = .ok (.sipush 248, 3) := by decide +kernel
theorem dX12_keeps_61 : decode cX12_keeps 61 = .ok (.iload_n 1, 1) := by decide +kernel
theorem dX12_keeps_62 : decode cX12_keeps 62 = .ok (.imul, 1) := by decide +kernel
theorem dX12_keeps_63 : decode cX12_keeps 63 = .ok (.iload_n 2, 1) := by decide +kernel
theorem dX12_keeps_64 : decode cX12_keeps 64 = .ok (.iadd, 1) := by decide +kernel
theorem dX12_keeps_65 : decode cX12_keeps 65 = .ok (.aload_n 0, 1) := by decide +kernel
theorem dX12_keeps_66 : decode cX12_keeps 66 = .ok (.getfield 19, 3) := by decide +kernel
theorem dX12_keeps_69 : decode cX12_keeps 69 = .ok (.iload_n 2, 1) := by decide +kernel
theorem dX12_keeps_70 : decode cX12_keeps 70 = .ok (.iaload, 1) := by decide +kernel
theorem dX12_keeps_71 : decode cX12_keeps 71 = .ok (.iastore, 1) := by decide +kernel
theorem dX12_keeps_72 : decode cX12_keeps 72 = .ok (.iinc 2 1, 3) := by decide +kernel
theorem dX12_keeps_75 : decode cX12_keeps 75 = .ok (.goto (-28), 3) := by decide +kernel
theorem dX12_keeps_78 : decode cX12_keeps 78 = .ok (.aload_n 0, 1) := by decide +kernel
theorem dX12_keeps_79 : decode cX12_keeps 79 = .ok (.dup, 1) := by decide +kernel
theorem dX12_keeps_80 : decode cX12_keeps 80 = .ok (.getfield 120, 3) := by decide +kernel
theorem dX12_keeps_83 : decode cX12_keeps 83 = .ok (.iconst 1, 1) := by decide +kernel
theorem dX12_keeps_84 : decode cX12_keeps 84 = .ok (.iadd, 1) := by decide +kernel
theorem dX12_keeps_85 : decode cX12_keeps 85 = .ok (.putfield 120, 3) := by decide +kernel
theorem dX12_keeps_88 : decode cX12_keeps 88 = .ok (.return_, 1) := by decide +kernel
theorem dX12_remembers_0 : decode cX12_remembers 0 = .ok (.aload_n 0, 1) := by decide +kernel
theorem dX12_remembers_1 : decode cX12_remembers 1 = .ok (.invokevirtual 126, 3) := by decide +kernel
theorem dX12_remembers_4 : decode cX12_remembers 4 = .ok (.aload_n 0, 1) := by decide +kernel
theorem dX12_remembers_5 : decode cX12_remembers 5 = .ok (.invokevirtual 129, 3) := by decide +kernel
theorem dX12_remembers_8 : decode cX12_remembers 8 = .ok (.return_, 1) := by decide +kernel
theorem dX12_isSlot_0 : decode cX12_isSlot 0 = .ok (.iload_n 0, 1) := by decide +kernel
theorem dX12_isSlot_1 : decode cX12_isSlot 1 = .ok (.iconst 0, 1) := by decide +kernel
theorem dX12_isSlot_2 : decode cX12_isSlot 2 = .ok (.iconst 5, 1) := by decide +kernel
theorem dX12_isSlot_3 : decode cX12_isSlot 3 = .ok (.invokestatic 132, 3) := by decide +kernel
theorem dX12_isSlot_6 : decode cX12_isSlot 6 = .ok (.ireturn, 1) := by decide +kernel
theorem dX12_length_0 : decode cX12_length 0 = .ok (.aload_n 0, 1) := by decide +kernel
theorem dX12_length_1 : decode cX12_length 1 = .ok (.getfield 7, 3) := by decide +kernel
theorem dX12_length_4 : decode cX12_length 4 = .ok (.iconst 2, 1) := by decide +kernel
theorem dX12_length_5 : decode cX12_length 5 = .ok (.bipush 29, 2) := by decide +kernel
theorem dX12_length_7 : decode cX12_length 7 = .ok (.iload_n 1, 1) := by decide +kernel
theorem dX12_length_8 : decode cX12_length 8 = .ok (.imul, 1) := by decide +kernel
theorem dX12_length_9 : decode cX12_length 9 = .ok (.iadd, 1) := by decide +kernel
theorem dX12_length_10 : decode cX12_length 10 = .ok (.iaload, 1) := by decide +kernel
theorem dX12_length_11 : decode cX12_length 11 = .ok (.ireturn, 1) := by decide +kernel
theorem dX12_code_0 : decode cX12_code 0 = .ok (.aload_n 0, 1) := by decide +kernel
theorem dX12_code_1 : decode cX12_code 1 = .ok (.getfield 7, 3) := by decide +kernel
theorem dX12_code_4 : decode cX12_code 4 = .ok (.iconst 2, 1) := by decide +kernel
theorem dX12_code_5 : decode cX12_code 5 = .ok (.bipush 29, 2) := by decide +kernel
theorem dX12_code_7 : decode cX12_code 7 = .ok (.iload_n 1, 1) := by decide +kernel
theorem dX12_code_8 : decode cX12_code 8 = .ok (.imul, 1) := by decide +kernel
theorem dX12_code_9 : decode cX12_code 9 = .ok (.iadd, 1) := by decide +kernel
theorem dX12_code_10 : decode cX12_code 10 = .ok (.iconst 1, 1) := by decide +kernel
theorem dX12_code_11 : decode cX12_code 11 = .ok (.iadd, 1) := by decide +kernel
theorem dX12_code_12 : decode cX12_code 12 = .ok (.iload_n 2, 1) := by decide +kernel
theorem dX12_code_13 : decode cX12_code 13 = .ok (.iadd, 1) := by decide +kernel
theorem dX12_code_14 : decode cX12_code 14 = .ok (.iaload, 1) := by decide +kernel
theorem dX12_code_15 : decode cX12_code 15 = .ok (.ireturn, 1) := by decide +kernel
theorem dX12_holds_0 : decode cX12_holds 0 = .ok (.iload_n 1, 1) := by decide +kernel
theorem dX12_holds_1 : decode cX12_holds 1 = .ok (.invokestatic 136, 3) := by decide +kernel
theorem dX12_holds_4 : decode cX12_holds 4 = .ok (.ifCond .eq 15, 3) := by decide +kernel
theorem dX12_holds_7 : decode cX12_holds 7 = .ok (.aload_n 0, 1) := by decide +kernel
theorem dX12_holds_8 : decode cX12_holds 8 = .ok (.iload_n 1, 1) := by decide +kernel
theorem dX12_holds_9 : decode cX12_holds 9 = .ok (.invokevirtual 140, 3) := by decide +kernel
theorem dX12_holds_12 : decode cX12_holds 12 = .ok (.ifCond .le 7, 3) := by decide +kernel
theorem dX12_holds_15 : decode cX12_holds 15 = .ok (.iconst 1, 1) := by decide +kernel
theorem dX12_holds_16 : decode cX12_holds 16 = .ok (.goto 4, 3) := by decide +kernel
theorem dX12_holds_19 : decode cX12_holds 19 = .ok (.iconst 0, 1) := by decide +kernel
theorem dX12_holds_20 : decode cX12_holds 20 = .ok (.ireturn, 1) := by decide +kernel
theorem dX12_adds_0 : decode cX12_adds 0 = .ok (.aload_n 0, 1) := by decide +kernel
theorem dX12_adds_1 : decode cX12_adds 1 = .ok (.getfield 22, 3) := by decide +kernel
theorem dX12_adds_4 : decode cX12_adds 4 = .ok (.aload_n 0, 1) := by decide +kernel
theorem dX12_adds_5 : decode cX12_adds 5 = .ok (.getfield 144, 3) := by decide +kernel
theorem dX12_adds_8 : decode cX12_adds 8 = .ok (.iload_n 1, 1) := by decide +kernel
theorem dX12_adds_9 : decode cX12_adds 9 = .ok (.iastore, 1) := by decide +kernel
theorem dX12_adds_10 : decode cX12_adds 10 = .ok (.aload_n 0, 1) := by decide +kernel
theorem dX12_adds_11 : decode cX12_adds 11 = .ok (.dup, 1) := by decide +kernel
theorem dX12_adds_12 : decode cX12_adds 12 = .ok (.getfield 144, 3) := by decide +kernel
theorem dX12_adds_15 : decode cX12_adds 15 = .ok (.iconst 1, 1) := by decide +kernel
theorem dX12_adds_16 : decode cX12_adds 16 = .ok (.iadd, 1) := by decide +kernel
theorem dX12_adds_17 : decode cX12_adds 17 = .ok (.putfield 144, 3) := by decide +kernel
theorem dX12_adds_20 : decode cX12_adds 20 = .ok (.return_, 1) := by decide +kernel
theorem dX12_copiesSlot_0 : decode cX12_copiesSlot 0 = .ok (.iconst 0, 1) := by decide +kernel
theorem dX12_copiesSlot_1 : decode cX12_copiesSlot 1 = .ok (.istore_n 2, 1) := by decide +kernel
theorem dX12_copiesSlot_2 : decode cX12_copiesSlot 2 = .ok (.iload_n 2, 1) := by decide +kernel
theorem dX12_copiesSlot_3 : decode cX12_copiesSlot 3 = .ok (.aload_n 0, 1) := by decide +kernel
theorem dX12_copiesSlot_4 : decode cX12_copiesSlot 4 = .ok (.iload_n 1, 1) := by decide +kernel
theorem dX12_copiesSlot_5 : decode cX12_copiesSlot 5 = .ok (.invokevirtual 140, 3) := by decide +kernel
theorem dX12_copiesSlot_8 : decode cX12_copiesSlot 8 = .ok (.if_icmp .ge 19, 3) := by decide +kernel
theorem dX12_copiesSlot_11 : decode cX12_copiesSlot 11 = .ok (.aload_n 0, 1) := by decide +kernel
theorem dX12_copiesSlot_12 : decode cX12_copiesSlot 12 = .ok (.aload_n 0, 1) := by decide +kernel
theorem dX12_copiesSlot_13 : decode cX12_copiesSlot 13 = .ok (.iload_n 1, 1) := by decide +kernel
theorem dX12_copiesSlot_14 : decode cX12_copiesSlot 14 = .ok (.iload_n 2, 1) := by decide +kernel
theorem dX12_copiesSlot_15 : decode cX12_copiesSlot 15 = .ok (.invokevirtual 147, 3) := by decide +kernel
theorem dX12_copiesSlot_18 : decode cX12_copiesSlot 18 = .ok (.invokevirtual 151, 3) := by decide +kernel
theorem dX12_copiesSlot_21 : decode cX12_copiesSlot 21 = .ok (.iinc 2 1, 3) := by decide +kernel
theorem dX12_copiesSlot_24 : decode cX12_copiesSlot 24 = .ok (.goto (-22), 3) := by decide +kernel
theorem dX12_copiesSlot_27 : decode cX12_copiesSlot 27 = .ok (.return_, 1) := by decide +kernel
theorem dX12_letters_0 : decode cX12_letters 0 = .ok (.iconst 0, 1) := by decide +kernel
theorem dX12_letters_1 : decode cX12_letters 1 = .ok (.istore_n 1, 1) := by decide +kernel
theorem dX12_letters_2 : decode cX12_letters 2 = .ok (.iconst 0, 1) := by decide +kernel
theorem dX12_letters_3 : decode cX12_letters 3 = .ok (.istore_n 2, 1) := by decide +kernel
theorem dX12_letters_4 : decode cX12_letters 4 = .ok (.iload_n 2, 1) := by decide +kernel
theorem dX12_letters_5 : decode cX12_letters 5 = .ok (.aload_n 0, 1) := by decide +kernel
theorem dX12_letters_6 : decode cX12_letters 6 = .ok (.getfield 144, 3) := by decide +kernel
theorem dX12_letters_9 : decode cX12_letters 9 = .ok (.if_icmp .ge 27, 3) := by decide +kernel
theorem dX12_letters_12 : decode cX12_letters 12 = .ok (.iload_n 1, 1) := by decide +kernel
theorem dX12_letters_13 : decode cX12_letters 13 = .ok (.aload_n 0, 1) := by decide +kernel
theorem dX12_letters_14 : decode cX12_letters 14 = .ok (.getfield 22, 3) := by decide +kernel
theorem dX12_letters_17 : decode cX12_letters 17 = .ok (.iload_n 2, 1) := by decide +kernel
theorem dX12_letters_18 : decode cX12_letters 18 = .ok (.iaload, 1) := by decide +kernel
theorem dX12_letters_19 : decode cX12_letters 19 = .ok (.iconst 4, 1) := by decide +kernel
theorem dX12_letters_20 : decode cX12_letters 20 = .ok (.if_icmp .ge 7, 3) := by decide +kernel
theorem dX12_letters_23 : decode cX12_letters 23 = .ok (.iconst 1, 1) := by decide +kernel
theorem dX12_letters_24 : decode cX12_letters 24 = .ok (.goto 4, 3) := by decide +kernel
theorem dX12_letters_27 : decode cX12_letters 27 = .ok (.iconst 0, 1) := by decide +kernel
theorem dX12_letters_28 : decode cX12_letters 28 = .ok (.iadd, 1) := by decide +kernel
theorem dX12_letters_29 : decode cX12_letters 29 = .ok (.istore_n 1, 1) := by decide +kernel
theorem dX12_letters_30 : decode cX12_letters 30 = .ok (.iinc 2 1, 3) := by decide +kernel
theorem dX12_letters_33 : decode cX12_letters 33 = .ok (.goto (-29), 3) := by decide +kernel
theorem dX12_letters_36 : decode cX12_letters 36 = .ok (.iload_n 1, 1) := by decide +kernel
theorem dX12_letters_37 : decode cX12_letters 37 = .ok (.ireturn, 1) := by decide +kernel
theorem dX12_signs_0 : decode cX12_signs 0 = .ok (.iconst 0, 1) := by decide +kernel
theorem dX12_signs_1 : decode cX12_signs 1 = .ok (.istore_n 1, 1) := by decide +kernel
theorem dX12_signs_2 : decode cX12_signs 2 = .ok (.iconst 0, 1) := by decide +kernel
theorem dX12_signs_3 : decode cX12_signs 3 = .ok (.istore_n 2, 1) := by decide +kernel
theorem dX12_signs_4 : decode cX12_signs 4 = .ok (.iload_n 2, 1) := by decide +kernel
theorem dX12_signs_5 : decode cX12_signs 5 = .ok (.aload_n 0, 1) := by decide +kernel
theorem dX12_signs_6 : decode cX12_signs 6 = .ok (.getfield 144, 3) := by decide +kernel
theorem dX12_signs_9 : decode cX12_signs 9 = .ok (.if_icmp .ge 28, 3) := by decide +kernel
theorem dX12_signs_12 : decode cX12_signs 12 = .ok (.iload_n 1, 1) := by decide +kernel
theorem dX12_signs_13 : decode cX12_signs 13 = .ok (.aload_n 0, 1) := by decide +kernel
theorem dX12_signs_14 : decode cX12_signs 14 = .ok (.getfield 22, 3) := by decide +kernel
theorem dX12_signs_17 : decode cX12_signs 17 = .ok (.iload_n 2, 1) := by decide +kernel
theorem dX12_signs_18 : decode cX12_signs 18 = .ok (.iaload, 1) := by decide +kernel
theorem dX12_signs_19 : decode cX12_signs 19 = .ok (.bipush 6, 2) := by decide +kernel
theorem dX12_signs_21 : decode cX12_signs 21 = .ok (.if_icmp .lt 7, 3) := by decide +kernel
theorem dX12_signs_24 : decode cX12_signs 24 = .ok (.iconst 1, 1) := by decide +kernel
theorem dX12_signs_25 : decode cX12_signs 25 = .ok (.goto 4, 3) := by decide +kernel
theorem dX12_signs_28 : decode cX12_signs 28 = .ok (.iconst 0, 1) := by decide +kernel
theorem dX12_signs_29 : decode cX12_signs 29 = .ok (.iadd, 1) := by decide +kernel
theorem dX12_signs_30 : decode cX12_signs 30 = .ok (.istore_n 1, 1) := by decide +kernel
theorem dX12_signs_31 : decode cX12_signs 31 = .ok (.iinc 2 1, 3) := by decide +kernel
theorem dX12_signs_34 : decode cX12_signs 34 = .ok (.goto (-30), 3) := by decide +kernel
theorem dX12_signs_37 : decode cX12_signs 37 = .ok (.iload_n 1, 1) := by decide +kernel
theorem dX12_signs_38 : decode cX12_signs 38 = .ok (.ireturn, 1) := by decide +kernel
theorem dX12_isTooLarge_0 : decode cX12_isTooLarge 0 = .ok (.aload_n 0, 1) := by decide +kernel
theorem dX12_isTooLarge_1 : decode cX12_isTooLarge 1 = .ok (.invokevirtual 155, 3) := by decide +kernel
theorem dX12_isTooLarge_4 : decode cX12_isTooLarge 4 = .ok (.bipush 7, 2) := by decide +kernel
theorem dX12_isTooLarge_6 : decode cX12_isTooLarge 6 = .ok (.if_icmp .gt 12, 3) := by decide +kernel
theorem dX12_isTooLarge_9 : decode cX12_isTooLarge 9 = .ok (.aload_n 0, 1) := by decide +kernel
theorem dX12_isTooLarge_10 : decode cX12_isTooLarge 10 = .ok (.invokevirtual 159, 3) := by decide +kernel
theorem dX12_isTooLarge_13 : decode cX12_isTooLarge 13 = .ok (.bipush 9, 2) := by decide +kernel
theorem dX12_isTooLarge_15 : decode cX12_isTooLarge 15 = .ok (.if_icmp .le 7, 3) := by decide +kernel
theorem dX12_isTooLarge_18 : decode cX12_isTooLarge 18 = .ok (.iconst 1, 1) := by decide +kernel
theorem dX12_isTooLarge_19 : decode cX12_isTooLarge 19 = .ok (.goto 4, 3) := by decide +kernel
theorem dX12_isTooLarge_22 : decode cX12_isTooLarge 22 = .ok (.iconst 0, 1) := by decide +kernel
theorem dX12_isTooLarge_23 : decode cX12_isTooLarge 23 = .ok (.ireturn, 1) := by decide +kernel
theorem dX12_lays_0 : decode cX12_lays 0 = .ok (.iconst 0, 1) := by decide +kernel
theorem dX12_lays_1 : decode cX12_lays 1 = .ok (.istore_n 2, 1) := by decide +kernel
theorem dX12_lays_2 : decode cX12_lays 2 = .ok (.iload_n 2, 1) := by decide +kernel
theorem dX12_lays_3 : decode cX12_lays 3 = .ok (.bipush 28, 2) := by decide +kernel
theorem dX12_lays_5 : decode cX12_lays 5 = .ok (.if_icmp .ge 42, 3) := by decide +kernel
theorem dX12_lays_8 : decode cX12_lays 8 = .ok (.aload_n 0, 1) := by decide +kernel
theorem dX12_lays_9 : decode cX12_lays 9 = .ok (.getfield 7, 3) := by decide +kernel
theorem dX12_lays_12 : decode cX12_lays 12 = .ok (.iconst 2, 1) := by decide +kernel
theorem dX12_lays_13 : decode cX12_lays 13 = .ok (.bipush 29, 2) := by decide +kernel
theorem dX12_lays_15 : decode cX12_lays 15 = .ok (.iload_n 1, 1) := by decide +kernel
theorem dX12_lays_16 : decode cX12_lays 16 = .ok (.imul, 1) := by decide +kernel
theorem dX12_lays_17 : decode cX12_lays 17 = .ok (.iadd, 1) := by decide +kernel
theorem dX12_lays_18 : decode cX12_lays 18 = .ok (.iconst 1, 1) := by decide +kernel
theorem dX12_lays_19 : decode cX12_lays 19 = .ok (.iadd, 1) := by decide +kernel
theorem dX12_lays_20 : decode cX12_lays 20 = .ok (.iload_n 2, 1) := by decide +kernel
theorem dX12_lays_21 : decode cX12_lays 21 = .ok (.iadd, 1) := by decide +kernel
theorem dX12_lays_22 : decode cX12_lays 22 = .ok (.iload_n 2, 1) := by decide +kernel
theorem dX12_lays_23 : decode cX12_lays 23 = .ok (.aload_n 0, 1) := by decide +kernel
theorem dX12_lays_24 : decode cX12_lays 24 = .ok (.getfield 144, 3) := by decide +kernel
theorem dX12_lays_27 : decode cX12_lays 27 = .ok (.if_icmp .ge 12, 3) := by decide +kernel
theorem dX12_lays_30 : decode cX12_lays 30 = .ok (.aload_n 0, 1) := by decide +kernel
theorem dX12_lays_31 : decode cX12_lays 31 = .ok (.getfield 22, 3) := by decide +kernel
theorem dX12_lays_34 : decode cX12_lays 34 = .ok (.iload_n 2, 1) := by decide +kernel
theorem dX12_lays_35 : decode cX12_lays 35 = .ok (.iaload, 1) := by decide +kernel
theorem dX12_lays_36 : decode cX12_lays 36 = .ok (.goto 4, 3) := by decide +kernel
theorem dX12_lays_39 : decode cX12_lays 39 = .ok (.iconst 0, 1) := by decide +kernel
theorem dX12_lays_40 : decode cX12_lays 40 = .ok (.iastore, 1) := by decide +kernel
theorem dX12_lays_41 : decode cX12_lays 41 = .ok (.iinc 2 1, 3) := by decide +kernel
theorem dX12_lays_44 : decode cX12_lays 44 = .ok (.goto (-42), 3) := by decide +kernel
theorem dX12_lays_47 : decode cX12_lays 47 = .ok (.aload_n 0, 1) := by decide +kernel
theorem dX12_lays_48 : decode cX12_lays 48 = .ok (.getfield 7, 3) := by decide +kernel
theorem dX12_lays_51 : decode cX12_lays 51 = .ok (.iconst 2, 1) := by decide +kernel
theorem dX12_lays_52 : decode cX12_lays 52 = .ok (.bipush 29, 2) := by decide +kernel
theorem dX12_lays_54 : decode cX12_lays 54 = .ok (.iload_n 1, 1) := by decide +kernel
theorem dX12_lays_55 : decode cX12_lays 55 = .ok (.imul, 1) := by decide +kernel
theorem dX12_lays_56 : decode cX12_lays 56 = .ok (.iadd, 1) := by decide +kernel
theorem dX12_lays_57 : decode cX12_lays 57 = .ok (.aload_n 0, 1) := by decide +kernel
theorem dX12_lays_58 : decode cX12_lays 58 = .ok (.getfield 144, 3) := by decide +kernel
theorem dX12_lays_61 : decode cX12_lays 61 = .ok (.iastore, 1) := by decide +kernel
theorem dX12_lays_62 : decode cX12_lays 62 = .ok (.aload_n 0, 1) := by decide +kernel
theorem dX12_lays_63 : decode cX12_lays 63 = .ok (.getfield 7, 3) := by decide +kernel
theorem dX12_lays_66 : decode cX12_lays 66 = .ok (.iconst 0, 1) := by decide +kernel
theorem dX12_lays_67 : decode cX12_lays 67 = .ok (.dup2, 1) := by decide +kernel
theorem dX12_lays_68 : decode cX12_lays 68 = .ok (.iaload, 1) := by decide +kernel
theorem dX12_lays_69 : decode cX12_lays 69 = .ok (.iconst 1, 1) := by decide +kernel
theorem dX12_lays_70 : decode cX12_lays 70 = .ok (.iadd, 1) := by decide +kernel
theorem dX12_lays_71 : decode cX12_lays 71 = .ok (.iastore, 1) := by decide +kernel
theorem dX12_lays_72 : decode cX12_lays 72 = .ok (.aload_n 0, 1) := by decide +kernel
theorem dX12_lays_73 : decode cX12_lays 73 = .ok (.invokevirtual 155, 3) := by decide +kernel
theorem dX12_lays_76 : decode cX12_lays 76 = .ok (.ireturn, 1) := by decide +kernel
theorem dX12_nextChar_0 : decode cX12_nextChar 0 = .ok (.aload_n 0, 1) := by decide +kernel
theorem dX12_nextChar_1 : decode cX12_nextChar 1 = .ok (.getfield 162, 3) := by decide +kernel
theorem dX12_nextChar_4 : decode cX12_nextChar 4 = .ok (.aload_n 0, 1) := by decide +kernel
theorem dX12_nextChar_5 : decode cX12_nextChar 5 = .ok (.getfield 165, 3) := by decide +kernel
theorem dX12_nextChar_8 : decode cX12_nextChar 8 = .ok (.if_icmp .ge 15, 3) := by decide +kernel
theorem dX12_nextChar_11 : decode cX12_nextChar 11 = .ok (.aload_n 0, 1) := by decide +kernel
theorem dX12_nextChar_12 : decode cX12_nextChar 12 = .ok (.getfield 25, 3) := by decide +kernel
theorem dX12_nextChar_15 : decode cX12_nextChar 15 = .ok (.aload_n 0, 1) := by decide +kernel
theorem dX12_nextChar_16 : decode cX12_nextChar 16 = .ok (.getfield 162, 3) := by decide +kernel
theorem dX12_nextChar_19 : decode cX12_nextChar 19 = .ok (.caload, 1) := by decide +kernel
theorem dX12_nextChar_20 : decode cX12_nextChar 20 = .ok (.goto 4, 3) := by decide +kernel
theorem dX12_nextChar_23 : decode cX12_nextChar 23 = .ok (.iconst (-1), 1) := by decide +kernel
theorem dX12_nextChar_24 : decode cX12_nextChar 24 = .ok (.ireturn, 1) := by decide +kernel
theorem dX12_reads_0 : decode cX12_reads 0 = .ok (.aload_n 0, 1) := by decide +kernel
theorem dX12_reads_1 : decode cX12_reads 1 = .ok (.invokevirtual 168, 3) := by decide +kernel
theorem dX12_reads_4 : decode cX12_reads 4 = .ok (.iload_n 1, 1) := by decide +kernel
theorem dX12_reads_5 : decode cX12_reads 5 = .ok (.if_icmp .eq 5, 3) := by decide +kernel
theorem dX12_reads_8 : decode cX12_reads 8 = .ok (.iconst 0, 1) := by decide +kernel
theorem dX12_reads_9 : decode cX12_reads 9 = .ok (.ireturn, 1) := by decide +kernel
theorem dX12_reads_10 : decode cX12_reads 10 = .ok (.aload_n 0, 1) := by decide +kernel
theorem dX12_reads_11 : decode cX12_reads 11 = .ok (.dup, 1) := by decide +kernel
theorem dX12_reads_12 : decode cX12_reads 12 = .ok (.getfield 162, 3) := by decide +kernel
theorem dX12_reads_15 : decode cX12_reads 15 = .ok (.iconst 1, 1) := by decide +kernel
theorem dX12_reads_16 : decode cX12_reads 16 = .ok (.iadd, 1) := by decide +kernel
theorem dX12_reads_17 : decode cX12_reads 17 = .ok (.putfield 162, 3) := by decide +kernel
theorem dX12_reads_20 : decode cX12_reads 20 = .ok (.iconst 1, 1) := by decide +kernel
theorem dX12_reads_21 : decode cX12_reads 21 = .ok (.ireturn, 1) := by decide +kernel
theorem dX12_waitsFor_0 : decode cX12_waitsFor 0 = .ok (.aload_n 0, 1) := by decide +kernel
theorem dX12_waitsFor_1 : decode cX12_waitsFor 1 = .ok (.getfield 36, 3) := by decide +kernel
theorem dX12_waitsFor_4 : decode cX12_waitsFor 4 = .ok (.aload_n 0, 1) := by decide +kernel
theorem dX12_waitsFor_5 : decode cX12_waitsFor 5 = .ok (.getfield 171, 3) := by decide +kernel
theorem dX12_waitsFor_8 : decode cX12_waitsFor 8 = .ok (.iload_n 1, 1) := by decide +kernel
theorem dX12_waitsFor_9 : decode cX12_waitsFor 9 = .ok (.iastore, 1) := by decide +kernel
theorem dX12_waitsFor_10 : decode cX12_waitsFor 10 = .ok (.aload_n 0, 1) := by decide +kernel
theorem dX12_waitsFor_11 : decode cX12_waitsFor 11 = .ok (.dup, 1) := by decide +kernel
theorem dX12_waitsFor_12 : decode cX12_waitsFor 12 = .ok (.getfield 171, 3) := by decide +kernel
theorem dX12_waitsFor_15 : decode cX12_waitsFor 15 = .ok (.iconst 1, 1) := by decide +kernel
theorem dX12_waitsFor_16 : decode cX12_waitsFor 16 = .ok (.iadd, 1) := by decide +kernel
theorem dX12_waitsFor_17 : decode cX12_waitsFor 17 = .ok (.putfield 171, 3) := by decide +kernel
theorem dX12_waitsFor_20 : decode cX12_waitsFor 20 = .ok (.return_, 1) := by decide +kernel
theorem dX12_brings_0 : decode cX12_brings 0 = .ok (.iconst 1, 1) := by decide +kernel
theorem dX12_brings_1 : decode cX12_brings 1 = .ok (.istore_n 2, 1) := by decide +kernel
theorem dX12_brings_2 : decode cX12_brings 2 = .ok (.iload_n 2, 1) := by decide +kernel
theorem dX12_brings_3 : decode cX12_brings 3 = .ok (.ifCond .eq 82, 3) := by decide +kernel
theorem dX12_brings_6 : decode cX12_brings 6 = .ok (.aload_n 0, 1) := by decide +kernel
theorem dX12_brings_7 : decode cX12_brings 7 = .ok (.getfield 171, 3) := by decide +kernel
theorem dX12_brings_10 : decode cX12_brings 10 = .ok (.ifCond .le 42, 3) := by decide +kernel
theorem dX12_brings_13 : decode cX12_brings 13 = .ok (.aload_n 0, 1) := by decide +kernel
theorem dX12_brings_14 : decode cX12_brings 14 = .ok (.getfield 36, 3) := by decide +kernel
theorem dX12_brings_17 : decode cX12_brings 17 = .ok (.aload_n 0, 1) := by decide +kernel
theorem dX12_brings_18 : decode cX12_brings 18 = .ok (.getfield 171, 3) := by decide +kernel
theorem dX12_brings_21 : decode cX12_brings 21 = .ok (.iconst 1, 1) := by decide +kernel
theorem dX12_brings_22 : decode cX12_brings 22 = .ok (.isub, 1) := by decide +kernel
theorem dX12_brings_23 : decode cX12_brings 23 = .ok (.iaload, 1) := by decide +kernel
theorem dX12_brings_24 : decode cX12_brings 24 = .ok (.iconst 4, 1) := by decide +kernel
theorem dX12_brings_25 : decode cX12_brings 25 = .ok (.if_icmp .eq 23, 3) := by decide +kernel
theorem dX12_brings_28 : decode cX12_brings 28 = .ok (.aload_n 0, 1) := by decide +kernel
theorem dX12_brings_29 : decode cX12_brings 29 = .ok (.getfield 36, 3) := by decide +kernel
theorem dX12_brings_32 : decode cX12_brings 32 = .ok (.aload_n 0, 1) := by decide +kernel
theorem dX12_brings_33 : decode cX12_brings 33 = .ok (.getfield 171, 3) := by decide +kernel
theorem dX12_brings_36 : decode cX12_brings 36 = .ok (.iconst 1, 1) := by decide +kernel
theorem dX12_brings_37 : decode cX12_brings 37 = .ok (.isub, 1) := by decide +kernel
theorem dX12_brings_38 : decode cX12_brings 38 = .ok (.iaload, 1) := by decide +kernel
theorem dX12_brings_39 : decode cX12_brings 39 = .ok (.iconst 5, 1) := by decide +kernel
theorem dX12_brings_40 : decode cX12_brings 40 = .ok (.if_icmp .ne 12, 3) := by decide +kernel
theorem dX12_brings_43 : decode cX12_brings 43 = .ok (.iload_n 1, 1) := by decide +kernel
theorem dX12_brings_44 : decode cX12_brings 44 = .ok (.iconst 5, 1) := by decide +kernel
theorem dX12_brings_45 : decode cX12_brings 45 = .ok (.if_icmp .ne 7, 3) := by decide +kernel
theorem dX12_brings_48 : decode cX12_brings 48 = .ok (.iconst 1, 1) := by decide +kernel
theorem dX12_brings_49 : decode cX12_brings 49 = .ok (.goto 4, 3) := by decide +kernel
theorem dX12_brings_52 : decode cX12_brings 52 = .ok (.iconst 0, 1) := by decide +kernel
theorem dX12_brings_53 : decode cX12_brings 53 = .ok (.istore_n 2, 1) := by decide +kernel
theorem dX12_brings_54 : decode cX12_brings 54 = .ok (.iload_n 2, 1) := by decide +kernel
theorem dX12_brings_55 : decode cX12_brings 55 = .ok (.ifCond .ne 4, 3) := by decide +kernel
theorem dX12_brings_58 : decode cX12_brings 58 = .ok (.return_, 1) := by decide +kernel
theorem dX12_brings_59 : decode cX12_brings 59 = .ok (.aload_n 0, 1) := by decide +kernel
theorem dX12_brings_60 : decode cX12_brings 60 = .ok (.dup, 1) := by decide +kernel
theorem dX12_brings_61 : decode cX12_brings 61 = .ok (.getfield 171, 3) := by decide +kernel
theorem dX12_brings_64 : decode cX12_brings 64 = .ok (.iconst 1, 1) := by decide +kernel
theorem dX12_brings_65 : decode cX12_brings 65 = .ok (.isub, 1) := by decide +kernel
theorem dX12_brings_66 : decode cX12_brings 66 = .ok (.putfield 171, 3) := by decide +kernel
theorem dX12_brings_69 : decode cX12_brings 69 = .ok (.aload_n 0, 1) := by decide +kernel
theorem dX12_brings_70 : decode cX12_brings 70 = .ok (.aload_n 0, 1) := by decide +kernel
theorem dX12_brings_71 : decode cX12_brings 71 = .ok (.getfield 36, 3) := by decide +kernel
theorem dX12_brings_74 : decode cX12_brings 74 = .ok (.aload_n 0, 1) := by decide +kernel
theorem dX12_brings_75 : decode cX12_brings 75 = .ok (.getfield 171, 3) := by decide +kernel
theorem dX12_brings_78 : decode cX12_brings 78 = .ok (.iaload, 1) := by decide +kernel
theorem dX12_brings_79 : decode cX12_brings 79 = .ok (.invokevirtual 151, 3) := by decide +kernel
theorem dX12_brings_82 : decode cX12_brings 82 = .ok (.goto (-80), 3) := by decide +kernel
theorem dX12_brings_85 : decode cX12_brings 85 = .ok (.return_, 1) := by decide +kernel
theorem dX12_readsLetter_0 : decode cX12_readsLetter 0 = .ok (.aload_n 0, 1) := by decide +kernel
theorem dX12_readsLetter_1 : decode cX12_readsLetter 1 = .ok (.invokevirtual 168, 3) := by decide +kernel
theorem dX12_readsLetter_4 : decode cX12_readsLetter 4 = .ok (.istore_n 1, 1) := by decide +kernel
theorem dX12_readsLetter_5 : decode cX12_readsLetter 5 = .ok (.iload_n 1, 1) := by decide +kernel
theorem dX12_readsLetter_6 : decode cX12_readsLetter 6 = .ok (.bipush 97, 2) := by decide +kernel
theorem dX12_readsLetter_8 : decode cX12_readsLetter 8 = .ok (.bipush 99, 2) := by decide +kernel
theorem dX12_readsLetter_10 : decode cX12_readsLetter 10 = .ok (.invokestatic 132, 3) := by decide +kernel
theorem dX12_readsLetter_13 : decode cX12_readsLetter 13 = .ok (.ifCond .ne 5, 3) := by decide +kernel
theorem dX12_readsLetter_16 : decode cX12_readsLetter 16 = .ok (.iconst 0, 1) := by decide +kernel
theorem dX12_readsLetter_17 : decode cX12_readsLetter 17 = .ok (.ireturn, 1) := by decide +kernel
theorem dX12_readsLetter_18 : decode cX12_readsLetter 18 = .ok (.aload_n 0, 1) := by decide +kernel
theorem dX12_readsLetter_19 : decode cX12_readsLetter 19 = .ok (.dup, 1) := by decide +kernel
theorem dX12_readsLetter_20 : decode cX12_readsLetter 20 = .ok (.getfield 162, 3) := by decide +kernel
theorem dX12_readsLetter_23 : decode cX12_readsLetter 23 = .ok (.iconst 1, 1) := by decide +kernel
theorem dX12_readsLetter_24 : decode cX12_readsLetter 24 = .ok (.iadd, 1) := by decide +kernel
theorem dX12_readsLetter_25 : decode cX12_readsLetter 25 = .ok (.putfield 162, 3) := by decide +kernel
theorem dX12_readsLetter_28 : decode cX12_readsLetter 28 = .ok (.aload_n 0, 1) := by decide +kernel
theorem dX12_readsLetter_29 : decode cX12_readsLetter 29 = .ok (.iload_n 1, 1) := by decide +kernel
theorem dX12_readsLetter_30 : decode cX12_readsLetter 30 = .ok (.bipush 97, 2) := by decide +kernel
theorem dX12_readsLetter_32 : decode cX12_readsLetter 32 = .ok (.isub, 1) := by decide +kernel
theorem dX12_readsLetter_33 : decode cX12_readsLetter 33 = .ok (.iconst 1, 1) := by decide +kernel
theorem dX12_readsLetter_34 : decode cX12_readsLetter 34 = .ok (.iadd, 1) := by decide +kernel
theorem dX12_readsLetter_35 : decode cX12_readsLetter 35 = .ok (.invokevirtual 151, 3) := by decide +kernel
theorem dX12_readsLetter_38 : decode cX12_readsLetter 38 = .ok (.iconst 1, 1) := by decide +kernel
theorem dX12_readsLetter_39 : decode cX12_readsLetter 39 = .ok (.ireturn, 1) := by decide +kernel
theorem dX12_signOf_0 : decode cX12_signOf 0 = .ok (.iload_n 0, 1) := by decide +kernel
theorem dX12_signOf_1 : decode cX12_signOf 1 = .ok (.lookupswitch 44 #[(42, 35), (43, 38), (63, 41)], 35) := by decide +kernel
theorem dX12_signOf_36 : decode cX12_signOf 36 = .ok (.bipush 6, 2) := by decide +kernel
theorem dX12_signOf_38 : decode cX12_signOf 38 = .ok (.ireturn, 1) := by decide +kernel
theorem dX12_signOf_39 : decode cX12_signOf 39 = .ok (.bipush 7, 2) := by decide +kernel
theorem dX12_signOf_41 : decode cX12_signOf 41 = .ok (.ireturn, 1) := by decide +kernel
theorem dX12_signOf_42 : decode cX12_signOf 42 = .ok (.bipush 8, 2) := by decide +kernel
theorem dX12_signOf_44 : decode cX12_signOf 44 = .ok (.ireturn, 1) := by decide +kernel
theorem dX12_signOf_45 : decode cX12_signOf 45 = .ok (.iconst 0, 1) := by decide +kernel
theorem dX12_signOf_46 : decode cX12_signOf 46 = .ok (.ireturn, 1) := by decide +kernel
theorem dX12_readsBehind_0 : decode cX12_readsBehind 0 = .ok (.aload_n 0, 1) := by decide +kernel
theorem dX12_readsBehind_1 : decode cX12_readsBehind 1 = .ok (.invokevirtual 168, 3) := by decide +kernel
theorem dX12_readsBehind_4 : decode cX12_readsBehind 4 = .ok (.invokestatic 174, 3) := by decide +kernel
theorem dX12_readsBehind_7 : decode cX12_readsBehind 7 = .ok (.istore_n 1, 1) := by decide +kernel
theorem dX12_readsBehind_8 : decode cX12_readsBehind 8 = .ok (.iload_n 1, 1) := by decide +kernel
theorem dX12_readsBehind_9 : decode cX12_readsBehind 9 = .ok (.ifCond .le 18, 3) := by decide +kernel
theorem dX12_readsBehind_12 : decode cX12_readsBehind 12 = .ok (.aload_n 0, 1) := by decide +kernel
theorem dX12_readsBehind_13 : decode cX12_readsBehind 13 = .ok (.dup, 1) := by decide +kernel
theorem dX12_readsBehind_14 : decode cX12_readsBehind 14 = .ok (.getfield 162, 3) := by decide +kernel
theorem dX12_readsBehind_17 : decode cX12_readsBehind 17 = .ok (.iconst 1, 1) := by decide +kernel
theorem dX12_readsBehind_18 : decode cX12_readsBehind 18 = .ok (.iadd, 1) := by decide +kernel
theorem dX12_readsBehind_19 : decode cX12_readsBehind 19 = .ok (.putfield 162, 3) := by decide +kernel
theorem dX12_readsBehind_22 : decode cX12_readsBehind 22 = .ok (.aload_n 0, 1) := by decide +kernel
theorem dX12_readsBehind_23 : decode cX12_readsBehind 23 = .ok (.iload_n 1, 1) := by decide +kernel
theorem dX12_readsBehind_24 : decode cX12_readsBehind 24 = .ok (.invokevirtual 151, 3) := by decide +kernel
theorem dX12_readsBehind_27 : decode cX12_readsBehind 27 = .ok (.aload_n 0, 1) := by decide +kernel
theorem dX12_readsBehind_28 : decode cX12_readsBehind 28 = .ok (.invokevirtual 168, 3) := by decide +kernel
theorem dX12_readsBehind_31 : decode cX12_readsBehind 31 = .ok (.bipush 97, 2) := by decide +kernel
theorem dX12_readsBehind_33 : decode cX12_readsBehind 33 = .ok (.bipush 99, 2) := by decide +kernel
theorem dX12_readsBehind_35 : decode cX12_readsBehind 35 = .ok (.invokestatic 132, 3) := by decide +kernel
theorem dX12_readsBehind_38 : decode cX12_readsBehind 38 = .ok (.ifCond .ne 12, 3) := by decide +kernel
theorem dX12_readsBehind_41 : decode cX12_readsBehind 41 = .ok (.aload_n 0, 1) := by decide +kernel
theorem dX12_readsBehind_42 : decode cX12_readsBehind 42 = .ok (.invokevirtual 168, 3) := by decide +kernel
theorem dX12_readsBehind_45 : decode cX12_readsBehind 45 = .ok (.bipush 40, 2) := by decide +kernel
theorem dX12_readsBehind_47 : decode cX12_readsBehind 47 = .ok (.if_icmp .ne 15, 3) := by decide +kernel
theorem dX12_readsBehind_50 : decode cX12_readsBehind 50 = .ok (.aload_n 0, 1) := by decide +kernel
theorem dX12_readsBehind_51 : decode cX12_readsBehind 51 = .ok (.iconst 4, 1) := by decide +kernel
theorem dX12_readsBehind_52 : decode cX12_readsBehind 52 = .ok (.invokevirtual 177, 3) := by decide +kernel
theorem dX12_readsBehind_55 : decode cX12_readsBehind 55 = .ok (.aload_n 0, 1) := by decide +kernel
theorem dX12_readsBehind_56 : decode cX12_readsBehind 56 = .ok (.iconst 4, 1) := by decide +kernel
theorem dX12_readsBehind_57 : decode cX12_readsBehind 57 = .ok (.invokevirtual 180, 3) := by decide +kernel
theorem dX12_readsBehind_60 : decode cX12_readsBehind 60 = .ok (.iconst 1, 1) := by decide +kernel
theorem dX12_readsBehind_61 : decode cX12_readsBehind 61 = .ok (.ireturn, 1) := by decide +kernel
theorem dX12_readsBehind_62 : decode cX12_readsBehind 62 = .ok (.aload_n 0, 1) := by decide +kernel
theorem dX12_readsBehind_63 : decode cX12_readsBehind 63 = .ok (.bipush 124, 2) := by decide +kernel
theorem dX12_readsBehind_65 : decode cX12_readsBehind 65 = .ok (.invokevirtual 183, 3) := by decide +kernel
theorem dX12_readsBehind_68 : decode cX12_readsBehind 68 = .ok (.ifCond .eq 15, 3) := by decide +kernel
theorem dX12_readsBehind_71 : decode cX12_readsBehind 71 = .ok (.aload_n 0, 1) := by decide +kernel
theorem dX12_readsBehind_72 : decode cX12_readsBehind 72 = .ok (.iconst 5, 1) := by decide +kernel
theorem dX12_readsBehind_73 : decode cX12_readsBehind 73 = .ok (.invokevirtual 177, 3) := by decide +kernel
theorem dX12_readsBehind_76 : decode cX12_readsBehind 76 = .ok (.aload_n 0, 1) := by decide +kernel
theorem dX12_readsBehind_77 : decode cX12_readsBehind 77 = .ok (.iconst 5, 1) := by decide +kernel
theorem dX12_readsBehind_78 : decode cX12_readsBehind 78 = .ok (.invokevirtual 180, 3) := by decide +kernel
theorem dX12_readsBehind_81 : decode cX12_readsBehind 81 = .ok (.iconst 1, 1) := by decide +kernel
theorem dX12_readsBehind_82 : decode cX12_readsBehind 82 = .ok (.ireturn, 1) := by decide +kernel
theorem dX12_readsBehind_83 : decode cX12_readsBehind 83 = .ok (.aload_n 0, 1) := by decide +kernel
theorem dX12_readsBehind_84 : decode cX12_readsBehind 84 = .ok (.getfield 186, 3) := by decide +kernel
theorem dX12_readsBehind_87 : decode cX12_readsBehind 87 = .ok (.ifCond .le 39, 3) := by decide +kernel
theorem dX12_readsBehind_90 : decode cX12_readsBehind 90 = .ok (.aload_n 0, 1) := by decide +kernel
theorem dX12_readsBehind_91 : decode cX12_readsBehind 91 = .ok (.bipush 41, 2) := by decide +kernel
theorem dX12_readsBehind_93 : decode cX12_readsBehind 93 = .ok (.invokevirtual 183, 3) := by decide +kernel
theorem dX12_readsBehind_96 : decode cX12_readsBehind 96 = .ok (.ifCond .eq 30, 3) := by decide +kernel
theorem dX12_readsBehind_99 : decode cX12_readsBehind 99 = .ok (.aload_n 0, 1) := by decide +kernel
theorem dX12_readsBehind_100 : decode cX12_readsBehind 100 = .ok (.iconst 5, 1) := by decide +kernel
theorem dX12_readsBehind_101 : decode cX12_readsBehind 101 = .ok (.invokevirtual 177, 3) := by decide +kernel
theorem dX12_readsBehind_104 : decode cX12_readsBehind 104 = .ok (.aload_n 0, 1) := by decide +kernel
theorem dX12_readsBehind_105 : decode cX12_readsBehind 105 = .ok (.dup, 1) := by decide +kernel
theorem dX12_readsBehind_106 : decode cX12_readsBehind 106 = .ok (.getfield 171, 3) := by decide +kernel
theorem dX12_readsBehind_109 : decode cX12_readsBehind 109 = .ok (.iconst 1, 1) := by decide +kernel
theorem dX12_readsBehind_110 : decode cX12_readsBehind 110 = .ok (.isub, 1) := by decide +kernel
theorem dX12_readsBehind_111 : decode cX12_readsBehind 111 = .ok (.putfield 171, 3) := by decide +kernel
theorem dX12_readsBehind_114 : decode cX12_readsBehind 114 = .ok (.aload_n 0, 1) := by decide +kernel
theorem dX12_readsBehind_115 : decode cX12_readsBehind 115 = .ok (.dup, 1) := by decide +kernel
theorem dX12_readsBehind_116 : decode cX12_readsBehind 116 = .ok (.getfield 186, 3) := by decide +kernel
theorem dX12_readsBehind_119 : decode cX12_readsBehind 119 = .ok (.iconst 1, 1) := by decide +kernel
theorem dX12_readsBehind_120 : decode cX12_readsBehind 120 = .ok (.isub, 1) := by decide +kernel
theorem dX12_readsBehind_121 : decode cX12_readsBehind 121 = .ok (.putfield 186, 3) := by decide +kernel
theorem dX12_readsBehind_124 : decode cX12_readsBehind 124 = .ok (.iconst 2, 1) := by decide +kernel
theorem dX12_readsBehind_125 : decode cX12_readsBehind 125 = .ok (.ireturn, 1) := by decide +kernel
theorem dX12_readsBehind_126 : decode cX12_readsBehind 126 = .ok (.iconst 0, 1) := by decide +kernel
theorem dX12_readsBehind_127 : decode cX12_readsBehind 127 = .ok (.ireturn, 1) := by decide +kernel
theorem dX12_readsPattern_0 : decode cX12_readsPattern 0 = .ok (.aload_n 0, 1) := by decide +kernel
theorem dX12_readsPattern_1 : decode cX12_readsPattern 1 = .ok (.iconst 0, 1) := by decide +kernel
theorem dX12_readsPattern_2 : decode cX12_readsPattern 2 = .ok (.putfield 144, 3) := by decide +kernel
theorem dX12_readsPattern_5 : decode cX12_readsPattern 5 = .ok (.aload_n 0, 1) := by decide +kernel
theorem dX12_readsPattern_6 : decode cX12_readsPattern 6 = .ok (.iconst 0, 1) := by decide +kernel
theorem dX12_readsPattern_7 : decode cX12_readsPattern 7 = .ok (.putfield 171, 3) := by decide +kernel
theorem dX12_readsPattern_10 : decode cX12_readsPattern 10 = .ok (.aload_n 0, 1) := by decide +kernel
theorem dX12_readsPattern_11 : decode cX12_readsPattern 11 = .ok (.iconst 0, 1) := by decide +kernel
theorem dX12_readsPattern_12 : decode cX12_readsPattern 12 = .ok (.putfield 186, 3) := by decide +kernel
theorem dX12_readsPattern_15 : decode cX12_readsPattern 15 = .ok (.iconst 1, 1) := by decide +kernel
theorem dX12_readsPattern_16 : decode cX12_readsPattern 16 = .ok (.istore_n 1, 1) := by decide +kernel
theorem dX12_readsPattern_17 : decode cX12_readsPattern 17 = .ok (.iload_n 1, 1) := by decide +kernel
theorem dX12_readsPattern_18 : decode cX12_readsPattern 18 = .ok (.ifCond .le 66, 3) := by decide +kernel
theorem dX12_readsPattern_21 : decode cX12_readsPattern 21 = .ok (.iload_n 1, 1) := by decide +kernel
theorem dX12_readsPattern_22 : decode cX12_readsPattern 22 = .ok (.iconst 1, 1) := by decide +kernel
theorem dX12_readsPattern_23 : decode cX12_readsPattern 23 = .ok (.if_icmp .ne 31, 3) := by decide +kernel
theorem dX12_readsPattern_26 : decode cX12_readsPattern 26 = .ok (.aload_n 0, 1) := by decide +kernel
theorem dX12_readsPattern_27 : decode cX12_readsPattern 27 = .ok (.bipush 40, 2) := by decide +kernel
theorem dX12_readsPattern_29 : decode cX12_readsPattern 29 = .ok (.invokevirtual 183, 3) := by decide +kernel
theorem dX12_readsPattern_32 : decode cX12_readsPattern 32 = .ok (.ifCond .eq 22, 3) := by decide +kernel
theorem dX12_readsPattern_35 : decode cX12_readsPattern 35 = .ok (.aload_n 0, 1) := by decide +kernel
theorem dX12_readsPattern_36 : decode cX12_readsPattern 36 = .ok (.bipush 9, 2) := by decide +kernel
theorem dX12_readsPattern_38 : decode cX12_readsPattern 38 = .ok (.invokevirtual 180, 3) := by decide +kernel
theorem dX12_readsPattern_41 : decode cX12_readsPattern 41 = .ok (.aload_n 0, 1) := by decide +kernel
theorem dX12_readsPattern_42 : decode cX12_readsPattern 42 = .ok (.dup, 1) := by decide +kernel
theorem dX12_readsPattern_43 : decode cX12_readsPattern 43 = .ok (.getfield 186, 3) := by decide +kernel
theorem dX12_readsPattern_46 : decode cX12_readsPattern 46 = .ok (.iconst 1, 1) := by decide +kernel
theorem dX12_readsPattern_47 : decode cX12_readsPattern 47 = .ok (.iadd, 1) := by decide +kernel
theorem dX12_readsPattern_48 : decode cX12_readsPattern 48 = .ok (.putfield 186, 3) := by decide +kernel
theorem dX12_readsPattern_51 : decode cX12_readsPattern 51 = .ok (.goto (-34), 3) := by decide +kernel
theorem dX12_readsPattern_54 : decode cX12_readsPattern 54 = .ok (.iload_n 1, 1) := by decide +kernel
theorem dX12_readsPattern_55 : decode cX12_readsPattern 55 = .ok (.iconst 1, 1) := by decide +kernel
theorem dX12_readsPattern_56 : decode cX12_readsPattern 56 = .ok (.if_icmp .ne 20, 3) := by decide +kernel
theorem dX12_readsPattern_59 : decode cX12_readsPattern 59 = .ok (.aload_n 0, 1) := by decide +kernel
theorem dX12_readsPattern_60 : decode cX12_readsPattern 60 = .ok (.invokevirtual 189, 3) := by decide +kernel
theorem dX12_readsPattern_63 : decode cX12_readsPattern 63 = .ok (.ifCond .ne 5, 3) := by decide +kernel
theorem dX12_readsPattern_66 : decode cX12_readsPattern 66 = .ok (.iconst 0, 1) := by decide +kernel
theorem dX12_readsPattern_67 : decode cX12_readsPattern 67 = .ok (.ireturn, 1) := by decide +kernel
theorem dX12_readsPattern_68 : decode cX12_readsPattern 68 = .ok (.aload_n 0, 1) := by decide +kernel
theorem dX12_readsPattern_69 : decode cX12_readsPattern 69 = .ok (.invokevirtual 193, 3) := by decide +kernel
theorem dX12_readsPattern_72 : decode cX12_readsPattern 72 = .ok (.istore_n 1, 1) := by decide +kernel
theorem dX12_readsPattern_73 : decode cX12_readsPattern 73 = .ok (.goto (-56), 3) := by decide +kernel
theorem dX12_readsPattern_76 : decode cX12_readsPattern 76 = .ok (.aload_n 0, 1) := by decide +kernel
theorem dX12_readsPattern_77 : decode cX12_readsPattern 77 = .ok (.invokevirtual 193, 3) := by decide +kernel
theorem dX12_readsPattern_80 : decode cX12_readsPattern 80 = .ok (.istore_n 1, 1) := by decide +kernel
theorem dX12_readsPattern_81 : decode cX12_readsPattern 81 = .ok (.goto (-64), 3) := by decide +kernel
theorem dX12_readsPattern_84 : decode cX12_readsPattern 84 = .ok (.aload_n 0, 1) := by decide +kernel
theorem dX12_readsPattern_85 : decode cX12_readsPattern 85 = .ok (.getfield 186, 3) := by decide +kernel
theorem dX12_readsPattern_88 : decode cX12_readsPattern 88 = .ok (.ifCond .le 5, 3) := by decide +kernel
theorem dX12_readsPattern_91 : decode cX12_readsPattern 91 = .ok (.iconst 0, 1) := by decide +kernel
theorem dX12_readsPattern_92 : decode cX12_readsPattern 92 = .ok (.ireturn, 1) := by decide +kernel
theorem dX12_readsPattern_93 : decode cX12_readsPattern 93 = .ok (.aload_n 0, 1) := by decide +kernel
theorem dX12_readsPattern_94 : decode cX12_readsPattern 94 = .ok (.iconst 5, 1) := by decide +kernel
theorem dX12_readsPattern_95 : decode cX12_readsPattern 95 = .ok (.invokevirtual 177, 3) := by decide +kernel
theorem dX12_readsPattern_98 : decode cX12_readsPattern 98 = .ok (.iconst 1, 1) := by decide +kernel
theorem dX12_readsPattern_99 : decode cX12_readsPattern 99 = .ok (.ireturn, 1) := by decide +kernel
theorem dX12_define_0 : decode cX12_define 0 = .ok (.aload_n 0, 1) := by decide +kernel
theorem dX12_define_1 : decode cX12_define 1 = .ok (.iconst 0, 1) := by decide +kernel
theorem dX12_define_2 : decode cX12_define 2 = .ok (.putfield 117, 3) := by decide +kernel
theorem dX12_define_5 : decode cX12_define 5 = .ok (.iload_n 1, 1) := by decide +kernel
theorem dX12_define_6 : decode cX12_define 6 = .ok (.invokestatic 136, 3) := by decide +kernel
theorem dX12_define_9 : decode cX12_define 9 = .ok (.ifCond .ne 9, 3) := by decide +kernel
theorem dX12_define_12 : decode cX12_define 12 = .ok (.aload_n 0, 1) := by decide +kernel
theorem dX12_define_13 : decode cX12_define 13 = .ok (.iconst 1, 1) := by decide +kernel
theorem dX12_define_14 : decode cX12_define 14 = .ok (.invokevirtual 196, 3) := by decide +kernel
theorem dX12_define_17 : decode cX12_define 17 = .ok (.ireturn, 1) := by decide +kernel
theorem dX12_define_18 : decode cX12_define 18 = .ok (.aload_n 0, 1) := by decide +kernel
theorem dX12_define_19 : decode cX12_define 19 = .ok (.iconst 0, 1) := by decide +kernel
theorem dX12_define_20 : decode cX12_define 20 = .ok (.putfield 162, 3) := by decide +kernel
theorem dX12_define_23 : decode cX12_define 23 = .ok (.aload_n 0, 1) := by decide +kernel
theorem dX12_define_24 : decode cX12_define 24 = .ok (.invokevirtual 199, 3) := by decide +kernel
theorem dX12_define_27 : decode cX12_define 27 = .ok (.ifCond .eq 18, 3) := by decide +kernel
theorem dX12_define_30 : decode cX12_define 30 = .ok (.aload_n 0, 1) := by decide +kernel
theorem dX12_define_31 : decode cX12_define 31 = .ok (.getfield 162, 3) := by decide +kernel
theorem dX12_define_34 : decode cX12_define 34 = .ok (.aload_n 0, 1) := by decide +kernel
theorem dX12_define_35 : decode cX12_define 35 = .ok (.getfield 165, 3) := by decide +kernel
theorem dX12_define_38 : decode cX12_define 38 = .ok (.if_icmp .ne 7, 3) := by decide +kernel
theorem dX12_define_41 : decode cX12_define 41 = .ok (.iconst 1, 1) := by decide +kernel
theorem dX12_define_42 : decode cX12_define 42 = .ok (.goto 4, 3) := by decide +kernel
theorem dX12_define_45 : decode cX12_define 45 = .ok (.iconst 0, 1) := by decide +kernel
theorem dX12_define_46 : decode cX12_define 46 = .ok (.istore_n 2, 1) := by decide +kernel
theorem dX12_define_47 : decode cX12_define 47 = .ok (.aload_n 0, 1) := by decide +kernel
theorem dX12_define_48 : decode cX12_define 48 = .ok (.iconst 0, 1) := by decide +kernel
theorem dX12_define_49 : decode cX12_define 49 = .ok (.putfield 165, 3) := by decide +kernel
theorem dX12_define_52 : decode cX12_define 52 = .ok (.iload_n 2, 1) := by decide +kernel
theorem dX12_define_53 : decode cX12_define 53 = .ok (.ifCond .ne 17, 3) := by decide +kernel
theorem dX12_define_56 : decode cX12_define 56 = .ok (.aload_n 0, 1) := by decide +kernel
theorem dX12_define_57 : decode cX12_define 57 = .ok (.aload_n 0, 1) := by decide +kernel
theorem dX12_define_58 : decode cX12_define 58 = .ok (.getfield 162, 3) := by decide +kernel
theorem dX12_define_61 : decode cX12_define 61 = .ok (.putfield 29, 3) := by decide +kernel
theorem dX12_define_64 : decode cX12_define 64 = .ok (.aload_n 0, 1) := by decide +kernel
theorem dX12_define_65 : decode cX12_define 65 = .ok (.iconst 2, 1) := by decide +kernel
theorem dX12_define_66 : decode cX12_define 66 = .ok (.invokevirtual 196, 3) := by decide +kernel
theorem dX12_define_69 : decode cX12_define 69 = .ok (.ireturn, 1) := by decide +kernel
theorem dX12_define_70 : decode cX12_define 70 = .ok (.aload_n 0, 1) := by decide +kernel
theorem dX12_define_71 : decode cX12_define 71 = .ok (.invokevirtual 202, 3) := by decide +kernel
theorem dX12_define_74 : decode cX12_define 74 = .ok (.ifCond .eq 9, 3) := by decide +kernel
theorem dX12_define_77 : decode cX12_define 77 = .ok (.aload_n 0, 1) := by decide +kernel
theorem dX12_define_78 : decode cX12_define 78 = .ok (.iconst 3, 1) := by decide +kernel
theorem dX12_define_79 : decode cX12_define 79 = .ok (.invokevirtual 196, 3) := by decide +kernel
theorem dX12_define_82 : decode cX12_define 82 = .ok (.ireturn, 1) := by decide +kernel
theorem dX12_define_83 : decode cX12_define 83 = .ok (.aload_n 0, 1) := by decide +kernel
theorem dX12_define_84 : decode cX12_define 84 = .ok (.invokevirtual 205, 3) := by decide +kernel
theorem dX12_define_87 : decode cX12_define 87 = .ok (.aload_n 0, 1) := by decide +kernel
theorem dX12_define_88 : decode cX12_define 88 = .ok (.iload_n 1, 1) := by decide +kernel
theorem dX12_define_89 : decode cX12_define 89 = .ok (.invokevirtual 208, 3) := by decide +kernel
theorem dX12_define_92 : decode cX12_define 92 = .ok (.ireturn, 1) := by decide +kernel
theorem dX12_notTwo_0 : decode cX12_notTwo 0 = .ok (.iload_n 1, 1) := by decide +kernel
theorem dX12_notTwo_1 : decode cX12_notTwo 1 = .ok (.invokestatic 136, 3) := by decide +kernel
theorem dX12_notTwo_4 : decode cX12_notTwo 4 = .ok (.ifCond .eq 17, 3) := by decide +kernel
theorem dX12_notTwo_7 : decode cX12_notTwo 7 = .ok (.iload_n 2, 1) := by decide +kernel
theorem dX12_notTwo_8 : decode cX12_notTwo 8 = .ok (.invokestatic 136, 3) := by decide +kernel
theorem dX12_notTwo_11 : decode cX12_notTwo 11 = .ok (.ifCond .eq 10, 3) := by decide +kernel
theorem dX12_notTwo_14 : decode cX12_notTwo 14 = .ok (.iload_n 3, 1) := by decide +kernel
theorem dX12_notTwo_15 : decode cX12_notTwo 15 = .ok (.invokestatic 136, 3) := by decide +kernel
theorem dX12_notTwo_18 : decode cX12_notTwo 18 = .ok (.ifCond .ne 5, 3) := by decide +kernel
theorem dX12_notTwo_21 : decode cX12_notTwo 21 = .ok (.iconst 1, 1) := by decide +kernel
theorem dX12_notTwo_22 : decode cX12_notTwo 22 = .ok (.ireturn, 1) := by decide +kernel
theorem dX12_notTwo_23 : decode cX12_notTwo 23 = .ok (.aload_n 0, 1) := by decide +kernel
theorem dX12_notTwo_24 : decode cX12_notTwo 24 = .ok (.iload_n 2, 1) := by decide +kernel
theorem dX12_notTwo_25 : decode cX12_notTwo 25 = .ok (.invokevirtual 211, 3) := by decide +kernel
theorem dX12_notTwo_28 : decode cX12_notTwo 28 = .ok (.ifCond .eq 11, 3) := by decide +kernel
theorem dX12_notTwo_31 : decode cX12_notTwo 31 = .ok (.aload_n 0, 1) := by decide +kernel
theorem dX12_notTwo_32 : decode cX12_notTwo 32 = .ok (.iload_n 3, 1) := by decide +kernel
theorem dX12_notTwo_33 : decode cX12_notTwo 33 = .ok (.invokevirtual 211, 3) := by decide +kernel
theorem dX12_notTwo_36 : decode cX12_notTwo 36 = .ok (.ifCond .ne 5, 3) := by decide +kernel
theorem dX12_notTwo_39 : decode cX12_notTwo 39 = .ok (.iconst 2, 1) := by decide +kernel
theorem dX12_notTwo_40 : decode cX12_notTwo 40 = .ok (.ireturn, 1) := by decide +kernel
theorem dX12_notTwo_41 : decode cX12_notTwo 41 = .ok (.aload_n 0, 1) := by decide +kernel
theorem dX12_notTwo_42 : decode cX12_notTwo 42 = .ok (.iconst 0, 1) := by decide +kernel
theorem dX12_notTwo_43 : decode cX12_notTwo 43 = .ok (.putfield 144, 3) := by decide +kernel
theorem dX12_notTwo_46 : decode cX12_notTwo 46 = .ok (.aload_n 0, 1) := by decide +kernel
theorem dX12_notTwo_47 : decode cX12_notTwo 47 = .ok (.iload_n 2, 1) := by decide +kernel
theorem dX12_notTwo_48 : decode cX12_notTwo 48 = .ok (.invokevirtual 214, 3) := by decide +kernel
theorem dX12_notTwo_51 : decode cX12_notTwo 51 = .ok (.aload_n 0, 1) := by decide +kernel
theorem dX12_notTwo_52 : decode cX12_notTwo 52 = .ok (.iload_n 3, 1) := by decide +kernel
theorem dX12_notTwo_53 : decode cX12_notTwo 53 = .ok (.invokevirtual 214, 3) := by decide +kernel
theorem dX12_notTwo_56 : decode cX12_notTwo 56 = .ok (.aload_n 0, 1) := by decide +kernel
theorem dX12_notTwo_57 : decode cX12_notTwo 57 = .ok (.iload 4, 2) := by decide +kernel
theorem dX12_notTwo_59 : decode cX12_notTwo 59 = .ok (.invokevirtual 151, 3) := by decide +kernel
theorem dX12_notTwo_62 : decode cX12_notTwo 62 = .ok (.aload_n 0, 1) := by decide +kernel
theorem dX12_notTwo_63 : decode cX12_notTwo 63 = .ok (.invokevirtual 202, 3) := by decide +kernel
theorem dX12_notTwo_66 : decode cX12_notTwo 66 = .ok (.ifCond .eq 7, 3) := by decide +kernel
theorem dX12_notTwo_69 : decode cX12_notTwo 69 = .ok (.iconst 3, 1) := by decide +kernel
theorem dX12_notTwo_70 : decode cX12_notTwo 70 = .ok (.goto 4, 3) := by decide +kernel
theorem dX12_notTwo_73 : decode cX12_notTwo 73 = .ok (.iconst 0, 1) := by decide +kernel
theorem dX12_notTwo_74 : decode cX12_notTwo 74 = .ok (.ireturn, 1) := by decide +kernel
theorem dX12_makes_0 : decode cX12_makes 0 = .ok (.aload_n 0, 1) := by decide +kernel
theorem dX12_makes_1 : decode cX12_makes 1 = .ok (.iconst 0, 1) := by decide +kernel
theorem dX12_makes_2 : decode cX12_makes 2 = .ok (.putfield 117, 3) := by decide +kernel
theorem dX12_makes_5 : decode cX12_makes 5 = .ok (.aload_n 0, 1) := by decide +kernel
theorem dX12_makes_6 : decode cX12_makes 6 = .ok (.iload_n 1, 1) := by decide +kernel
theorem dX12_makes_7 : decode cX12_makes 7 = .ok (.iload_n 2, 1) := by decide +kernel
theorem dX12_makes_8 : decode cX12_makes 8 = .ok (.iload_n 3, 1) := by decide +kernel
theorem dX12_makes_9 : decode cX12_makes 9 = .ok (.iload 4, 2) := by decide +kernel
theorem dX12_makes_11 : decode cX12_makes 11 = .ok (.invokevirtual 217, 3) := by decide +kernel
theorem dX12_makes_14 : decode cX12_makes 14 = .ok (.istore 5, 2) := by decide +kernel
theorem dX12_makes_16 : decode cX12_makes 16 = .ok (.iload 5, 2) := by decide +kernel
theorem dX12_makes_18 : decode cX12_makes 18 = .ok (.ifCond .eq 10, 3) := by decide +kernel
theorem dX12_makes_21 : decode cX12_makes 21 = .ok (.aload_n 0, 1) := by decide +kernel
theorem dX12_makes_22 : decode cX12_makes 22 = .ok (.iload 5, 2) := by decide +kernel
theorem dX12_makes_24 : decode cX12_makes 24 = .ok (.invokevirtual 196, 3) := by decide +kernel
theorem dX12_makes_27 : decode cX12_makes 27 = .ok (.ireturn, 1) := by decide +kernel
theorem dX12_makes_28 : decode cX12_makes 28 = .ok (.aload_n 0, 1) := by decide +kernel
theorem dX12_makes_29 : decode cX12_makes 29 = .ok (.invokevirtual 205, 3) := by decide +kernel
theorem dX12_makes_32 : decode cX12_makes 32 = .ok (.aload_n 0, 1) := by decide +kernel
theorem dX12_makes_33 : decode cX12_makes 33 = .ok (.iload_n 1, 1) := by decide +kernel
theorem dX12_makes_34 : decode cX12_makes 34 = .ok (.invokevirtual 208, 3) := by decide +kernel
theorem dX12_makes_37 : decode cX12_makes 37 = .ok (.ireturn, 1) := by decide +kernel
theorem dX12_unite_0 : decode cX12_unite 0 = .ok (.aload_n 0, 1) := by decide +kernel
theorem dX12_unite_1 : decode cX12_unite 1 = .ok (.iload_n 1, 1) := by decide +kernel
theorem dX12_unite_2 : decode cX12_unite 2 = .ok (.iload_n 2, 1) := by decide +kernel
theorem dX12_unite_3 : decode cX12_unite 3 = .ok (.iload_n 3, 1) := by decide +kernel
theorem dX12_unite_4 : decode cX12_unite 4 = .ok (.iconst 5, 1) := by decide +kernel
theorem dX12_unite_5 : decode cX12_unite 5 = .ok (.invokevirtual 221, 3) := by decide +kernel
theorem dX12_unite_8 : decode cX12_unite 8 = .ok (.ireturn, 1) := by decide +kernel
theorem dX12_concatenate_0 : decode cX12_concatenate 0 = .ok (.aload_n 0, 1) := by decide +kernel
theorem dX12_concatenate_1 : decode cX12_concatenate 1 = .ok (.iload_n 1, 1) := by decide +kernel
theorem dX12_concatenate_2 : decode cX12_concatenate 2 = .ok (.iload_n 2, 1) := by decide +kernel
theorem dX12_concatenate_3 : decode cX12_concatenate 3 = .ok (.iload_n 3, 1) := by decide +kernel
theorem dX12_concatenate_4 : decode cX12_concatenate 4 = .ok (.iconst 4, 1) := by decide +kernel
theorem dX12_concatenate_5 : decode cX12_concatenate 5 = .ok (.invokevirtual 221, 3) := by decide +kernel
theorem dX12_concatenate_8 : decode cX12_concatenate 8 = .ok (.ireturn, 1) := by decide +kernel
theorem dX12_notRepeat_0 : decode cX12_notRepeat 0 = .ok (.iload_n 1, 1) := by decide +kernel
theorem dX12_notRepeat_1 : decode cX12_notRepeat 1 = .ok (.invokestatic 136, 3) := by decide +kernel
theorem dX12_notRepeat_4 : decode cX12_notRepeat 4 = .ok (.ifCond .eq 10, 3) := by decide +kernel
theorem dX12_notRepeat_7 : decode cX12_notRepeat 7 = .ok (.iload_n 2, 1) := by decide +kernel
theorem dX12_notRepeat_8 : decode cX12_notRepeat 8 = .ok (.invokestatic 136, 3) := by decide +kernel
theorem dX12_notRepeat_11 : decode cX12_notRepeat 11 = .ok (.ifCond .ne 5, 3) := by decide +kernel
theorem dX12_notRepeat_14 : decode cX12_notRepeat 14 = .ok (.iconst 1, 1) := by decide +kernel
theorem dX12_notRepeat_15 : decode cX12_notRepeat 15 = .ok (.ireturn, 1) := by decide +kernel
theorem dX12_notRepeat_16 : decode cX12_notRepeat 16 = .ok (.aload_n 0, 1) := by decide +kernel
theorem dX12_notRepeat_17 : decode cX12_notRepeat 17 = .ok (.iload_n 2, 1) := by decide +kernel
theorem dX12_notRepeat_18 : decode cX12_notRepeat 18 = .ok (.invokevirtual 211, 3) := by decide +kernel
theorem dX12_notRepeat_21 : decode cX12_notRepeat 21 = .ok (.ifCond .ne 5, 3) := by decide +kernel
theorem dX12_notRepeat_24 : decode cX12_notRepeat 24 = .ok (.iconst 2, 1) := by decide +kernel
theorem dX12_notRepeat_25 : decode cX12_notRepeat 25 = .ok (.ireturn, 1) := by decide +kernel
theorem dX12_notRepeat_26 : decode cX12_notRepeat 26 = .ok (.aload_n 0, 1) := by decide +kernel
theorem dX12_notRepeat_27 : decode cX12_notRepeat 27 = .ok (.iconst 0, 1) := by decide +kernel
theorem dX12_notRepeat_28 : decode cX12_notRepeat 28 = .ok (.putfield 144, 3) := by decide +kernel
theorem dX12_notRepeat_31 : decode cX12_notRepeat 31 = .ok (.aload_n 0, 1) := by decide +kernel
theorem dX12_notRepeat_32 : decode cX12_notRepeat 32 = .ok (.iload_n 2, 1) := by decide +kernel
theorem dX12_notRepeat_33 : decode cX12_notRepeat 33 = .ok (.invokevirtual 214, 3) := by decide +kernel
theorem dX12_notRepeat_36 : decode cX12_notRepeat 36 = .ok (.aload_n 0, 1) := by decide +kernel
theorem dX12_notRepeat_37 : decode cX12_notRepeat 37 = .ok (.bipush 6, 2) := by decide +kernel
theorem dX12_notRepeat_39 : decode cX12_notRepeat 39 = .ok (.invokevirtual 151, 3) := by decide +kernel
theorem dX12_notRepeat_42 : decode cX12_notRepeat 42 = .ok (.aload_n 0, 1) := by decide +kernel
theorem dX12_notRepeat_43 : decode cX12_notRepeat 43 = .ok (.invokevirtual 202, 3) := by decide +kernel
theorem dX12_notRepeat_46 : decode cX12_notRepeat 46 = .ok (.ifCond .eq 7, 3) := by decide +kernel
theorem dX12_notRepeat_49 : decode cX12_notRepeat 49 = .ok (.iconst 3, 1) := by decide +kernel
theorem dX12_notRepeat_50 : decode cX12_notRepeat 50 = .ok (.goto 4, 3) := by decide +kernel
theorem dX12_notRepeat_53 : decode cX12_notRepeat 53 = .ok (.iconst 0, 1) := by decide +kernel
theorem dX12_notRepeat_54 : decode cX12_notRepeat 54 = .ok (.ireturn, 1) := by decide +kernel
theorem dX12_repeat_0 : decode cX12_repeat 0 = .ok (.aload_n 0, 1) := by decide +kernel
theorem dX12_repeat_1 : decode cX12_repeat 1 = .ok (.iconst 0, 1) := by decide +kernel
theorem dX12_repeat_2 : decode cX12_repeat 2 = .ok (.putfield 117, 3) := by decide +kernel
theorem dX12_repeat_5 : decode cX12_repeat 5 = .ok (.aload_n 0, 1) := by decide +kernel
theorem dX12_repeat_6 : decode cX12_repeat 6 = .ok (.iload_n 1, 1) := by decide +kernel
theorem dX12_repeat_7 : decode cX12_repeat 7 = .ok (.iload_n 2, 1) := by decide +kernel
theorem dX12_repeat_8 : decode cX12_repeat 8 = .ok (.invokevirtual 224, 3) := by decide +kernel
theorem dX12_repeat_11 : decode cX12_repeat 11 = .ok (.istore_n 3, 1) := by decide +kernel
theorem dX12_repeat_12 : decode cX12_repeat 12 = .ok (.iload_n 3, 1) := by decide +kernel
theorem dX12_repeat_13 : decode cX12_repeat 13 = .ok (.ifCond .eq 9, 3) := by decide +kernel
theorem dX12_repeat_16 : decode cX12_repeat 16 = .ok (.aload_n 0, 1) := by decide +kernel
theorem dX12_repeat_17 : decode cX12_repeat 17 = .ok (.iload_n 3, 1) := by decide +kernel
theorem dX12_repeat_18 : decode cX12_repeat 18 = .ok (.invokevirtual 196, 3) := by decide +kernel
theorem dX12_repeat_21 : decode cX12_repeat 21 = .ok (.ireturn, 1) := by decide +kernel
theorem dX12_repeat_22 : decode cX12_repeat 22 = .ok (.aload_n 0, 1) := by decide +kernel
theorem dX12_repeat_23 : decode cX12_repeat 23 = .ok (.invokevirtual 205, 3) := by decide +kernel
theorem dX12_repeat_26 : decode cX12_repeat 26 = .ok (.aload_n 0, 1) := by decide +kernel
theorem dX12_repeat_27 : decode cX12_repeat 27 = .ok (.iload_n 1, 1) := by decide +kernel
theorem dX12_repeat_28 : decode cX12_repeat 28 = .ok (.invokevirtual 208, 3) := by decide +kernel
theorem dX12_repeat_31 : decode cX12_repeat 31 = .ok (.ireturn, 1) := by decide +kernel
theorem dX12_patterns_0 : decode cX12_patterns 0 = .ok (.iconst 0, 1) := by decide +kernel
theorem dX12_patterns_1 : decode cX12_patterns 1 = .ok (.istore_n 1, 1) := by decide +kernel
theorem dX12_patterns_2 : decode cX12_patterns 2 = .ok (.iconst 0, 1) := by decide +kernel
theorem dX12_patterns_3 : decode cX12_patterns 3 = .ok (.istore_n 2, 1) := by decide +kernel
theorem dX12_patterns_4 : decode cX12_patterns 4 = .ok (.iload_n 2, 1) := by decide +kernel
theorem dX12_patterns_5 : decode cX12_patterns 5 = .ok (.bipush 6, 2) := by decide +kernel
theorem dX12_patterns_7 : decode cX12_patterns 7 = .ok (.if_icmp .ge 25, 3) := by decide +kernel
theorem dX12_patterns_10 : decode cX12_patterns 10 = .ok (.iload_n 1, 1) := by decide +kernel
theorem dX12_patterns_11 : decode cX12_patterns 11 = .ok (.aload_n 0, 1) := by decide +kernel
theorem dX12_patterns_12 : decode cX12_patterns 12 = .ok (.iload_n 2, 1) := by decide +kernel
theorem dX12_patterns_13 : decode cX12_patterns 13 = .ok (.invokevirtual 140, 3) := by decide +kernel
theorem dX12_patterns_16 : decode cX12_patterns 16 = .ok (.ifCond .le 7, 3) := by decide +kernel
theorem dX12_patterns_19 : decode cX12_patterns 19 = .ok (.iconst 1, 1) := by decide +kernel
theorem dX12_patterns_20 : decode cX12_patterns 20 = .ok (.goto 4, 3) := by decide +kernel
theorem dX12_patterns_23 : decode cX12_patterns 23 = .ok (.iconst 0, 1) := by decide +kernel
theorem dX12_patterns_24 : decode cX12_patterns 24 = .ok (.iadd, 1) := by decide +kernel
theorem dX12_patterns_25 : decode cX12_patterns 25 = .ok (.istore_n 1, 1) := by decide +kernel
theorem dX12_patterns_26 : decode cX12_patterns 26 = .ok (.iinc 2 1, 3) := by decide +kernel
theorem dX12_patterns_29 : decode cX12_patterns 29 = .ok (.goto (-25), 3) := by decide +kernel
theorem dX12_patterns_32 : decode cX12_patterns 32 = .ok (.iload_n 1, 1) := by decide +kernel
theorem dX12_patterns_33 : decode cX12_patterns 33 = .ok (.ireturn, 1) := by decide +kernel
theorem dX12_notRemove_0 : decode cX12_notRemove 0 = .ok (.iload_n 1, 1) := by decide +kernel
theorem dX12_notRemove_1 : decode cX12_notRemove 1 = .ok (.invokestatic 136, 3) := by decide +kernel
theorem dX12_notRemove_4 : decode cX12_notRemove 4 = .ok (.ifCond .ne 5, 3) := by decide +kernel
theorem dX12_notRemove_7 : decode cX12_notRemove 7 = .ok (.iconst 1, 1) := by decide +kernel
theorem dX12_notRemove_8 : decode cX12_notRemove 8 = .ok (.ireturn, 1) := by decide +kernel
theorem dX12_notRemove_9 : decode cX12_notRemove 9 = .ok (.aload_n 0, 1) := by decide +kernel
theorem dX12_notRemove_10 : decode cX12_notRemove 10 = .ok (.iload_n 1, 1) := by decide +kernel
theorem dX12_notRemove_11 : decode cX12_notRemove 11 = .ok (.invokevirtual 211, 3) := by decide +kernel
theorem dX12_notRemove_14 : decode cX12_notRemove 14 = .ok (.ifCond .eq 7, 3) := by decide +kernel
theorem dX12_notRemove_17 : decode cX12_notRemove 17 = .ok (.iconst 0, 1) := by decide +kernel
theorem dX12_notRemove_18 : decode cX12_notRemove 18 = .ok (.goto 4, 3) := by decide +kernel
theorem dX12_notRemove_21 : decode cX12_notRemove 21 = .ok (.iconst 2, 1) := by decide +kernel
theorem dX12_notRemove_22 : decode cX12_notRemove 22 = .ok (.ireturn, 1) := by decide +kernel
theorem dX12_removes_0 : decode cX12_removes 0 = .ok (.iconst 0, 1) := by decide +kernel
theorem dX12_removes_1 : decode cX12_removes 1 = .ok (.istore_n 2, 1) := by decide +kernel
theorem dX12_removes_2 : decode cX12_removes 2 = .ok (.iload_n 2, 1) := by decide +kernel
theorem dX12_removes_3 : decode cX12_removes 3 = .ok (.bipush 29, 2) := by decide +kernel
theorem dX12_removes_5 : decode cX12_removes 5 = .ok (.if_icmp .ge 23, 3) := by decide +kernel
theorem dX12_removes_8 : decode cX12_removes 8 = .ok (.aload_n 0, 1) := by decide +kernel
theorem dX12_removes_9 : decode cX12_removes 9 = .ok (.getfield 7, 3) := by decide +kernel
theorem dX12_removes_12 : decode cX12_removes 12 = .ok (.iconst 2, 1) := by decide +kernel
theorem dX12_removes_13 : decode cX12_removes 13 = .ok (.bipush 29, 2) := by decide +kernel
theorem dX12_removes_15 : decode cX12_removes 15 = .ok (.iload_n 1, 1) := by decide +kernel
theorem dX12_removes_16 : decode cX12_removes 16 = .ok (.imul, 1) := by decide +kernel
theorem dX12_removes_17 : decode cX12_removes 17 = .ok (.iadd, 1) := by decide +kernel
theorem dX12_removes_18 : decode cX12_removes 18 = .ok (.iload_n 2, 1) := by decide +kernel
theorem dX12_removes_19 : decode cX12_removes 19 = .ok (.iadd, 1) := by decide +kernel
theorem dX12_removes_20 : decode cX12_removes 20 = .ok (.iconst 0, 1) := by decide +kernel
theorem dX12_removes_21 : decode cX12_removes 21 = .ok (.iastore, 1) := by decide +kernel
theorem dX12_removes_22 : decode cX12_removes 22 = .ok (.iinc 2 1, 3) := by decide +kernel
theorem dX12_removes_25 : decode cX12_removes 25 = .ok (.goto (-23), 3) := by decide +kernel
theorem dX12_removes_28 : decode cX12_removes 28 = .ok (.aload_n 0, 1) := by decide +kernel
theorem dX12_removes_29 : decode cX12_removes 29 = .ok (.invokevirtual 227, 3) := by decide +kernel
theorem dX12_removes_32 : decode cX12_removes 32 = .ok (.ireturn, 1) := by decide +kernel
theorem dX12_remove_0 : decode cX12_remove 0 = .ok (.aload_n 0, 1) := by decide +kernel
theorem dX12_remove_1 : decode cX12_remove 1 = .ok (.iconst 0, 1) := by decide +kernel
theorem dX12_remove_2 : decode cX12_remove 2 = .ok (.putfield 117, 3) := by decide +kernel
theorem dX12_remove_5 : decode cX12_remove 5 = .ok (.aload_n 0, 1) := by decide +kernel
theorem dX12_remove_6 : decode cX12_remove 6 = .ok (.iload_n 1, 1) := by decide +kernel
theorem dX12_remove_7 : decode cX12_remove 7 = .ok (.invokevirtual 230, 3) := by decide +kernel
theorem dX12_remove_10 : decode cX12_remove 10 = .ok (.istore_n 2, 1) := by decide +kernel
theorem dX12_remove_11 : decode cX12_remove 11 = .ok (.iload_n 2, 1) := by decide +kernel
theorem dX12_remove_12 : decode cX12_remove 12 = .ok (.ifCond .eq 9, 3) := by decide +kernel
theorem dX12_remove_15 : decode cX12_remove 15 = .ok (.aload_n 0, 1) := by decide +kernel
theorem dX12_remove_16 : decode cX12_remove 16 = .ok (.iload_n 2, 1) := by decide +kernel
theorem dX12_remove_17 : decode cX12_remove 17 = .ok (.invokevirtual 196, 3) := by decide +kernel
theorem dX12_remove_20 : decode cX12_remove 20 = .ok (.ireturn, 1) := by decide +kernel
theorem dX12_remove_21 : decode cX12_remove 21 = .ok (.aload_n 0, 1) := by decide +kernel
theorem dX12_remove_22 : decode cX12_remove 22 = .ok (.invokevirtual 205, 3) := by decide +kernel
theorem dX12_remove_25 : decode cX12_remove 25 = .ok (.aload_n 0, 1) := by decide +kernel
theorem dX12_remove_26 : decode cX12_remove 26 = .ok (.iload_n 1, 1) := by decide +kernel
theorem dX12_remove_27 : decode cX12_remove 27 = .ok (.invokevirtual 233, 3) := by decide +kernel
theorem dX12_remove_30 : decode cX12_remove 30 = .ok (.ireturn, 1) := by decide +kernel
theorem dX12_takesWord_0 : decode cX12_takesWord 0 = .ok (.aload_n 0, 1) := by decide +kernel
theorem dX12_takesWord_1 : decode cX12_takesWord 1 = .ok (.iload_n 2, 1) := by decide +kernel
theorem dX12_takesWord_2 : decode cX12_takesWord 2 = .ok (.iload_n 1, 1) := by decide +kernel
theorem dX12_takesWord_3 : decode cX12_takesWord 3 = .ok (.isub, 1) := by decide +kernel
theorem dX12_takesWord_4 : decode cX12_takesWord 4 = .ok (.putfield 236, 3) := by decide +kernel
theorem dX12_takesWord_7 : decode cX12_takesWord 7 = .ok (.iconst 1, 1) := by decide +kernel
theorem dX12_takesWord_8 : decode cX12_takesWord 8 = .ok (.istore_n 3, 1) := by decide +kernel
theorem dX12_takesWord_9 : decode cX12_takesWord 9 = .ok (.iload_n 1, 1) := by decide +kernel
theorem dX12_takesWord_10 : decode cX12_takesWord 10 = .ok (.istore 4, 2) := by decide +kernel
theorem dX12_takesWord_12 : decode cX12_takesWord 12 = .ok (.iload 4, 2) := by decide +kernel
theorem dX12_takesWord_14 : decode cX12_takesWord 14 = .ok (.iload_n 2, 1) := by decide +kernel
theorem dX12_takesWord_15 : decode cX12_takesWord 15 = .ok (.if_icmp .ge 45, 3) := by decide +kernel
theorem dX12_takesWord_18 : decode cX12_takesWord 18 = .ok (.aload_n 0, 1) := by decide +kernel
theorem dX12_takesWord_19 : decode cX12_takesWord 19 = .ok (.getfield 39, 3) := by decide +kernel
theorem dX12_takesWord_22 : decode cX12_takesWord 22 = .ok (.iload 4, 2) := by decide +kernel
theorem dX12_takesWord_24 : decode cX12_takesWord 24 = .ok (.iload_n 1, 1) := by decide +kernel
theorem dX12_takesWord_25 : decode cX12_takesWord 25 = .ok (.isub, 1) := by decide +kernel
theorem dX12_takesWord_26 : decode cX12_takesWord 26 = .ok (.aload_n 0, 1) := by decide +kernel
theorem dX12_takesWord_27 : decode cX12_takesWord 27 = .ok (.getfield 25, 3) := by decide +kernel
theorem dX12_takesWord_30 : decode cX12_takesWord 30 = .ok (.iload 4, 2) := by decide +kernel
theorem dX12_takesWord_32 : decode cX12_takesWord 32 = .ok (.caload, 1) := by decide +kernel
theorem dX12_takesWord_33 : decode cX12_takesWord 33 = .ok (.bipush 97, 2) := by decide +kernel
theorem dX12_takesWord_35 : decode cX12_takesWord 35 = .ok (.isub, 1) := by decide +kernel
theorem dX12_takesWord_36 : decode cX12_takesWord 36 = .ok (.iastore, 1) := by decide +kernel
theorem dX12_takesWord_37 : decode cX12_takesWord 37 = .ok (.iload_n 3, 1) := by decide +kernel
theorem dX12_takesWord_38 : decode cX12_takesWord 38 = .ok (.aload_n 0, 1) := by decide +kernel
theorem dX12_takesWord_39 : decode cX12_takesWord 39 = .ok (.getfield 25, 3) := by decide +kernel
theorem dX12_takesWord_42 : decode cX12_takesWord 42 = .ok (.iload 4, 2) := by decide +kernel
theorem dX12_takesWord_44 : decode cX12_takesWord 44 = .ok (.caload, 1) := by decide +kernel
theorem dX12_takesWord_45 : decode cX12_takesWord 45 = .ok (.bipush 97, 2) := by decide +kernel
theorem dX12_takesWord_47 : decode cX12_takesWord 47 = .ok (.bipush 99, 2) := by decide +kernel
theorem dX12_takesWord_49 : decode cX12_takesWord 49 = .ok (.invokestatic 132, 3) := by decide +kernel
theorem dX12_takesWord_52 : decode cX12_takesWord 52 = .ok (.iand, 1) := by decide +kernel
theorem dX12_takesWord_53 : decode cX12_takesWord 53 = .ok (.istore_n 3, 1) := by decide +kernel
theorem dX12_takesWord_54 : decode cX12_takesWord 54 = .ok (.iinc 4 1, 3) := by decide +kernel
theorem dX12_takesWord_57 : decode cX12_takesWord 57 = .ok (.goto (-45), 3) := by decide +kernel
theorem dX12_takesWord_60 : decode cX12_takesWord 60 = .ok (.iload_n 3, 1) := by decide +kernel
theorem dX12_takesWord_61 : decode cX12_takesWord 61 = .ok (.ireturn, 1) := by decide +kernel
theorem dX12_notWord_0 : decode cX12_notWord 0 = .ok (.iload_n 1, 1) := by decide +kernel
theorem dX12_notWord_1 : decode cX12_notWord 1 = .ok (.ifCond .eq 16, 3) := by decide +kernel
theorem dX12_notWord_4 : decode cX12_notWord 4 = .ok (.aload_n 0, 1) := by decide +kernel
theorem dX12_notWord_5 : decode cX12_notWord 5 = .ok (.getfield 236, 3) := by decide +kernel
theorem dX12_notWord_8 : decode cX12_notWord 8 = .ok (.iconst 1, 1) := by decide +kernel
theorem dX12_notWord_9 : decode cX12_notWord 9 = .ok (.bipush 8, 2) := by decide +kernel
theorem dX12_notWord_11 : decode cX12_notWord 11 = .ok (.invokestatic 132, 3) := by decide +kernel
theorem dX12_notWord_14 : decode cX12_notWord 14 = .ok (.ifCond .ne 5, 3) := by decide +kernel
theorem dX12_notWord_17 : decode cX12_notWord 17 = .ok (.iconst 1, 1) := by decide +kernel
theorem dX12_notWord_18 : decode cX12_notWord 18 = .ok (.ireturn, 1) := by decide +kernel
theorem dX12_notWord_19 : decode cX12_notWord 19 = .ok (.aload_n 0, 1) := by decide +kernel
theorem dX12_notWord_20 : decode cX12_notWord 20 = .ok (.getfield 7, 3) := by decide +kernel
theorem dX12_notWord_23 : decode cX12_notWord 23 = .ok (.iconst 1, 1) := by decide +kernel
theorem dX12_notWord_24 : decode cX12_notWord 24 = .ok (.iaload, 1) := by decide +kernel
theorem dX12_notWord_25 : decode cX12_notWord 25 = .ok (.bipush 8, 2) := by decide +kernel
theorem dX12_notWord_27 : decode cX12_notWord 27 = .ok (.if_icmp .ne 7, 3) := by decide +kernel
theorem dX12_notWord_30 : decode cX12_notWord 30 = .ok (.iconst 2, 1) := by decide +kernel
theorem dX12_notWord_31 : decode cX12_notWord 31 = .ok (.goto 4, 3) := by decide +kernel
theorem dX12_notWord_34 : decode cX12_notWord 34 = .ok (.iconst 0, 1) := by decide +kernel
theorem dX12_notWord_35 : decode cX12_notWord 35 = .ok (.ireturn, 1) := by decide +kernel
theorem dX12_addsWord_0 : decode cX12_addsWord 0 = .ok (.sipush 176, 3) := by decide +kernel
theorem dX12_addsWord_3 : decode cX12_addsWord 3 = .ok (.bipush 9, 2) := by decide +kernel
theorem dX12_addsWord_5 : decode cX12_addsWord 5 = .ok (.aload_n 0, 1) := by decide +kernel
theorem dX12_addsWord_6 : decode cX12_addsWord 6 = .ok (.getfield 7, 3) := by decide +kernel
theorem dX12_addsWord_9 : decode cX12_addsWord 9 = .ok (.iconst 1, 1) := by decide +kernel
theorem dX12_addsWord_10 : decode cX12_addsWord 10 = .ok (.iaload, 1) := by decide +kernel
theorem dX12_addsWord_11 : decode cX12_addsWord 11 = .ok (.imul, 1) := by decide +kernel
theorem dX12_addsWord_12 : decode cX12_addsWord 12 = .ok (.iadd, 1) := by decide +kernel
theorem dX12_addsWord_13 : decode cX12_addsWord 13 = .ok (.istore_n 1, 1) := by decide +kernel
theorem dX12_addsWord_14 : decode cX12_addsWord 14 = .ok (.aload_n 0, 1) := by decide +kernel
theorem dX12_addsWord_15 : decode cX12_addsWord 15 = .ok (.getfield 7, 3) := by decide +kernel
theorem dX12_addsWord_18 : decode cX12_addsWord 18 = .ok (.iload_n 1, 1) := by decide +kernel
theorem dX12_addsWord_19 : decode cX12_addsWord 19 = .ok (.aload_n 0, 1) := by decide +kernel
theorem dX12_addsWord_20 : decode cX12_addsWord 20 = .ok (.getfield 236, 3) := by decide +kernel
theorem dX12_addsWord_23 : decode cX12_addsWord 23 = .ok (.iastore, 1) := by decide +kernel
theorem dX12_addsWord_24 : decode cX12_addsWord 24 = .ok (.iconst 0, 1) := by decide +kernel
theorem dX12_addsWord_25 : decode cX12_addsWord 25 = .ok (.istore_n 2, 1) := by decide +kernel
theorem dX12_addsWord_26 : decode cX12_addsWord 26 = .ok (.iload_n 2, 1) := by decide +kernel
theorem dX12_addsWord_27 : decode cX12_addsWord 27 = .ok (.bipush 8, 2) := by decide +kernel
theorem dX12_addsWord_29 : decode cX12_addsWord 29 = .ok (.if_icmp .ge 37, 3) := by decide +kernel
theorem dX12_addsWord_32 : decode cX12_addsWord 32 = .ok (.aload_n 0, 1) := by decide +kernel
theorem dX12_addsWord_33 : decode cX12_addsWord 33 = .ok (.getfield 7, 3) := by decide +kernel
theorem dX12_addsWord_36 : decode cX12_addsWord 36 = .ok (.iload_n 1, 1) := by decide +kernel
theorem dX12_addsWord_37 : decode cX12_addsWord 37 = .ok (.iconst 1, 1) := by decide +kernel
theorem dX12_addsWord_38 : decode cX12_addsWord 38 = .ok (.iadd, 1) := by decide +kernel
theorem dX12_addsWord_39 : decode cX12_addsWord 39 = .ok (.iload_n 2, 1) := by decide +kernel
theorem dX12_addsWord_40 : decode cX12_addsWord 40 = .ok (.iadd, 1) := by decide +kernel
theorem dX12_addsWord_41 : decode cX12_addsWord 41 = .ok (.iload_n 2, 1) := by decide +kernel
theorem dX12_addsWord_42 : decode cX12_addsWord 42 = .ok (.aload_n 0, 1) := by decide +kernel
theorem dX12_addsWord_43 : decode cX12_addsWord 43 = .ok (.getfield 236, 3) := by decide +kernel
theorem dX12_addsWord_46 : decode cX12_addsWord 46 = .ok (.if_icmp .ge 12, 3) := by decide +kernel
theorem dX12_addsWord_49 : decode cX12_addsWord 49 = .ok (.aload_n 0, 1) := by decide +kernel
theorem dX12_addsWord_50 : decode cX12_addsWord 50 = .ok (.getfield 39, 3) := by decide +kernel
theorem dX12_addsWord_53 : decode cX12_addsWord 53 = .ok (.iload_n 2, 1) := by decide +kernel
theorem dX12_addsWord_54 : decode cX12_addsWord 54 = .ok (.iaload, 1) := by decide +kernel
theorem dX12_addsWord_55 : decode cX12_addsWord 55 = .ok (.goto 4, 3) := by decide +kernel
theorem dX12_addsWord_58 : decode cX12_addsWord 58 = .ok (.iconst 0, 1) := by decide +kernel
theorem dX12_addsWord_59 : decode cX12_addsWord 59 = .ok (.iastore, 1) := by decide +kernel
theorem dX12_addsWord_60 : decode cX12_addsWord 60 = .ok (.iinc 2 1, 3) := by decide +kernel
theorem dX12_addsWord_63 : decode cX12_addsWord 63 = .ok (.goto (-37), 3) := by decide +kernel
theorem dX12_addsWord_66 : decode cX12_addsWord 66 = .ok (.aload_n 0, 1) := by decide +kernel
theorem dX12_addsWord_67 : decode cX12_addsWord 67 = .ok (.getfield 7, 3) := by decide +kernel
theorem dX12_addsWord_70 : decode cX12_addsWord 70 = .ok (.iconst 1, 1) := by decide +kernel
theorem dX12_addsWord_71 : decode cX12_addsWord 71 = .ok (.dup2, 1) := by decide +kernel
theorem dX12_addsWord_72 : decode cX12_addsWord 72 = .ok (.iaload, 1) := by decide +kernel
theorem dX12_addsWord_73 : decode cX12_addsWord 73 = .ok (.iconst 1, 1) := by decide +kernel
theorem dX12_addsWord_74 : decode cX12_addsWord 74 = .ok (.iadd, 1) := by decide +kernel
theorem dX12_addsWord_75 : decode cX12_addsWord 75 = .ok (.iastore, 1) := by decide +kernel
theorem dX12_addsWord_76 : decode cX12_addsWord 76 = .ok (.aload_n 0, 1) := by decide +kernel
theorem dX12_addsWord_77 : decode cX12_addsWord 77 = .ok (.getfield 7, 3) := by decide +kernel
theorem dX12_addsWord_80 : decode cX12_addsWord 80 = .ok (.iconst 1, 1) := by decide +kernel
theorem dX12_addsWord_81 : decode cX12_addsWord 81 = .ok (.iaload, 1) := by decide +kernel
theorem dX12_addsWord_82 : decode cX12_addsWord 82 = .ok (.iconst 1, 1) := by decide +kernel
theorem dX12_addsWord_83 : decode cX12_addsWord 83 = .ok (.isub, 1) := by decide +kernel
theorem dX12_addsWord_84 : decode cX12_addsWord 84 = .ok (.ireturn, 1) := by decide +kernel
theorem dX12_addWord_0 : decode cX12_addWord 0 = .ok (.aload_n 0, 1) := by decide +kernel
theorem dX12_addWord_1 : decode cX12_addWord 1 = .ok (.iconst 0, 1) := by decide +kernel
theorem dX12_addWord_2 : decode cX12_addWord 2 = .ok (.putfield 117, 3) := by decide +kernel
theorem dX12_addWord_5 : decode cX12_addWord 5 = .ok (.aload_n 0, 1) := by decide +kernel
theorem dX12_addWord_6 : decode cX12_addWord 6 = .ok (.aload_n 0, 1) := by decide +kernel
theorem dX12_addWord_7 : decode cX12_addWord 7 = .ok (.iconst 0, 1) := by decide +kernel
theorem dX12_addWord_8 : decode cX12_addWord 8 = .ok (.aload_n 0, 1) := by decide +kernel
theorem dX12_addWord_9 : decode cX12_addWord 9 = .ok (.getfield 165, 3) := by decide +kernel
theorem dX12_addWord_12 : decode cX12_addWord 12 = .ok (.invokevirtual 239, 3) := by decide +kernel
theorem dX12_addWord_15 : decode cX12_addWord 15 = .ok (.invokevirtual 243, 3) := by decide +kernel
theorem dX12_addWord_18 : decode cX12_addWord 18 = .ok (.istore_n 1, 1) := by decide +kernel
theorem dX12_addWord_19 : decode cX12_addWord 19 = .ok (.aload_n 0, 1) := by decide +kernel
theorem dX12_addWord_20 : decode cX12_addWord 20 = .ok (.iconst 0, 1) := by decide +kernel
theorem dX12_addWord_21 : decode cX12_addWord 21 = .ok (.putfield 165, 3) := by decide +kernel
theorem dX12_addWord_24 : decode cX12_addWord 24 = .ok (.iload_n 1, 1) := by decide +kernel
theorem dX12_addWord_25 : decode cX12_addWord 25 = .ok (.ifCond .eq 9, 3) := by decide +kernel
theorem dX12_addWord_28 : decode cX12_addWord 28 = .ok (.aload_n 0, 1) := by decide +kernel
theorem dX12_addWord_29 : decode cX12_addWord 29 = .ok (.iload_n 1, 1) := by decide +kernel
theorem dX12_addWord_30 : decode cX12_addWord 30 = .ok (.invokevirtual 196, 3) := by decide +kernel
theorem dX12_addWord_33 : decode cX12_addWord 33 = .ok (.ireturn, 1) := by decide +kernel
theorem dX12_addWord_34 : decode cX12_addWord 34 = .ok (.aload_n 0, 1) := by decide +kernel
theorem dX12_addWord_35 : decode cX12_addWord 35 = .ok (.invokevirtual 205, 3) := by decide +kernel
theorem dX12_addWord_38 : decode cX12_addWord 38 = .ok (.aload_n 0, 1) := by decide +kernel
theorem dX12_addWord_39 : decode cX12_addWord 39 = .ok (.invokevirtual 247, 3) := by decide +kernel
theorem dX12_addWord_42 : decode cX12_addWord 42 = .ok (.ireturn, 1) := by decide +kernel
theorem dX12_isWord_0 : decode cX12_isWord 0 = .ok (.iload_n 1, 1) := by decide +kernel
theorem dX12_isWord_1 : decode cX12_isWord 1 = .ok (.iconst 0, 1) := by decide +kernel
theorem dX12_isWord_2 : decode cX12_isWord 2 = .ok (.aload_n 0, 1) := by decide +kernel
theorem dX12_isWord_3 : decode cX12_isWord 3 = .ok (.getfield 7, 3) := by decide +kernel
theorem dX12_isWord_6 : decode cX12_isWord 6 = .ok (.iconst 1, 1) := by decide +kernel
theorem dX12_isWord_7 : decode cX12_isWord 7 = .ok (.iaload, 1) := by decide +kernel
theorem dX12_isWord_8 : decode cX12_isWord 8 = .ok (.iconst 1, 1) := by decide +kernel
theorem dX12_isWord_9 : decode cX12_isWord 9 = .ok (.isub, 1) := by decide +kernel
theorem dX12_isWord_10 : decode cX12_isWord 10 = .ok (.invokestatic 132, 3) := by decide +kernel
theorem dX12_isWord_13 : decode cX12_isWord 13 = .ok (.ireturn, 1) := by decide +kernel
theorem dX12_cuts_0 : decode cX12_cuts 0 = .ok (.aload_n 0, 1) := by decide +kernel
theorem dX12_cuts_1 : decode cX12_cuts 1 = .ok (.getfield 7, 3) := by decide +kernel
theorem dX12_cuts_4 : decode cX12_cuts 4 = .ok (.iconst 1, 1) := by decide +kernel
theorem dX12_cuts_5 : decode cX12_cuts 5 = .ok (.dup2, 1) := by decide +kernel
theorem dX12_cuts_6 : decode cX12_cuts 6 = .ok (.iaload, 1) := by decide +kernel
theorem dX12_cuts_7 : decode cX12_cuts 7 = .ok (.iconst 1, 1) := by decide +kernel
theorem dX12_cuts_8 : decode cX12_cuts 8 = .ok (.isub, 1) := by decide +kernel
theorem dX12_cuts_9 : decode cX12_cuts 9 = .ok (.iastore, 1) := by decide +kernel
theorem dX12_cuts_10 : decode cX12_cuts 10 = .ok (.sipush 176, 3) := by decide +kernel
theorem dX12_cuts_13 : decode cX12_cuts 13 = .ok (.bipush 9, 2) := by decide +kernel
theorem dX12_cuts_15 : decode cX12_cuts 15 = .ok (.aload_n 0, 1) := by decide +kernel
theorem dX12_cuts_16 : decode cX12_cuts 16 = .ok (.getfield 7, 3) := by decide +kernel
theorem dX12_cuts_19 : decode cX12_cuts 19 = .ok (.iconst 1, 1) := by decide +kernel
theorem dX12_cuts_20 : decode cX12_cuts 20 = .ok (.iaload, 1) := by decide +kernel
theorem dX12_cuts_21 : decode cX12_cuts 21 = .ok (.imul, 1) := by decide +kernel
theorem dX12_cuts_22 : decode cX12_cuts 22 = .ok (.iadd, 1) := by decide +kernel
theorem dX12_cuts_23 : decode cX12_cuts 23 = .ok (.istore_n 2, 1) := by decide +kernel
theorem dX12_cuts_24 : decode cX12_cuts 24 = .ok (.sipush 176, 3) := by decide +kernel
theorem dX12_cuts_27 : decode cX12_cuts 27 = .ok (.bipush 9, 2) := by decide +kernel
theorem dX12_cuts_29 : decode cX12_cuts 29 = .ok (.iload_n 1, 1) := by decide +kernel
theorem dX12_cuts_30 : decode cX12_cuts 30 = .ok (.imul, 1) := by decide +kernel
theorem dX12_cuts_31 : decode cX12_cuts 31 = .ok (.iadd, 1) := by decide +kernel
theorem dX12_cuts_32 : decode cX12_cuts 32 = .ok (.istore_n 3, 1) := by decide +kernel
theorem dX12_cuts_33 : decode cX12_cuts 33 = .ok (.iload_n 3, 1) := by decide +kernel
theorem dX12_cuts_34 : decode cX12_cuts 34 = .ok (.iload_n 2, 1) := by decide +kernel
theorem dX12_cuts_35 : decode cX12_cuts 35 = .ok (.if_icmp .ge 24, 3) := by decide +kernel
theorem dX12_cuts_38 : decode cX12_cuts 38 = .ok (.aload_n 0, 1) := by decide +kernel
theorem dX12_cuts_39 : decode cX12_cuts 39 = .ok (.getfield 7, 3) := by decide +kernel
theorem dX12_cuts_42 : decode cX12_cuts 42 = .ok (.iload_n 3, 1) := by decide +kernel
theorem dX12_cuts_43 : decode cX12_cuts 43 = .ok (.aload_n 0, 1) := by decide +kernel
theorem dX12_cuts_44 : decode cX12_cuts 44 = .ok (.getfield 7, 3) := by decide +kernel
theorem dX12_cuts_47 : decode cX12_cuts 47 = .ok (.iload_n 3, 1) := by decide +kernel
theorem dX12_cuts_48 : decode cX12_cuts 48 = .ok (.bipush 9, 2) := by decide +kernel
theorem dX12_cuts_50 : decode cX12_cuts 50 = .ok (.iadd, 1) := by decide +kernel
theorem dX12_cuts_51 : decode cX12_cuts 51 = .ok (.iaload, 1) := by decide +kernel
theorem dX12_cuts_52 : decode cX12_cuts 52 = .ok (.iastore, 1) := by decide +kernel
theorem dX12_cuts_53 : decode cX12_cuts 53 = .ok (.iinc 3 1, 3) := by decide +kernel
theorem dX12_cuts_56 : decode cX12_cuts 56 = .ok (.goto (-23), 3) := by decide +kernel
theorem dX12_cuts_59 : decode cX12_cuts 59 = .ok (.iconst 0, 1) := by decide +kernel
theorem dX12_cuts_60 : decode cX12_cuts 60 = .ok (.istore_n 3, 1) := by decide +kernel
theorem dX12_cuts_61 : decode cX12_cuts 61 = .ok (.iload_n 3, 1) := by decide +kernel
theorem dX12_cuts_62 : decode cX12_cuts 62 = .ok (.bipush 9, 2) := by decide +kernel
theorem dX12_cuts_64 : decode cX12_cuts 64 = .ok (.if_icmp .ge 18, 3) := by decide +kernel
theorem dX12_cuts_67 : decode cX12_cuts 67 = .ok (.aload_n 0, 1) := by decide +kernel
theorem dX12_cuts_68 : decode cX12_cuts 68 = .ok (.getfield 7, 3) := by decide +kernel
theorem dX12_cuts_71 : decode cX12_cuts 71 = .ok (.iload_n 2, 1) := by decide +kernel
theorem dX12_cuts_72 : decode cX12_cuts 72 = .ok (.iload_n 3, 1) := by decide +kernel
theorem dX12_cuts_73 : decode cX12_cuts 73 = .ok (.iadd, 1) := by decide +kernel
theorem dX12_cuts_74 : decode cX12_cuts 74 = .ok (.iconst 0, 1) := by decide +kernel
theorem dX12_cuts_75 : decode cX12_cuts 75 = .ok (.iastore, 1) := by decide +kernel
theorem dX12_cuts_76 : decode cX12_cuts 76 = .ok (.iinc 3 1, 3) := by decide +kernel
theorem dX12_cuts_79 : decode cX12_cuts 79 = .ok (.goto (-18), 3) := by decide +kernel
theorem dX12_cuts_82 : decode cX12_cuts 82 = .ok (.aload_n 0, 1) := by decide +kernel
theorem dX12_cuts_83 : decode cX12_cuts 83 = .ok (.getfield 7, 3) := by decide +kernel
theorem dX12_cuts_86 : decode cX12_cuts 86 = .ok (.iconst 1, 1) := by decide +kernel
theorem dX12_cuts_87 : decode cX12_cuts 87 = .ok (.iaload, 1) := by decide +kernel
theorem dX12_cuts_88 : decode cX12_cuts 88 = .ok (.ireturn, 1) := by decide +kernel
theorem dX12_removeWord_0 : decode cX12_removeWord 0 = .ok (.aload_n 0, 1) := by decide +kernel
theorem dX12_removeWord_1 : decode cX12_removeWord 1 = .ok (.iconst 0, 1) := by decide +kernel
theorem dX12_removeWord_2 : decode cX12_removeWord 2 = .ok (.putfield 117, 3) := by decide +kernel
theorem dX12_removeWord_5 : decode cX12_removeWord 5 = .ok (.aload_n 0, 1) := by decide +kernel
theorem dX12_removeWord_6 : decode cX12_removeWord 6 = .ok (.iload_n 1, 1) := by decide +kernel
theorem dX12_removeWord_7 : decode cX12_removeWord 7 = .ok (.invokevirtual 250, 3) := by decide +kernel
theorem dX12_removeWord_10 : decode cX12_removeWord 10 = .ok (.ifCond .ne 9, 3) := by decide +kernel
theorem dX12_removeWord_13 : decode cX12_removeWord 13 = .ok (.aload_n 0, 1) := by decide +kernel
theorem dX12_removeWord_14 : decode cX12_removeWord 14 = .ok (.iconst 1, 1) := by decide +kernel
theorem dX12_removeWord_15 : decode cX12_removeWord 15 = .ok (.invokevirtual 196, 3) := by decide +kernel
theorem dX12_removeWord_18 : decode cX12_removeWord 18 = .ok (.ireturn, 1) := by decide +kernel
theorem dX12_removeWord_19 : decode cX12_removeWord 19 = .ok (.aload_n 0, 1) := by decide +kernel
theorem dX12_removeWord_20 : decode cX12_removeWord 20 = .ok (.invokevirtual 205, 3) := by decide +kernel
theorem dX12_removeWord_23 : decode cX12_removeWord 23 = .ok (.aload_n 0, 1) := by decide +kernel
theorem dX12_removeWord_24 : decode cX12_removeWord 24 = .ok (.iload_n 1, 1) := by decide +kernel
theorem dX12_removeWord_25 : decode cX12_removeWord 25 = .ok (.invokevirtual 253, 3) := by decide +kernel
theorem dX12_removeWord_28 : decode cX12_removeWord 28 = .ok (.ireturn, 1) := by decide +kernel
theorem dX12_pileLetter_0 : decode cX12_pileLetter 0 = .ok (.aload_n 0, 1) := by decide +kernel
theorem dX12_pileLetter_1 : decode cX12_pileLetter 1 = .ok (.getfield 48, 3) := by decide +kernel
theorem dX12_pileLetter_4 : decode cX12_pileLetter 4 = .ok (.iconst 3, 1) := by decide +kernel
theorem dX12_pileLetter_5 : decode cX12_pileLetter 5 = .ok (.iload_n 1, 1) := by decide +kernel
theorem dX12_pileLetter_6 : decode cX12_pileLetter 6 = .ok (.imul, 1) := by decide +kernel
theorem dX12_pileLetter_7 : decode cX12_pileLetter 7 = .ok (.iload_n 2, 1) := by decide +kernel
theorem dX12_pileLetter_8 : decode cX12_pileLetter 8 = .ok (.iadd, 1) := by decide +kernel
theorem dX12_pileLetter_9 : decode cX12_pileLetter 9 = .ok (.aload_n 0, 1) := by decide +kernel
theorem dX12_pileLetter_10 : decode cX12_pileLetter 10 = .ok (.getfield 48, 3) := by decide +kernel
theorem dX12_pileLetter_13 : decode cX12_pileLetter 13 = .ok (.iconst 3, 1) := by decide +kernel
theorem dX12_pileLetter_14 : decode cX12_pileLetter 14 = .ok (.iload_n 1, 1) := by decide +kernel
theorem dX12_pileLetter_15 : decode cX12_pileLetter 15 = .ok (.imul, 1) := by decide +kernel
theorem dX12_pileLetter_16 : decode cX12_pileLetter 16 = .ok (.iload_n 2, 1) := by decide +kernel
theorem dX12_pileLetter_17 : decode cX12_pileLetter 17 = .ok (.iadd, 1) := by decide +kernel
theorem dX12_pileLetter_18 : decode cX12_pileLetter 18 = .ok (.iaload, 1) := by decide +kernel
theorem dX12_pileLetter_19 : decode cX12_pileLetter 19 = .ok (.iconst 1, 1) := by decide +kernel
theorem dX12_pileLetter_20 : decode cX12_pileLetter 20 = .ok (.iload_n 3, 1) := by decide +kernel
theorem dX12_pileLetter_21 : decode cX12_pileLetter 21 = .ok (.ishl, 1) := by decide +kernel
theorem dX12_pileLetter_22 : decode cX12_pileLetter 22 = .ok (.ior, 1) := by decide +kernel
theorem dX12_pileLetter_23 : decode cX12_pileLetter 23 = .ok (.iastore, 1) := by decide +kernel
theorem dX12_pileLetter_24 : decode cX12_pileLetter 24 = .ok (.aload_n 0, 1) := by decide +kernel
theorem dX12_pileLetter_25 : decode cX12_pileLetter 25 = .ok (.getfield 60, 3) := by decide +kernel
theorem dX12_pileLetter_28 : decode cX12_pileLetter 28 = .ok (.aload_n 0, 1) := by decide +kernel
theorem dX12_pileLetter_29 : decode cX12_pileLetter 29 = .ok (.getfield 256, 3) := by decide +kernel
theorem dX12_pileLetter_32 : decode cX12_pileLetter 32 = .ok (.iconst 0, 1) := by decide +kernel
theorem dX12_pileLetter_33 : decode cX12_pileLetter 33 = .ok (.iastore, 1) := by decide +kernel
theorem dX12_pileLetter_34 : decode cX12_pileLetter 34 = .ok (.aload_n 0, 1) := by decide +kernel
theorem dX12_pileLetter_35 : decode cX12_pileLetter 35 = .ok (.getfield 63, 3) := by decide +kernel
theorem dX12_pileLetter_38 : decode cX12_pileLetter 38 = .ok (.aload_n 0, 1) := by decide +kernel
theorem dX12_pileLetter_39 : decode cX12_pileLetter 39 = .ok (.getfield 256, 3) := by decide +kernel
theorem dX12_pileLetter_42 : decode cX12_pileLetter 42 = .ok (.iconst 1, 1) := by decide +kernel
theorem dX12_pileLetter_43 : decode cX12_pileLetter 43 = .ok (.iload_n 3, 1) := by decide +kernel
theorem dX12_pileLetter_44 : decode cX12_pileLetter 44 = .ok (.ishl, 1) := by decide +kernel
theorem dX12_pileLetter_45 : decode cX12_pileLetter 45 = .ok (.iastore, 1) := by decide +kernel
theorem dX12_pileLetter_46 : decode cX12_pileLetter 46 = .ok (.aload_n 0, 1) := by decide +kernel
theorem dX12_pileLetter_47 : decode cX12_pileLetter 47 = .ok (.getfield 66, 3) := by decide +kernel
theorem dX12_pileLetter_50 : decode cX12_pileLetter 50 = .ok (.aload_n 0, 1) := by decide +kernel
theorem dX12_pileLetter_51 : decode cX12_pileLetter 51 = .ok (.getfield 256, 3) := by decide +kernel
theorem dX12_pileLetter_54 : decode cX12_pileLetter 54 = .ok (.iconst 1, 1) := by decide +kernel
theorem dX12_pileLetter_55 : decode cX12_pileLetter 55 = .ok (.iload_n 3, 1) := by decide +kernel
theorem dX12_pileLetter_56 : decode cX12_pileLetter 56 = .ok (.ishl, 1) := by decide +kernel
theorem dX12_pileLetter_57 : decode cX12_pileLetter 57 = .ok (.iastore, 1) := by decide +kernel
theorem dX12_pileLetter_58 : decode cX12_pileLetter 58 = .ok (.aload_n 0, 1) := by decide +kernel
theorem dX12_pileLetter_59 : decode cX12_pileLetter 59 = .ok (.dup, 1) := by decide +kernel
theorem dX12_pileLetter_60 : decode cX12_pileLetter 60 = .ok (.getfield 256, 3) := by decide +kernel
theorem dX12_pileLetter_63 : decode cX12_pileLetter 63 = .ok (.iconst 1, 1) := by decide +kernel
theorem dX12_pileLetter_64 : decode cX12_pileLetter 64 = .ok (.iadd, 1) := by decide +kernel
theorem dX12_pileLetter_65 : decode cX12_pileLetter 65 = .ok (.putfield 256, 3) := by decide +kernel
theorem dX12_pileLetter_68 : decode cX12_pileLetter 68 = .ok (.return_, 1) := by decide +kernel
theorem dX12_followed_0 : decode cX12_followed 0 = .ok (.iconst 0, 1) := by decide +kernel
theorem dX12_followed_1 : decode cX12_followed 1 = .ok (.istore 4, 2) := by decide +kernel
theorem dX12_followed_3 : decode cX12_followed 3 = .ok (.iload 4, 2) := by decide +kernel
theorem dX12_followed_5 : decode cX12_followed 5 = .ok (.bipush 7, 2) := by decide +kernel
theorem dX12_followed_7 : decode cX12_followed 7 = .ok (.if_icmp .ge 45, 3) := by decide +kernel
theorem dX12_followed_10 : decode cX12_followed 10 = .ok (.iload_n 2, 1) := by decide +kernel
theorem dX12_followed_11 : decode cX12_followed 11 = .ok (.iload 4, 2) := by decide +kernel
theorem dX12_followed_13 : decode cX12_followed 13 = .ok (.ishr, 1) := by decide +kernel
theorem dX12_followed_14 : decode cX12_followed 14 = .ok (.iconst 1, 1) := by decide +kernel
theorem dX12_followed_15 : decode cX12_followed 15 = .ok (.iand, 1) := by decide +kernel
theorem dX12_followed_16 : decode cX12_followed 16 = .ok (.iconst 1, 1) := by decide +kernel
theorem dX12_followed_17 : decode cX12_followed 17 = .ok (.if_icmp .ne 29, 3) := by decide +kernel
theorem dX12_followed_20 : decode cX12_followed 20 = .ok (.aload_n 0, 1) := by decide +kernel
theorem dX12_followed_21 : decode cX12_followed 21 = .ok (.getfield 45, 3) := by decide +kernel
theorem dX12_followed_24 : decode cX12_followed 24 = .ok (.bipush 7, 2) := by decide +kernel
theorem dX12_followed_26 : decode cX12_followed 26 = .ok (.iload_n 1, 1) := by decide +kernel
theorem dX12_followed_27 : decode cX12_followed 27 = .ok (.imul, 1) := by decide +kernel
theorem dX12_followed_28 : decode cX12_followed 28 = .ok (.iload 4, 2) := by decide +kernel
theorem dX12_followed_30 : decode cX12_followed 30 = .ok (.iadd, 1) := by decide +kernel
theorem dX12_followed_31 : decode cX12_followed 31 = .ok (.aload_n 0, 1) := by decide +kernel
theorem dX12_followed_32 : decode cX12_followed 32 = .ok (.getfield 45, 3) := by decide +kernel
theorem dX12_followed_35 : decode cX12_followed 35 = .ok (.bipush 7, 2) := by decide +kernel
theorem dX12_followed_37 : decode cX12_followed 37 = .ok (.iload_n 1, 1) := by decide +kernel
theorem dX12_followed_38 : decode cX12_followed 38 = .ok (.imul, 1) := by decide +kernel
theorem dX12_followed_39 : decode cX12_followed 39 = .ok (.iload 4, 2) := by decide +kernel
theorem dX12_followed_41 : decode cX12_followed 41 = .ok (.iadd, 1) := by decide +kernel
theorem dX12_followed_42 : decode cX12_followed 42 = .ok (.iaload, 1) := by decide +kernel
theorem dX12_followed_43 : decode cX12_followed 43 = .ok (.iload_n 3, 1) := by decide +kernel
theorem dX12_followed_44 : decode cX12_followed 44 = .ok (.ior, 1) := by decide +kernel
theorem dX12_followed_45 : decode cX12_followed 45 = .ok (.iastore, 1) := by decide +kernel
theorem dX12_followed_46 : decode cX12_followed 46 = .ok (.iinc 4 1, 3) := by decide +kernel
theorem dX12_followed_49 : decode cX12_followed 49 = .ok (.goto (-46), 3) := by decide +kernel
theorem dX12_followed_52 : decode cX12_followed 52 = .ok (.return_, 1) := by decide +kernel
theorem dX12_joins_0 : decode cX12_joins 0 = .ok (.aload_n 0, 1) := by decide +kernel
theorem dX12_joins_1 : decode cX12_joins 1 = .ok (.dup, 1) := by decide +kernel
theorem dX12_joins_2 : decode cX12_joins 2 = .ok (.getfield 256, 3) := by decide +kernel
theorem dX12_joins_5 : decode cX12_joins 5 = .ok (.iconst 1, 1) := by decide +kernel
theorem dX12_joins_6 : decode cX12_joins 6 = .ok (.isub, 1) := by decide +kernel
theorem dX12_joins_7 : decode cX12_joins 7 = .ok (.putfield 256, 3) := by decide +kernel
theorem dX12_joins_10 : decode cX12_joins 10 = .ok (.aload_n 0, 1) := by decide +kernel
theorem dX12_joins_11 : decode cX12_joins 11 = .ok (.getfield 256, 3) := by decide +kernel
theorem dX12_joins_14 : decode cX12_joins 14 = .ok (.iconst 1, 1) := by decide +kernel
theorem dX12_joins_15 : decode cX12_joins 15 = .ok (.isub, 1) := by decide +kernel
theorem dX12_joins_16 : decode cX12_joins 16 = .ok (.istore_n 3, 1) := by decide +kernel
theorem dX12_joins_17 : decode cX12_joins 17 = .ok (.aload_n 0, 1) := by decide +kernel
theorem dX12_joins_18 : decode cX12_joins 18 = .ok (.getfield 256, 3) := by decide +kernel
theorem dX12_joins_21 : decode cX12_joins 21 = .ok (.istore 4, 2) := by decide +kernel
theorem dX12_joins_23 : decode cX12_joins 23 = .ok (.iload_n 2, 1) := by decide +kernel
theorem dX12_joins_24 : decode cX12_joins 24 = .ok (.iconst 5, 1) := by decide +kernel
theorem dX12_joins_25 : decode cX12_joins 25 = .ok (.if_icmp .ne 64, 3) := by decide +kernel
theorem dX12_joins_28 : decode cX12_joins 28 = .ok (.aload_n 0, 1) := by decide +kernel
theorem dX12_joins_29 : decode cX12_joins 29 = .ok (.getfield 63, 3) := by decide +kernel
theorem dX12_joins_32 : decode cX12_joins 32 = .ok (.iload_n 3, 1) := by decide +kernel
theorem dX12_joins_33 : decode cX12_joins 33 = .ok (.aload_n 0, 1) := by decide +kernel
theorem dX12_joins_34 : decode cX12_joins 34 = .ok (.getfield 63, 3) := by decide +kernel
theorem dX12_joins_37 : decode cX12_joins 37 = .ok (.iload_n 3, 1) := by decide +kernel
theorem dX12_joins_38 : decode cX12_joins 38 = .ok (.iaload, 1) := by decide +kernel
theorem dX12_joins_39 : decode cX12_joins 39 = .ok (.aload_n 0, 1) := by decide +kernel
theorem dX12_joins_40 : decode cX12_joins 40 = .ok (.getfield 63, 3) := by decide +kernel
theorem dX12_joins_43 : decode cX12_joins 43 = .ok (.iload 4, 2) := by decide +kernel
theorem dX12_joins_45 : decode cX12_joins 45 = .ok (.iaload, 1) := by decide +kernel
theorem dX12_joins_46 : decode cX12_joins 46 = .ok (.ior, 1) := by decide +kernel
theorem dX12_joins_47 : decode cX12_joins 47 = .ok (.iastore, 1) := by decide +kernel
theorem dX12_joins_48 : decode cX12_joins 48 = .ok (.aload_n 0, 1) := by decide +kernel
theorem dX12_joins_49 : decode cX12_joins 49 = .ok (.getfield 66, 3) := by decide +kernel
theorem dX12_joins_52 : decode cX12_joins 52 = .ok (.iload_n 3, 1) := by decide +kernel
theorem dX12_joins_53 : decode cX12_joins 53 = .ok (.aload_n 0, 1) := by decide +kernel
theorem dX12_joins_54 : decode cX12_joins 54 = .ok (.getfield 66, 3) := by decide +kernel
theorem dX12_joins_57 : decode cX12_joins 57 = .ok (.iload_n 3, 1) := by decide +kernel
theorem dX12_joins_58 : decode cX12_joins 58 = .ok (.iaload, 1) := by decide +kernel
theorem dX12_joins_59 : decode cX12_joins 59 = .ok (.aload_n 0, 1) := by decide +kernel
theorem dX12_joins_60 : decode cX12_joins 60 = .ok (.getfield 66, 3) := by decide +kernel
theorem dX12_joins_63 : decode cX12_joins 63 = .ok (.iload 4, 2) := by decide +kernel
theorem dX12_joins_65 : decode cX12_joins 65 = .ok (.iaload, 1) := by decide +kernel
theorem dX12_joins_66 : decode cX12_joins 66 = .ok (.ior, 1) := by decide +kernel
theorem dX12_joins_67 : decode cX12_joins 67 = .ok (.iastore, 1) := by decide +kernel
theorem dX12_joins_68 : decode cX12_joins 68 = .ok (.aload_n 0, 1) := by decide +kernel
theorem dX12_joins_69 : decode cX12_joins 69 = .ok (.getfield 60, 3) := by decide +kernel
theorem dX12_joins_72 : decode cX12_joins 72 = .ok (.iload_n 3, 1) := by decide +kernel
theorem dX12_joins_73 : decode cX12_joins 73 = .ok (.aload_n 0, 1) := by decide +kernel
theorem dX12_joins_74 : decode cX12_joins 74 = .ok (.getfield 60, 3) := by decide +kernel
theorem dX12_joins_77 : decode cX12_joins 77 = .ok (.iload_n 3, 1) := by decide +kernel
theorem dX12_joins_78 : decode cX12_joins 78 = .ok (.iaload, 1) := by decide +kernel
theorem dX12_joins_79 : decode cX12_joins 79 = .ok (.aload_n 0, 1) := by decide +kernel
theorem dX12_joins_80 : decode cX12_joins 80 = .ok (.getfield 60, 3) := by decide +kernel
theorem dX12_joins_83 : decode cX12_joins 83 = .ok (.iload 4, 2) := by decide +kernel
theorem dX12_joins_85 : decode cX12_joins 85 = .ok (.iaload, 1) := by decide +kernel
theorem dX12_joins_86 : decode cX12_joins 86 = .ok (.ior, 1) := by decide +kernel
theorem dX12_joins_87 : decode cX12_joins 87 = .ok (.iastore, 1) := by decide +kernel
theorem dX12_joins_88 : decode cX12_joins 88 = .ok (.return_, 1) := by decide +kernel
theorem dX12_joins_89 : decode cX12_joins 89 = .ok (.aload_n 0, 1) := by decide +kernel
theorem dX12_joins_90 : decode cX12_joins 90 = .ok (.iload_n 1, 1) := by decide +kernel
theorem dX12_joins_91 : decode cX12_joins 91 = .ok (.aload_n 0, 1) := by decide +kernel
theorem dX12_joins_92 : decode cX12_joins 92 = .ok (.getfield 66, 3) := by decide +kernel
theorem dX12_joins_95 : decode cX12_joins 95 = .ok (.iload_n 3, 1) := by decide +kernel
theorem dX12_joins_96 : decode cX12_joins 96 = .ok (.iaload, 1) := by decide +kernel
theorem dX12_joins_97 : decode cX12_joins 97 = .ok (.aload_n 0, 1) := by decide +kernel
theorem dX12_joins_98 : decode cX12_joins 98 = .ok (.getfield 63, 3) := by decide +kernel
theorem dX12_joins_101 : decode cX12_joins 101 = .ok (.iload 4, 2) := by decide +kernel
theorem dX12_joins_103 : decode cX12_joins 103 = .ok (.iaload, 1) := by decide +kernel
theorem dX12_joins_104 : decode cX12_joins 104 = .ok (.invokevirtual 259, 3) := by decide +kernel
theorem dX12_joins_107 : decode cX12_joins 107 = .ok (.aload_n 0, 1) := by decide +kernel
theorem dX12_joins_108 : decode cX12_joins 108 = .ok (.getfield 63, 3) := by decide +kernel
theorem dX12_joins_111 : decode cX12_joins 111 = .ok (.iload_n 3, 1) := by decide +kernel
theorem dX12_joins_112 : decode cX12_joins 112 = .ok (.aload_n 0, 1) := by decide +kernel
theorem dX12_joins_113 : decode cX12_joins 113 = .ok (.getfield 60, 3) := by decide +kernel
theorem dX12_joins_116 : decode cX12_joins 116 = .ok (.iload_n 3, 1) := by decide +kernel
theorem dX12_joins_117 : decode cX12_joins 117 = .ok (.iaload, 1) := by decide +kernel
theorem dX12_joins_118 : decode cX12_joins 118 = .ok (.iconst 1, 1) := by decide +kernel
theorem dX12_joins_119 : decode cX12_joins 119 = .ok (.if_icmp .ne 20, 3) := by decide +kernel
theorem dX12_joins_122 : decode cX12_joins 122 = .ok (.aload_n 0, 1) := by decide +kernel
theorem dX12_joins_123 : decode cX12_joins 123 = .ok (.getfield 63, 3) := by decide +kernel
theorem dX12_joins_126 : decode cX12_joins 126 = .ok (.iload_n 3, 1) := by decide +kernel
theorem dX12_joins_127 : decode cX12_joins 127 = .ok (.iaload, 1) := by decide +kernel
theorem dX12_joins_128 : decode cX12_joins 128 = .ok (.aload_n 0, 1) := by decide +kernel
theorem dX12_joins_129 : decode cX12_joins 129 = .ok (.getfield 63, 3) := by decide +kernel
theorem dX12_joins_132 : decode cX12_joins 132 = .ok (.iload 4, 2) := by decide +kernel
theorem dX12_joins_134 : decode cX12_joins 134 = .ok (.iaload, 1) := by decide +kernel
theorem dX12_joins_135 : decode cX12_joins 135 = .ok (.ior, 1) := by decide +kernel
theorem dX12_joins_136 : decode cX12_joins 136 = .ok (.goto 9, 3) := by decide +kernel
theorem dX12_joins_139 : decode cX12_joins 139 = .ok (.aload_n 0, 1) := by decide +kernel
theorem dX12_joins_140 : decode cX12_joins 140 = .ok (.getfield 63, 3) := by decide +kernel
theorem dX12_joins_143 : decode cX12_joins 143 = .ok (.iload_n 3, 1) := by decide +kernel
theorem dX12_joins_144 : decode cX12_joins 144 = .ok (.iaload, 1) := by decide +kernel
theorem dX12_joins_145 : decode cX12_joins 145 = .ok (.iastore, 1) := by decide +kernel
theorem dX12_joins_146 : decode cX12_joins 146 = .ok (.aload_n 0, 1) := by decide +kernel
theorem dX12_joins_147 : decode cX12_joins 147 = .ok (.getfield 66, 3) := by decide +kernel
theorem dX12_joins_150 : decode cX12_joins 150 = .ok (.iload_n 3, 1) := by decide +kernel
theorem dX12_joins_151 : decode cX12_joins 151 = .ok (.aload_n 0, 1) := by decide +kernel
theorem dX12_joins_152 : decode cX12_joins 152 = .ok (.getfield 60, 3) := by decide +kernel
theorem dX12_joins_155 : decode cX12_joins 155 = .ok (.iload 4, 2) := by decide +kernel
theorem dX12_joins_157 : decode cX12_joins 157 = .ok (.iaload, 1) := by decide +kernel
theorem dX12_joins_158 : decode cX12_joins 158 = .ok (.iconst 1, 1) := by decide +kernel
theorem dX12_joins_159 : decode cX12_joins 159 = .ok (.if_icmp .ne 20, 3) := by decide +kernel
theorem dX12_joins_162 : decode cX12_joins 162 = .ok (.aload_n 0, 1) := by decide +kernel
theorem dX12_joins_163 : decode cX12_joins 163 = .ok (.getfield 66, 3) := by decide +kernel
theorem dX12_joins_166 : decode cX12_joins 166 = .ok (.iload_n 3, 1) := by decide +kernel
theorem dX12_joins_167 : decode cX12_joins 167 = .ok (.iaload, 1) := by decide +kernel
theorem dX12_joins_168 : decode cX12_joins 168 = .ok (.aload_n 0, 1) := by decide +kernel
theorem dX12_joins_169 : decode cX12_joins 169 = .ok (.getfield 66, 3) := by decide +kernel
theorem dX12_joins_172 : decode cX12_joins 172 = .ok (.iload 4, 2) := by decide +kernel
theorem dX12_joins_174 : decode cX12_joins 174 = .ok (.iaload, 1) := by decide +kernel
theorem dX12_joins_175 : decode cX12_joins 175 = .ok (.ior, 1) := by decide +kernel
theorem dX12_joins_176 : decode cX12_joins 176 = .ok (.goto 10, 3) := by decide +kernel
theorem dX12_joins_179 : decode cX12_joins 179 = .ok (.aload_n 0, 1) := by decide +kernel
theorem dX12_joins_180 : decode cX12_joins 180 = .ok (.getfield 66, 3) := by decide +kernel
theorem dX12_joins_183 : decode cX12_joins 183 = .ok (.iload 4, 2) := by decide +kernel
theorem dX12_joins_185 : decode cX12_joins 185 = .ok (.iaload, 1) := by decide +kernel
theorem dX12_joins_186 : decode cX12_joins 186 = .ok (.iastore, 1) := by decide +kernel
theorem dX12_joins_187 : decode cX12_joins 187 = .ok (.aload_n 0, 1) := by decide +kernel
theorem dX12_joins_188 : decode cX12_joins 188 = .ok (.getfield 60, 3) := by decide +kernel
theorem dX12_joins_191 : decode cX12_joins 191 = .ok (.iload_n 3, 1) := by decide +kernel
theorem dX12_joins_192 : decode cX12_joins 192 = .ok (.aload_n 0, 1) := by decide +kernel
theorem dX12_joins_193 : decode cX12_joins 193 = .ok (.getfield 60, 3) := by decide +kernel
theorem dX12_joins_196 : decode cX12_joins 196 = .ok (.iload_n 3, 1) := by decide +kernel
theorem dX12_joins_197 : decode cX12_joins 197 = .ok (.iaload, 1) := by decide +kernel
theorem dX12_joins_198 : decode cX12_joins 198 = .ok (.aload_n 0, 1) := by decide +kernel
theorem dX12_joins_199 : decode cX12_joins 199 = .ok (.getfield 60, 3) := by decide +kernel
theorem dX12_joins_202 : decode cX12_joins 202 = .ok (.iload 4, 2) := by decide +kernel
theorem dX12_joins_204 : decode cX12_joins 204 = .ok (.iaload, 1) := by decide +kernel
theorem dX12_joins_205 : decode cX12_joins 205 = .ok (.iand, 1) := by decide +kernel
theorem dX12_joins_206 : decode cX12_joins 206 = .ok (.iastore, 1) := by decide +kernel
theorem dX12_joins_207 : decode cX12_joins 207 = .ok (.return_, 1) := by decide +kernel
theorem dX12_next_0 : decode cX12_next 0 = .ok (.iload_n 2, 1) := by decide +kernel
theorem dX12_next_1 : decode cX12_next 1 = .ok (.sipush 128, 3) := by decide +kernel
theorem dX12_next_4 : decode cX12_next 4 = .ok (.if_icmp .ne 12, 3) := by decide +kernel
theorem dX12_next_7 : decode cX12_next 7 = .ok (.aload_n 0, 1) := by decide +kernel
theorem dX12_next_8 : decode cX12_next 8 = .ok (.getfield 54, 3) := by decide +kernel
theorem dX12_next_11 : decode cX12_next 11 = .ok (.iload_n 1, 1) := by decide +kernel
theorem dX12_next_12 : decode cX12_next 12 = .ok (.iaload, 1) := by decide +kernel
theorem dX12_next_13 : decode cX12_next 13 = .ok (.goto 4, 3) := by decide +kernel
theorem dX12_next_16 : decode cX12_next 16 = .ok (.iconst 0, 1) := by decide +kernel
theorem dX12_next_17 : decode cX12_next 17 = .ok (.istore 4, 2) := by decide +kernel
theorem dX12_next_19 : decode cX12_next 19 = .ok (.iconst 0, 1) := by decide +kernel
theorem dX12_next_20 : decode cX12_next 20 = .ok (.istore 5, 2) := by decide +kernel
theorem dX12_next_22 : decode cX12_next 22 = .ok (.iload 5, 2) := by decide +kernel
theorem dX12_next_24 : decode cX12_next 24 = .ok (.bipush 7, 2) := by decide +kernel
theorem dX12_next_26 : decode cX12_next 26 = .ok (.if_icmp .ge 48, 3) := by decide +kernel
theorem dX12_next_29 : decode cX12_next 29 = .ok (.iload_n 2, 1) := by decide +kernel
theorem dX12_next_30 : decode cX12_next 30 = .ok (.sipush 128, 3) := by decide +kernel
theorem dX12_next_33 : decode cX12_next 33 = .ok (.if_icmp .eq 41, 3) := by decide +kernel
theorem dX12_next_36 : decode cX12_next 36 = .ok (.iload_n 2, 1) := by decide +kernel
theorem dX12_next_37 : decode cX12_next 37 = .ok (.iload 5, 2) := by decide +kernel
theorem dX12_next_39 : decode cX12_next 39 = .ok (.ishr, 1) := by decide +kernel
theorem dX12_next_40 : decode cX12_next 40 = .ok (.iconst 1, 1) := by decide +kernel
theorem dX12_next_41 : decode cX12_next 41 = .ok (.iand, 1) := by decide +kernel
theorem dX12_next_42 : decode cX12_next 42 = .ok (.iconst 1, 1) := by decide +kernel
theorem dX12_next_43 : decode cX12_next 43 = .ok (.if_icmp .ne 21, 3) := by decide +kernel
theorem dX12_next_46 : decode cX12_next 46 = .ok (.iload 4, 2) := by decide +kernel
theorem dX12_next_48 : decode cX12_next 48 = .ok (.aload_n 0, 1) := by decide +kernel
theorem dX12_next_49 : decode cX12_next 49 = .ok (.getfield 45, 3) := by decide +kernel
theorem dX12_next_52 : decode cX12_next 52 = .ok (.bipush 7, 2) := by decide +kernel
theorem dX12_next_54 : decode cX12_next 54 = .ok (.iload_n 1, 1) := by decide +kernel
theorem dX12_next_55 : decode cX12_next 55 = .ok (.imul, 1) := by decide +kernel
theorem dX12_next_56 : decode cX12_next 56 = .ok (.iload 5, 2) := by decide +kernel
theorem dX12_next_58 : decode cX12_next 58 = .ok (.iadd, 1) := by decide +kernel
theorem dX12_next_59 : decode cX12_next 59 = .ok (.iaload, 1) := by decide +kernel
theorem dX12_next_60 : decode cX12_next 60 = .ok (.ior, 1) := by decide +kernel
theorem dX12_next_61 : decode cX12_next 61 = .ok (.goto 5, 3) := by decide +kernel
theorem dX12_next_64 : decode cX12_next 64 = .ok (.iload 4, 2) := by decide +kernel
theorem dX12_next_66 : decode cX12_next 66 = .ok (.istore 4, 2) := by decide +kernel
theorem dX12_next_68 : decode cX12_next 68 = .ok (.iinc 5 1, 3) := by decide +kernel
theorem dX12_next_71 : decode cX12_next 71 = .ok (.goto (-49), 3) := by decide +kernel
theorem dX12_next_74 : decode cX12_next 74 = .ok (.iload 4, 2) := by decide +kernel
theorem dX12_next_76 : decode cX12_next 76 = .ok (.aload_n 0, 1) := by decide +kernel
theorem dX12_next_77 : decode cX12_next 77 = .ok (.getfield 48, 3) := by decide +kernel
theorem dX12_next_80 : decode cX12_next 80 = .ok (.iconst 3, 1) := by decide +kernel
theorem dX12_next_81 : decode cX12_next 81 = .ok (.iload_n 1, 1) := by decide +kernel
theorem dX12_next_82 : decode cX12_next 82 = .ok (.imul, 1) := by decide +kernel
theorem dX12_next_83 : decode cX12_next 83 = .ok (.iload_n 3, 1) := by decide +kernel
theorem dX12_next_84 : decode cX12_next 84 = .ok (.iadd, 1) := by decide +kernel
theorem dX12_next_85 : decode cX12_next 85 = .ok (.iaload, 1) := by decide +kernel
theorem dX12_next_86 : decode cX12_next 86 = .ok (.iand, 1) := by decide +kernel
theorem dX12_next_87 : decode cX12_next 87 = .ok (.ireturn, 1) := by decide +kernel
theorem dX12_builds_0 : decode cX12_builds 0 = .ok (.iconst 0, 1) := by decide +kernel
theorem dX12_builds_1 : decode cX12_builds 1 = .ok (.istore_n 3, 1) := by decide +kernel
theorem dX12_builds_2 : decode cX12_builds 2 = .ok (.iload_n 3, 1) := by decide +kernel
theorem dX12_builds_3 : decode cX12_builds 3 = .ok (.bipush 7, 2) := by decide +kernel
theorem dX12_builds_5 : decode cX12_builds 5 = .ok (.if_icmp .ge 21, 3) := by decide +kernel
theorem dX12_builds_8 : decode cX12_builds 8 = .ok (.aload_n 0, 1) := by decide +kernel
theorem dX12_builds_9 : decode cX12_builds 9 = .ok (.getfield 45, 3) := by decide +kernel
theorem dX12_builds_12 : decode cX12_builds 12 = .ok (.bipush 7, 2) := by decide +kernel
theorem dX12_builds_14 : decode cX12_builds 14 = .ok (.iload_n 1, 1) := by decide +kernel
theorem dX12_builds_15 : decode cX12_builds 15 = .ok (.imul, 1) := by decide +kernel
theorem dX12_builds_16 : decode cX12_builds 16 = .ok (.iload_n 3, 1) := by decide +kernel
theorem dX12_builds_17 : decode cX12_builds 17 = .ok (.iadd, 1) := by decide +kernel
theorem dX12_builds_18 : decode cX12_builds 18 = .ok (.iconst 0, 1) := by decide +kernel
theorem dX12_builds_19 : decode cX12_builds 19 = .ok (.iastore, 1) := by decide +kernel
theorem dX12_builds_20 : decode cX12_builds 20 = .ok (.iinc 3 1, 3) := by decide +kernel
theorem dX12_builds_23 : decode cX12_builds 23 = .ok (.goto (-21), 3) := by decide +kernel
theorem dX12_builds_26 : decode cX12_builds 26 = .ok (.iconst 0, 1) := by decide +kernel
theorem dX12_builds_27 : decode cX12_builds 27 = .ok (.istore_n 3, 1) := by decide +kernel
theorem dX12_builds_28 : decode cX12_builds 28 = .ok (.iload_n 3, 1) := by decide +kernel
theorem dX12_builds_29 : decode cX12_builds 29 = .ok (.iconst 3, 1) := by decide +kernel
theorem dX12_builds_30 : decode cX12_builds 30 = .ok (.if_icmp .ge 20, 3) := by decide +kernel
theorem dX12_builds_33 : decode cX12_builds 33 = .ok (.aload_n 0, 1) := by decide +kernel
theorem dX12_builds_34 : decode cX12_builds 34 = .ok (.getfield 48, 3) := by decide +kernel
theorem dX12_builds_37 : decode cX12_builds 37 = .ok (.iconst 3, 1) := by decide +kernel
theorem dX12_builds_38 : decode cX12_builds 38 = .ok (.iload_n 1, 1) := by decide +kernel
theorem dX12_builds_39 : decode cX12_builds 39 = .ok (.imul, 1) := by decide +kernel
theorem dX12_builds_40 : decode cX12_builds 40 = .ok (.iload_n 3, 1) := by decide +kernel
theorem dX12_builds_41 : decode cX12_builds 41 = .ok (.iadd, 1) := by decide +kernel
theorem dX12_builds_42 : decode cX12_builds 42 = .ok (.iconst 0, 1) := by decide +kernel
theorem dX12_builds_43 : decode cX12_builds 43 = .ok (.iastore, 1) := by decide +kernel
theorem dX12_builds_44 : decode cX12_builds 44 = .ok (.iinc 3 1, 3) := by decide +kernel
theorem dX12_builds_47 : decode cX12_builds 47 = .ok (.goto (-19), 3) := by decide +kernel
theorem dX12_builds_50 : decode cX12_builds 50 = .ok (.aload_n 0, 1) := by decide +kernel
theorem dX12_builds_51 : decode cX12_builds 51 = .ok (.iconst 0, 1) := by decide +kernel
theorem dX12_builds_52 : decode cX12_builds 52 = .ok (.putfield 256, 3) := by decide +kernel
theorem dX12_builds_55 : decode cX12_builds 55 = .ok (.iconst 0, 1) := by decide +kernel
theorem dX12_builds_56 : decode cX12_builds 56 = .ok (.istore_n 3, 1) := by decide +kernel
theorem dX12_builds_57 : decode cX12_builds 57 = .ok (.iconst 0, 1) := by decide +kernel
theorem dX12_builds_58 : decode cX12_builds 58 = .ok (.istore 4, 2) := by decide +kernel
theorem dX12_builds_60 : decode cX12_builds 60 = .ok (.iload 4, 2) := by decide +kernel
theorem dX12_builds_62 : decode cX12_builds 62 = .ok (.aload_n 0, 1) := by decide +kernel
theorem dX12_builds_63 : decode cX12_builds 63 = .ok (.iload_n 2, 1) := by decide +kernel
theorem dX12_builds_64 : decode cX12_builds 64 = .ok (.invokevirtual 140, 3) := by decide +kernel
theorem dX12_builds_67 : decode cX12_builds 67 = .ok (.if_icmp .ge 109, 3) := by decide +kernel
theorem dX12_builds_70 : decode cX12_builds 70 = .ok (.aload_n 0, 1) := by decide +kernel
theorem dX12_builds_71 : decode cX12_builds 71 = .ok (.iload_n 2, 1) := by decide +kernel
theorem dX12_builds_72 : decode cX12_builds 72 = .ok (.iload 4, 2) := by decide +kernel
theorem dX12_builds_74 : decode cX12_builds 74 = .ok (.invokevirtual 147, 3) := by decide +kernel
theorem dX12_builds_77 : decode cX12_builds 77 = .ok (.istore 5, 2) := by decide +kernel
theorem dX12_builds_79 : decode cX12_builds 79 = .ok (.iload 5, 2) := by decide +kernel
theorem dX12_builds_81 : decode cX12_builds 81 = .ok (.iconst 4, 1) := by decide +kernel
theorem dX12_builds_82 : decode cX12_builds 82 = .ok (.if_icmp .ge 19, 3) := by decide +kernel
theorem dX12_builds_85 : decode cX12_builds 85 = .ok (.aload_n 0, 1) := by decide +kernel
theorem dX12_builds_86 : decode cX12_builds 86 = .ok (.iload_n 1, 1) := by decide +kernel
theorem dX12_builds_87 : decode cX12_builds 87 = .ok (.iload 5, 2) := by decide +kernel
theorem dX12_builds_89 : decode cX12_builds 89 = .ok (.iconst 1, 1) := by decide +kernel
theorem dX12_builds_90 : decode cX12_builds 90 = .ok (.isub, 1) := by decide +kernel
theorem dX12_builds_91 : decode cX12_builds 91 = .ok (.iload_n 3, 1) := by decide +kernel
theorem dX12_builds_92 : decode cX12_builds 92 = .ok (.invokevirtual 263, 3) := by decide +kernel
theorem dX12_builds_95 : decode cX12_builds 95 = .ok (.iinc 3 1, 3) := by decide +kernel
theorem dX12_builds_98 : decode cX12_builds 98 = .ok (.goto 72, 3) := by decide +kernel
theorem dX12_builds_101 : decode cX12_builds 101 = .ok (.iload 5, 2) := by decide +kernel
theorem dX12_builds_103 : decode cX12_builds 103 = .ok (.iconst 5, 1) := by decide +kernel
theorem dX12_builds_104 : decode cX12_builds 104 = .ok (.if_icmp .gt 13, 3) := by decide +kernel
theorem dX12_builds_107 : decode cX12_builds 107 = .ok (.aload_n 0, 1) := by decide +kernel
theorem dX12_builds_108 : decode cX12_builds 108 = .ok (.iload_n 1, 1) := by decide +kernel
theorem dX12_builds_109 : decode cX12_builds 109 = .ok (.iload 5, 2) := by decide +kernel
theorem dX12_builds_111 : decode cX12_builds 111 = .ok (.invokevirtual 266, 3) := by decide +kernel
theorem dX12_builds_114 : decode cX12_builds 114 = .ok (.goto 56, 3) := by decide +kernel
theorem dX12_builds_117 : decode cX12_builds 117 = .ok (.iload 5, 2) := by decide +kernel
theorem dX12_builds_119 : decode cX12_builds 119 = .ok (.bipush 8, 2) := by decide +kernel
theorem dX12_builds_121 : decode cX12_builds 121 = .ok (.if_icmp .eq 30, 3) := by decide +kernel
theorem dX12_builds_124 : decode cX12_builds 124 = .ok (.aload_n 0, 1) := by decide +kernel
theorem dX12_builds_125 : decode cX12_builds 125 = .ok (.iload_n 1, 1) := by decide +kernel
theorem dX12_builds_126 : decode cX12_builds 126 = .ok (.aload_n 0, 1) := by decide +kernel
theorem dX12_builds_127 : decode cX12_builds 127 = .ok (.getfield 66, 3) := by decide +kernel
theorem dX12_builds_130 : decode cX12_builds 130 = .ok (.aload_n 0, 1) := by decide +kernel
theorem dX12_builds_131 : decode cX12_builds 131 = .ok (.getfield 256, 3) := by decide +kernel
theorem dX12_builds_134 : decode cX12_builds 134 = .ok (.iconst 1, 1) := by decide +kernel
theorem dX12_builds_135 : decode cX12_builds 135 = .ok (.isub, 1) := by decide +kernel
theorem dX12_builds_136 : decode cX12_builds 136 = .ok (.iaload, 1) := by decide +kernel
theorem dX12_builds_137 : decode cX12_builds 137 = .ok (.aload_n 0, 1) := by decide +kernel
theorem dX12_builds_138 : decode cX12_builds 138 = .ok (.getfield 63, 3) := by decide +kernel
theorem dX12_builds_141 : decode cX12_builds 141 = .ok (.aload_n 0, 1) := by decide +kernel
theorem dX12_builds_142 : decode cX12_builds 142 = .ok (.getfield 256, 3) := by decide +kernel
theorem dX12_builds_145 : decode cX12_builds 145 = .ok (.iconst 1, 1) := by decide +kernel
theorem dX12_builds_146 : decode cX12_builds 146 = .ok (.isub, 1) := by decide +kernel
theorem dX12_builds_147 : decode cX12_builds 147 = .ok (.iaload, 1) := by decide +kernel
theorem dX12_builds_148 : decode cX12_builds 148 = .ok (.invokevirtual 259, 3) := by decide +kernel
theorem dX12_builds_151 : decode cX12_builds 151 = .ok (.iload 5, 2) := by decide +kernel
theorem dX12_builds_153 : decode cX12_builds 153 = .ok (.bipush 7, 2) := by decide +kernel
theorem dX12_builds_155 : decode cX12_builds 155 = .ok (.if_icmp .eq 15, 3) := by decide +kernel
theorem dX12_builds_158 : decode cX12_builds 158 = .ok (.aload_n 0, 1) := by decide +kernel
theorem dX12_builds_159 : decode cX12_builds 159 = .ok (.getfield 60, 3) := by decide +kernel
theorem dX12_builds_162 : decode cX12_builds 162 = .ok (.aload_n 0, 1) := by decide +kernel
theorem dX12_builds_163 : decode cX12_builds 163 = .ok (.getfield 256, 3) := by decide +kernel
theorem dX12_builds_166 : decode cX12_builds 166 = .ok (.iconst 1, 1) := by decide +kernel
theorem dX12_builds_167 : decode cX12_builds 167 = .ok (.isub, 1) := by decide +kernel
theorem dX12_builds_168 : decode cX12_builds 168 = .ok (.iconst 1, 1) := by decide +kernel
theorem dX12_builds_169 : decode cX12_builds 169 = .ok (.iastore, 1) := by decide +kernel
theorem dX12_builds_170 : decode cX12_builds 170 = .ok (.iinc 4 1, 3) := by decide +kernel
theorem dX12_builds_173 : decode cX12_builds 173 = .ok (.goto (-113), 3) := by decide +kernel
theorem dX12_builds_176 : decode cX12_builds 176 = .ok (.aload_n 0, 1) := by decide +kernel
theorem dX12_builds_177 : decode cX12_builds 177 = .ok (.getfield 54, 3) := by decide +kernel
theorem dX12_builds_180 : decode cX12_builds 180 = .ok (.iload_n 1, 1) := by decide +kernel
theorem dX12_builds_181 : decode cX12_builds 181 = .ok (.aload_n 0, 1) := by decide +kernel
theorem dX12_builds_182 : decode cX12_builds 182 = .ok (.getfield 63, 3) := by decide +kernel
theorem dX12_builds_185 : decode cX12_builds 185 = .ok (.iconst 0, 1) := by decide +kernel
theorem dX12_builds_186 : decode cX12_builds 186 = .ok (.iaload, 1) := by decide +kernel
theorem dX12_builds_187 : decode cX12_builds 187 = .ok (.iastore, 1) := by decide +kernel
theorem dX12_builds_188 : decode cX12_builds 188 = .ok (.aload_n 0, 1) := by decide +kernel
theorem dX12_builds_189 : decode cX12_builds 189 = .ok (.getfield 51, 3) := by decide +kernel
theorem dX12_builds_192 : decode cX12_builds 192 = .ok (.iload_n 1, 1) := by decide +kernel
theorem dX12_builds_193 : decode cX12_builds 193 = .ok (.aload_n 0, 1) := by decide +kernel
theorem dX12_builds_194 : decode cX12_builds 194 = .ok (.getfield 66, 3) := by decide +kernel
theorem dX12_builds_197 : decode cX12_builds 197 = .ok (.iconst 0, 1) := by decide +kernel
theorem dX12_builds_198 : decode cX12_builds 198 = .ok (.iaload, 1) := by decide +kernel
theorem dX12_builds_199 : decode cX12_builds 199 = .ok (.iastore, 1) := by decide +kernel
theorem dX12_builds_200 : decode cX12_builds 200 = .ok (.aload_n 0, 1) := by decide +kernel
theorem dX12_builds_201 : decode cX12_builds 201 = .ok (.getfield 57, 3) := by decide +kernel
theorem dX12_builds_204 : decode cX12_builds 204 = .ok (.iload_n 1, 1) := by decide +kernel
theorem dX12_builds_205 : decode cX12_builds 205 = .ok (.aload_n 0, 1) := by decide +kernel
theorem dX12_builds_206 : decode cX12_builds 206 = .ok (.getfield 60, 3) := by decide +kernel
theorem dX12_builds_209 : decode cX12_builds 209 = .ok (.iconst 0, 1) := by decide +kernel
theorem dX12_builds_210 : decode cX12_builds 210 = .ok (.iaload, 1) := by decide +kernel
theorem dX12_builds_211 : decode cX12_builds 211 = .ok (.iastore, 1) := by decide +kernel
theorem dX12_builds_212 : decode cX12_builds 212 = .ok (.iconst 0, 1) := by decide +kernel
theorem dX12_builds_213 : decode cX12_builds 213 = .ok (.istore 4, 2) := by decide +kernel
theorem dX12_builds_215 : decode cX12_builds 215 = .ok (.iload 4, 2) := by decide +kernel
theorem dX12_builds_217 : decode cX12_builds 217 = .ok (.sipush 129, 3) := by decide +kernel
theorem dX12_builds_220 : decode cX12_builds 220 = .ok (.if_icmp .ge 51, 3) := by decide +kernel
theorem dX12_builds_223 : decode cX12_builds 223 = .ok (.iconst 0, 1) := by decide +kernel
theorem dX12_builds_224 : decode cX12_builds 224 = .ok (.istore 5, 2) := by decide +kernel
theorem dX12_builds_226 : decode cX12_builds 226 = .ok (.iload 5, 2) := by decide +kernel
theorem dX12_builds_228 : decode cX12_builds 228 = .ok (.iconst 3, 1) := by decide +kernel
theorem dX12_builds_229 : decode cX12_builds 229 = .ok (.if_icmp .ge 36, 3) := by decide +kernel
theorem dX12_builds_232 : decode cX12_builds 232 = .ok (.aload_n 0, 1) := by decide +kernel
theorem dX12_builds_233 : decode cX12_builds 233 = .ok (.getfield 42, 3) := by decide +kernel
theorem dX12_builds_236 : decode cX12_builds 236 = .ok (.sipush 387, 3) := by decide +kernel
theorem dX12_builds_239 : decode cX12_builds 239 = .ok (.iload_n 1, 1) := by decide +kernel
theorem dX12_builds_240 : decode cX12_builds 240 = .ok (.imul, 1) := by decide +kernel
theorem dX12_builds_241 : decode cX12_builds 241 = .ok (.iconst 3, 1) := by decide +kernel
theorem dX12_builds_242 : decode cX12_builds 242 = .ok (.iload 4, 2) := by decide +kernel
theorem dX12_builds_244 : decode cX12_builds 244 = .ok (.imul, 1) := by decide +kernel
theorem dX12_builds_245 : decode cX12_builds 245 = .ok (.iadd, 1) := by decide +kernel
theorem dX12_builds_246 : decode cX12_builds 246 = .ok (.iload 5, 2) := by decide +kernel
theorem dX12_builds_248 : decode cX12_builds 248 = .ok (.iadd, 1) := by decide +kernel
theorem dX12_builds_249 : decode cX12_builds 249 = .ok (.aload_n 0, 1) := by decide +kernel
theorem dX12_builds_250 : decode cX12_builds 250 = .ok (.iload_n 1, 1) := by decide +kernel
theorem dX12_builds_251 : decode cX12_builds 251 = .ok (.iload 4, 2) := by decide +kernel
theorem dX12_builds_253 : decode cX12_builds 253 = .ok (.iload 5, 2) := by decide +kernel
theorem dX12_builds_255 : decode cX12_builds 255 = .ok (.invokevirtual 270, 3) := by decide +kernel
theorem dX12_builds_258 : decode cX12_builds 258 = .ok (.iastore, 1) := by decide +kernel
theorem dX12_builds_259 : decode cX12_builds 259 = .ok (.iinc 5 1, 3) := by decide +kernel
theorem dX12_builds_262 : decode cX12_builds 262 = .ok (.goto (-36), 3) := by decide +kernel
theorem dX12_builds_265 : decode cX12_builds 265 = .ok (.iinc 4 1, 3) := by decide +kernel
theorem dX12_builds_268 : decode cX12_builds 268 = .ok (.goto (-53), 3) := by decide +kernel
theorem dX12_builds_271 : decode cX12_builds 271 = .ok (.return_, 1) := by decide +kernel
theorem dX12_to_0 : decode cX12_to 0 = .ok (.aload_n 0, 1) := by decide +kernel
theorem dX12_to_1 : decode cX12_to 1 = .ok (.getfield 42, 3) := by decide +kernel
theorem dX12_to_4 : decode cX12_to 4 = .ok (.sipush 387, 3) := by decide +kernel
theorem dX12_to_7 : decode cX12_to 7 = .ok (.iload_n 1, 1) := by decide +kernel
theorem dX12_to_8 : decode cX12_to 8 = .ok (.imul, 1) := by decide +kernel
theorem dX12_to_9 : decode cX12_to 9 = .ok (.iconst 3, 1) := by decide +kernel
theorem dX12_to_10 : decode cX12_to 10 = .ok (.iload_n 2, 1) := by decide +kernel
theorem dX12_to_11 : decode cX12_to 11 = .ok (.imul, 1) := by decide +kernel
theorem dX12_to_12 : decode cX12_to 12 = .ok (.iadd, 1) := by decide +kernel
theorem dX12_to_13 : decode cX12_to 13 = .ok (.iload_n 3, 1) := by decide +kernel
theorem dX12_to_14 : decode cX12_to 14 = .ok (.iadd, 1) := by decide +kernel
theorem dX12_to_15 : decode cX12_to 15 = .ok (.iaload, 1) := by decide +kernel
theorem dX12_to_16 : decode cX12_to 16 = .ok (.ireturn, 1) := by decide +kernel
theorem dX12_accepts_0 : decode cX12_accepts 0 = .ok (.iload_n 2, 1) := by decide +kernel
theorem dX12_accepts_1 : decode cX12_accepts 1 = .ok (.sipush 128, 3) := by decide +kernel
theorem dX12_accepts_4 : decode cX12_accepts 4 = .ok (.if_icmp .ne 21, 3) := by decide +kernel
theorem dX12_accepts_7 : decode cX12_accepts 7 = .ok (.aload_n 0, 1) := by decide +kernel
theorem dX12_accepts_8 : decode cX12_accepts 8 = .ok (.getfield 57, 3) := by decide +kernel
theorem dX12_accepts_11 : decode cX12_accepts 11 = .ok (.iload_n 1, 1) := by decide +kernel
theorem dX12_accepts_12 : decode cX12_accepts 12 = .ok (.iaload, 1) := by decide +kernel
theorem dX12_accepts_13 : decode cX12_accepts 13 = .ok (.iconst 1, 1) := by decide +kernel
theorem dX12_accepts_14 : decode cX12_accepts 14 = .ok (.if_icmp .ne 7, 3) := by decide +kernel
theorem dX12_accepts_17 : decode cX12_accepts 17 = .ok (.iconst 1, 1) := by decide +kernel
theorem dX12_accepts_18 : decode cX12_accepts 18 = .ok (.goto 23, 3) := by decide +kernel
theorem dX12_accepts_21 : decode cX12_accepts 21 = .ok (.iconst 0, 1) := by decide +kernel
theorem dX12_accepts_22 : decode cX12_accepts 22 = .ok (.goto 19, 3) := by decide +kernel
theorem dX12_accepts_25 : decode cX12_accepts 25 = .ok (.iload_n 2, 1) := by decide +kernel
theorem dX12_accepts_26 : decode cX12_accepts 26 = .ok (.aload_n 0, 1) := by decide +kernel
theorem dX12_accepts_27 : decode cX12_accepts 27 = .ok (.getfield 51, 3) := by decide +kernel
theorem dX12_accepts_30 : decode cX12_accepts 30 = .ok (.iload_n 1, 1) := by decide +kernel
theorem dX12_accepts_31 : decode cX12_accepts 31 = .ok (.iaload, 1) := by decide +kernel
theorem dX12_accepts_32 : decode cX12_accepts 32 = .ok (.iand, 1) := by decide +kernel
theorem dX12_accepts_33 : decode cX12_accepts 33 = .ok (.ifCond .eq 7, 3) := by decide +kernel
theorem dX12_accepts_36 : decode cX12_accepts 36 = .ok (.iconst 1, 1) := by decide +kernel
theorem dX12_accepts_37 : decode cX12_accepts 37 = .ok (.goto 4, 3) := by decide +kernel
theorem dX12_accepts_40 : decode cX12_accepts 40 = .ok (.iconst 0, 1) := by decide +kernel
theorem dX12_accepts_41 : decode cX12_accepts 41 = .ok (.ireturn, 1) := by decide +kernel
theorem dX12_reaches_0 : decode cX12_reaches 0 = .ok (.sipush 129, 3) := by decide +kernel
theorem dX12_reaches_3 : decode cX12_reaches 3 = .ok (.iload_n 1, 1) := by decide +kernel
theorem dX12_reaches_4 : decode cX12_reaches 4 = .ok (.imul, 1) := by decide +kernel
theorem dX12_reaches_5 : decode cX12_reaches 5 = .ok (.istore_n 2, 1) := by decide +kernel
theorem dX12_reaches_6 : decode cX12_reaches 6 = .ok (.iconst 0, 1) := by decide +kernel
theorem dX12_reaches_7 : decode cX12_reaches 7 = .ok (.istore_n 3, 1) := by decide +kernel
theorem dX12_reaches_8 : decode cX12_reaches 8 = .ok (.iload_n 3, 1) := by decide +kernel
theorem dX12_reaches_9 : decode cX12_reaches 9 = .ok (.sipush 129, 3) := by decide +kernel
theorem dX12_reaches_12 : decode cX12_reaches 12 = .ok (.if_icmp .ge 18, 3) := by decide +kernel
theorem dX12_reaches_15 : decode cX12_reaches 15 = .ok (.aload_n 0, 1) := by decide +kernel
theorem dX12_reaches_16 : decode cX12_reaches 16 = .ok (.getfield 72, 3) := by decide +kernel
theorem dX12_reaches_19 : decode cX12_reaches 19 = .ok (.iload_n 2, 1) := by decide +kernel
theorem dX12_reaches_20 : decode cX12_reaches 20 = .ok (.iload_n 3, 1) := by decide +kernel
theorem dX12_reaches_21 : decode cX12_reaches 21 = .ok (.iadd, 1) := by decide +kernel
theorem dX12_reaches_22 : decode cX12_reaches 22 = .ok (.iconst (-1), 1) := by decide +kernel
theorem dX12_reaches_23 : decode cX12_reaches 23 = .ok (.iastore, 1) := by decide +kernel
theorem dX12_reaches_24 : decode cX12_reaches 24 = .ok (.iinc 3 1, 3) := by decide +kernel
theorem dX12_reaches_27 : decode cX12_reaches 27 = .ok (.goto (-19), 3) := by decide +kernel
theorem dX12_reaches_30 : decode cX12_reaches 30 = .ok (.aload_n 0, 1) := by decide +kernel
theorem dX12_reaches_31 : decode cX12_reaches 31 = .ok (.getfield 69, 3) := by decide +kernel
theorem dX12_reaches_34 : decode cX12_reaches 34 = .ok (.iload_n 2, 1) := by decide +kernel
theorem dX12_reaches_35 : decode cX12_reaches 35 = .ok (.sipush 128, 3) := by decide +kernel
theorem dX12_reaches_38 : decode cX12_reaches 38 = .ok (.iastore, 1) := by decide +kernel
theorem dX12_reaches_39 : decode cX12_reaches 39 = .ok (.aload_n 0, 1) := by decide +kernel
theorem dX12_reaches_40 : decode cX12_reaches 40 = .ok (.getfield 72, 3) := by decide +kernel
theorem dX12_reaches_43 : decode cX12_reaches 43 = .ok (.iload_n 2, 1) := by decide +kernel
theorem dX12_reaches_44 : decode cX12_reaches 44 = .ok (.sipush 128, 3) := by decide +kernel
theorem dX12_reaches_47 : decode cX12_reaches 47 = .ok (.iadd, 1) := by decide +kernel
theorem dX12_reaches_48 : decode cX12_reaches 48 = .ok (.iconst 0, 1) := by decide +kernel
theorem dX12_reaches_49 : decode cX12_reaches 49 = .ok (.iastore, 1) := by decide +kernel
theorem dX12_reaches_50 : decode cX12_reaches 50 = .ok (.aload_n 0, 1) := by decide +kernel
theorem dX12_reaches_51 : decode cX12_reaches 51 = .ok (.iconst 1, 1) := by decide +kernel
theorem dX12_reaches_52 : decode cX12_reaches 52 = .ok (.putfield 274, 3) := by decide +kernel
theorem dX12_reaches_55 : decode cX12_reaches 55 = .ok (.iconst 0, 1) := by decide +kernel
theorem dX12_reaches_56 : decode cX12_reaches 56 = .ok (.istore_n 3, 1) := by decide +kernel
theorem dX12_reaches_57 : decode cX12_reaches 57 = .ok (.iload_n 3, 1) := by decide +kernel
theorem dX12_reaches_58 : decode cX12_reaches 58 = .ok (.aload_n 0, 1) := by decide +kernel
theorem dX12_reaches_59 : decode cX12_reaches 59 = .ok (.getfield 274, 3) := by decide +kernel
theorem dX12_reaches_62 : decode cX12_reaches 62 = .ok (.if_icmp .ge 92, 3) := by decide +kernel
theorem dX12_reaches_65 : decode cX12_reaches 65 = .ok (.iconst 0, 1) := by decide +kernel
theorem dX12_reaches_66 : decode cX12_reaches 66 = .ok (.istore 4, 2) := by decide +kernel
theorem dX12_reaches_68 : decode cX12_reaches 68 = .ok (.iload 4, 2) := by decide +kernel
theorem dX12_reaches_70 : decode cX12_reaches 70 = .ok (.iconst 3, 1) := by decide +kernel
theorem dX12_reaches_71 : decode cX12_reaches 71 = .ok (.if_icmp .ge 77, 3) := by decide +kernel
theorem dX12_reaches_74 : decode cX12_reaches 74 = .ok (.aload_n 0, 1) := by decide +kernel
theorem dX12_reaches_75 : decode cX12_reaches 75 = .ok (.iload_n 1, 1) := by decide +kernel
theorem dX12_reaches_76 : decode cX12_reaches 76 = .ok (.aload_n 0, 1) := by decide +kernel
theorem dX12_reaches_77 : decode cX12_reaches 77 = .ok (.getfield 69, 3) := by decide +kernel
theorem dX12_reaches_80 : decode cX12_reaches 80 = .ok (.iload_n 2, 1) := by decide +kernel
theorem dX12_reaches_81 : decode cX12_reaches 81 = .ok (.iload_n 3, 1) := by decide +kernel
theorem dX12_reaches_82 : decode cX12_reaches 82 = .ok (.iadd, 1) := by decide +kernel
theorem dX12_reaches_83 : decode cX12_reaches 83 = .ok (.iaload, 1) := by decide +kernel
theorem dX12_reaches_84 : decode cX12_reaches 84 = .ok (.iload 4, 2) := by decide +kernel
theorem dX12_reaches_86 : decode cX12_reaches 86 = .ok (.invokevirtual 277, 3) := by decide +kernel
theorem dX12_reaches_89 : decode cX12_reaches 89 = .ok (.istore 5, 2) := by decide +kernel
theorem dX12_reaches_91 : decode cX12_reaches 91 = .ok (.aload_n 0, 1) := by decide +kernel
theorem dX12_reaches_92 : decode cX12_reaches 92 = .ok (.getfield 72, 3) := by decide +kernel
theorem dX12_reaches_95 : decode cX12_reaches 95 = .ok (.iload_n 2, 1) := by decide +kernel
theorem dX12_reaches_96 : decode cX12_reaches 96 = .ok (.iload 5, 2) := by decide +kernel
theorem dX12_reaches_98 : decode cX12_reaches 98 = .ok (.iadd, 1) := by decide +kernel
theorem dX12_reaches_99 : decode cX12_reaches 99 = .ok (.iaload, 1) := by decide +kernel
theorem dX12_reaches_100 : decode cX12_reaches 100 = .ok (.ifCond .lt 6, 3) := by decide +kernel
theorem dX12_reaches_103 : decode cX12_reaches 103 = .ok (.goto 39, 3) := by decide +kernel
theorem dX12_reaches_106 : decode cX12_reaches 106 = .ok (.aload_n 0, 1) := by decide +kernel
theorem dX12_reaches_107 : decode cX12_reaches 107 = .ok (.getfield 72, 3) := by decide +kernel
theorem dX12_reaches_110 : decode cX12_reaches 110 = .ok (.iload_n 2, 1) := by decide +kernel
theorem dX12_reaches_111 : decode cX12_reaches 111 = .ok (.iload 5, 2) := by decide +kernel
theorem dX12_reaches_113 : decode cX12_reaches 113 = .ok (.iadd, 1) := by decide +kernel
theorem dX12_reaches_114 : decode cX12_reaches 114 = .ok (.aload_n 0, 1) := by decide +kernel
theorem dX12_reaches_115 : decode cX12_reaches 115 = .ok (.getfield 274, 3) := by decide +kernel
theorem dX12_reaches_118 : decode cX12_reaches 118 = .ok (.iastore, 1) := by decide +kernel
theorem dX12_reaches_119 : decode cX12_reaches 119 = .ok (.aload_n 0, 1) := by decide +kernel
theorem dX12_reaches_120 : decode cX12_reaches 120 = .ok (.getfield 69, 3) := by decide +kernel
theorem dX12_reaches_123 : decode cX12_reaches 123 = .ok (.iload_n 2, 1) := by decide +kernel
theorem dX12_reaches_124 : decode cX12_reaches 124 = .ok (.aload_n 0, 1) := by decide +kernel
theorem dX12_reaches_125 : decode cX12_reaches 125 = .ok (.getfield 274, 3) := by decide +kernel
theorem dX12_reaches_128 : decode cX12_reaches 128 = .ok (.iadd, 1) := by decide +kernel
theorem dX12_reaches_129 : decode cX12_reaches 129 = .ok (.iload 5, 2) := by decide +kernel
theorem dX12_reaches_131 : decode cX12_reaches 131 = .ok (.iastore, 1) := by decide +kernel
theorem dX12_reaches_132 : decode cX12_reaches 132 = .ok (.aload_n 0, 1) := by decide +kernel
theorem dX12_reaches_133 : decode cX12_reaches 133 = .ok (.dup, 1) := by decide +kernel
theorem dX12_reaches_134 : decode cX12_reaches 134 = .ok (.getfield 274, 3) := by decide +kernel
theorem dX12_reaches_137 : decode cX12_reaches 137 = .ok (.iconst 1, 1) := by decide +kernel
theorem dX12_reaches_138 : decode cX12_reaches 138 = .ok (.iadd, 1) := by decide +kernel
theorem dX12_reaches_139 : decode cX12_reaches 139 = .ok (.putfield 274, 3) := by decide +kernel
theorem dX12_reaches_142 : decode cX12_reaches 142 = .ok (.iinc 4 1, 3) := by decide +kernel
theorem dX12_reaches_145 : decode cX12_reaches 145 = .ok (.goto (-77), 3) := by decide +kernel
theorem dX12_reaches_148 : decode cX12_reaches 148 = .ok (.iinc 3 1, 3) := by decide +kernel
theorem dX12_reaches_151 : decode cX12_reaches 151 = .ok (.goto (-94), 3) := by decide +kernel
theorem dX12_reaches_154 : decode cX12_reaches 154 = .ok (.aload_n 0, 1) := by decide +kernel
theorem dX12_reaches_155 : decode cX12_reaches 155 = .ok (.getfield 75, 3) := by decide +kernel
theorem dX12_reaches_158 : decode cX12_reaches 158 = .ok (.iload_n 1, 1) := by decide +kernel
theorem dX12_reaches_159 : decode cX12_reaches 159 = .ok (.aload_n 0, 1) := by decide +kernel
theorem dX12_reaches_160 : decode cX12_reaches 160 = .ok (.getfield 274, 3) := by decide +kernel
theorem dX12_reaches_163 : decode cX12_reaches 163 = .ok (.iastore, 1) := by decide +kernel
theorem dX12_reaches_164 : decode cX12_reaches 164 = .ok (.return_, 1) := by decide +kernel
theorem dX12_opens_0 : decode cX12_opens 0 = .ok (.aload_n 0, 1) := by decide +kernel
theorem dX12_opens_1 : decode cX12_opens 1 = .ok (.iconst 0, 1) := by decide +kernel
theorem dX12_opens_2 : decode cX12_opens 2 = .ok (.iload_n 1, 1) := by decide +kernel
theorem dX12_opens_3 : decode cX12_opens 3 = .ok (.invokevirtual 280, 3) := by decide +kernel
theorem dX12_opens_6 : decode cX12_opens 6 = .ok (.aload_n 0, 1) := by decide +kernel
theorem dX12_opens_7 : decode cX12_opens 7 = .ok (.iconst 0, 1) := by decide +kernel
theorem dX12_opens_8 : decode cX12_opens 8 = .ok (.invokevirtual 283, 3) := by decide +kernel
theorem dX12_opens_11 : decode cX12_opens 11 = .ok (.return_, 1) := by decide +kernel
theorem dX12_findsFar_0 : decode cX12_findsFar 0 = .ok (.iconst 0, 1) := by decide +kernel
theorem dX12_findsFar_1 : decode cX12_findsFar 1 = .ok (.istore_n 1, 1) := by decide +kernel
theorem dX12_findsFar_2 : decode cX12_findsFar 2 = .ok (.iload_n 1, 1) := by decide +kernel
theorem dX12_findsFar_3 : decode cX12_findsFar 3 = .ok (.sipush 129, 3) := by decide +kernel
theorem dX12_findsFar_6 : decode cX12_findsFar 6 = .ok (.if_icmp .ge 31, 3) := by decide +kernel
theorem dX12_findsFar_9 : decode cX12_findsFar 9 = .ok (.aload_n 0, 1) := by decide +kernel
theorem dX12_findsFar_10 : decode cX12_findsFar 10 = .ok (.getfield 84, 3) := by decide +kernel
theorem dX12_findsFar_13 : decode cX12_findsFar 13 = .ok (.iload_n 1, 1) := by decide +kernel
theorem dX12_findsFar_14 : decode cX12_findsFar 14 = .ok (.aload_n 0, 1) := by decide +kernel
theorem dX12_findsFar_15 : decode cX12_findsFar 15 = .ok (.iconst 0, 1) := by decide +kernel
theorem dX12_findsFar_16 : decode cX12_findsFar 16 = .ok (.iload_n 1, 1) := by decide +kernel
theorem dX12_findsFar_17 : decode cX12_findsFar 17 = .ok (.invokevirtual 286, 3) := by decide +kernel
theorem dX12_findsFar_20 : decode cX12_findsFar 20 = .ok (.ifCond .eq 7, 3) := by decide +kernel
theorem dX12_findsFar_23 : decode cX12_findsFar 23 = .ok (.iconst 0, 1) := by decide +kernel
theorem dX12_findsFar_24 : decode cX12_findsFar 24 = .ok (.goto 6, 3) := by decide +kernel
theorem dX12_findsFar_27 : decode cX12_findsFar 27 = .ok (.sipush 999, 3) := by decide +kernel
theorem dX12_findsFar_30 : decode cX12_findsFar 30 = .ok (.iastore, 1) := by decide +kernel
theorem dX12_findsFar_31 : decode cX12_findsFar 31 = .ok (.iinc 1 1, 3) := by decide +kernel
theorem dX12_findsFar_34 : decode cX12_findsFar 34 = .ok (.goto (-32), 3) := by decide +kernel
theorem dX12_findsFar_37 : decode cX12_findsFar 37 = .ok (.iconst 1, 1) := by decide +kernel
theorem dX12_findsFar_38 : decode cX12_findsFar 38 = .ok (.istore_n 1, 1) := by decide +kernel
theorem dX12_findsFar_39 : decode cX12_findsFar 39 = .ok (.iload_n 1, 1) := by decide +kernel
theorem dX12_findsFar_40 : decode cX12_findsFar 40 = .ok (.ifCond .eq 92, 3) := by decide +kernel
theorem dX12_findsFar_43 : decode cX12_findsFar 43 = .ok (.iconst 0, 1) := by decide +kernel
theorem dX12_findsFar_44 : decode cX12_findsFar 44 = .ok (.istore_n 1, 1) := by decide +kernel
theorem dX12_findsFar_45 : decode cX12_findsFar 45 = .ok (.iconst 0, 1) := by decide +kernel
theorem dX12_findsFar_46 : decode cX12_findsFar 46 = .ok (.istore_n 2, 1) := by decide +kernel
theorem dX12_findsFar_47 : decode cX12_findsFar 47 = .ok (.iload_n 2, 1) := by decide +kernel
theorem dX12_findsFar_48 : decode cX12_findsFar 48 = .ok (.aload_n 0, 1) := by decide +kernel
theorem dX12_findsFar_49 : decode cX12_findsFar 49 = .ok (.getfield 274, 3) := by decide +kernel
theorem dX12_findsFar_52 : decode cX12_findsFar 52 = .ok (.if_icmp .ge 77, 3) := by decide +kernel
theorem dX12_findsFar_55 : decode cX12_findsFar 55 = .ok (.iconst 0, 1) := by decide +kernel
theorem dX12_findsFar_56 : decode cX12_findsFar 56 = .ok (.istore_n 3, 1) := by decide +kernel
theorem dX12_findsFar_57 : decode cX12_findsFar 57 = .ok (.iload_n 3, 1) := by decide +kernel
theorem dX12_findsFar_58 : decode cX12_findsFar 58 = .ok (.iconst 3, 1) := by decide +kernel
theorem dX12_findsFar_59 : decode cX12_findsFar 59 = .ok (.if_icmp .ge 64, 3) := by decide +kernel
theorem dX12_findsFar_62 : decode cX12_findsFar 62 = .ok (.aload_n 0, 1) := by decide +kernel
theorem dX12_findsFar_63 : decode cX12_findsFar 63 = .ok (.getfield 84, 3) := by decide +kernel
theorem dX12_findsFar_66 : decode cX12_findsFar 66 = .ok (.aload_n 0, 1) := by decide +kernel
theorem dX12_findsFar_67 : decode cX12_findsFar 67 = .ok (.iconst 0, 1) := by decide +kernel
theorem dX12_findsFar_68 : decode cX12_findsFar 68 = .ok (.aload_n 0, 1) := by decide +kernel
theorem dX12_findsFar_69 : decode cX12_findsFar 69 = .ok (.getfield 69, 3) := by decide +kernel
theorem dX12_findsFar_72 : decode cX12_findsFar 72 = .ok (.iload_n 2, 1) := by decide +kernel
theorem dX12_findsFar_73 : decode cX12_findsFar 73 = .ok (.iaload, 1) := by decide +kernel
theorem dX12_findsFar_74 : decode cX12_findsFar 74 = .ok (.iload_n 3, 1) := by decide +kernel
theorem dX12_findsFar_75 : decode cX12_findsFar 75 = .ok (.invokevirtual 277, 3) := by decide +kernel
theorem dX12_findsFar_78 : decode cX12_findsFar 78 = .ok (.iaload, 1) := by decide +kernel
theorem dX12_findsFar_79 : decode cX12_findsFar 79 = .ok (.iconst 1, 1) := by decide +kernel
theorem dX12_findsFar_80 : decode cX12_findsFar 80 = .ok (.iadd, 1) := by decide +kernel
theorem dX12_findsFar_81 : decode cX12_findsFar 81 = .ok (.istore 4, 2) := by decide +kernel
theorem dX12_findsFar_83 : decode cX12_findsFar 83 = .ok (.iload 4, 2) := by decide +kernel
theorem dX12_findsFar_85 : decode cX12_findsFar 85 = .ok (.aload_n 0, 1) := by decide +kernel
theorem dX12_findsFar_86 : decode cX12_findsFar 86 = .ok (.getfield 84, 3) := by decide +kernel
theorem dX12_findsFar_89 : decode cX12_findsFar 89 = .ok (.aload_n 0, 1) := by decide +kernel
theorem dX12_findsFar_90 : decode cX12_findsFar 90 = .ok (.getfield 69, 3) := by decide +kernel
theorem dX12_findsFar_93 : decode cX12_findsFar 93 = .ok (.iload_n 2, 1) := by decide +kernel
theorem dX12_findsFar_94 : decode cX12_findsFar 94 = .ok (.iaload, 1) := by decide +kernel
theorem dX12_findsFar_95 : decode cX12_findsFar 95 = .ok (.iaload, 1) := by decide +kernel
theorem dX12_findsFar_96 : decode cX12_findsFar 96 = .ok (.if_icmp .lt 6, 3) := by decide +kernel
theorem dX12_findsFar_99 : decode cX12_findsFar 99 = .ok (.goto 18, 3) := by decide +kernel
theorem dX12_findsFar_102 : decode cX12_findsFar 102 = .ok (.aload_n 0, 1) := by decide +kernel
theorem dX12_findsFar_103 : decode cX12_findsFar 103 = .ok (.getfield 84, 3) := by decide +kernel
theorem dX12_findsFar_106 : decode cX12_findsFar 106 = .ok (.aload_n 0, 1) := by decide +kernel
theorem dX12_findsFar_107 : decode cX12_findsFar 107 = .ok (.getfield 69, 3) := by decide +kernel
theorem dX12_findsFar_110 : decode cX12_findsFar 110 = .ok (.iload_n 2, 1) := by decide +kernel
theorem dX12_findsFar_111 : decode cX12_findsFar 111 = .ok (.iaload, 1) := by decide +kernel
theorem dX12_findsFar_112 : decode cX12_findsFar 112 = .ok (.iload 4, 2) := by decide +kernel
theorem dX12_findsFar_114 : decode cX12_findsFar 114 = .ok (.iastore, 1) := by decide +kernel
theorem dX12_findsFar_115 : decode cX12_findsFar 115 = .ok (.iconst 1, 1) := by decide +kernel
theorem dX12_findsFar_116 : decode cX12_findsFar 116 = .ok (.istore_n 1, 1) := by decide +kernel
theorem dX12_findsFar_117 : decode cX12_findsFar 117 = .ok (.iinc 3 1, 3) := by decide +kernel
theorem dX12_findsFar_120 : decode cX12_findsFar 120 = .ok (.goto (-63), 3) := by decide +kernel
theorem dX12_findsFar_123 : decode cX12_findsFar 123 = .ok (.iinc 2 1, 3) := by decide +kernel
theorem dX12_findsFar_126 : decode cX12_findsFar 126 = .ok (.goto (-79), 3) := by decide +kernel
theorem dX12_findsFar_129 : decode cX12_findsFar 129 = .ok (.goto (-90), 3) := by decide +kernel
theorem dX12_findsFar_132 : decode cX12_findsFar 132 = .ok (.return_, 1) := by decide +kernel
theorem dX12_areAlike_0 : decode cX12_areAlike 0 = .ok (.aload_n 0, 1) := by decide +kernel
theorem dX12_areAlike_1 : decode cX12_areAlike 1 = .ok (.getfield 78, 3) := by decide +kernel
theorem dX12_areAlike_4 : decode cX12_areAlike 4 = .ok (.iload_n 1, 1) := by decide +kernel
theorem dX12_areAlike_5 : decode cX12_areAlike 5 = .ok (.iaload, 1) := by decide +kernel
theorem dX12_areAlike_6 : decode cX12_areAlike 6 = .ok (.aload_n 0, 1) := by decide +kernel
theorem dX12_areAlike_7 : decode cX12_areAlike 7 = .ok (.getfield 78, 3) := by decide +kernel
theorem dX12_areAlike_10 : decode cX12_areAlike 10 = .ok (.iload_n 2, 1) := by decide +kernel
theorem dX12_areAlike_11 : decode cX12_areAlike 11 = .ok (.iaload, 1) := by decide +kernel
theorem dX12_areAlike_12 : decode cX12_areAlike 12 = .ok (.if_icmp .eq 5, 3) := by decide +kernel
theorem dX12_areAlike_15 : decode cX12_areAlike 15 = .ok (.iconst 0, 1) := by decide +kernel
theorem dX12_areAlike_16 : decode cX12_areAlike 16 = .ok (.ireturn, 1) := by decide +kernel
theorem dX12_areAlike_17 : decode cX12_areAlike 17 = .ok (.iconst 0, 1) := by decide +kernel
theorem dX12_areAlike_18 : decode cX12_areAlike 18 = .ok (.istore_n 3, 1) := by decide +kernel
theorem dX12_areAlike_19 : decode cX12_areAlike 19 = .ok (.iload_n 3, 1) := by decide +kernel
theorem dX12_areAlike_20 : decode cX12_areAlike 20 = .ok (.iconst 3, 1) := by decide +kernel
theorem dX12_areAlike_21 : decode cX12_areAlike 21 = .ok (.if_icmp .ge 58, 3) := by decide +kernel
theorem dX12_areAlike_24 : decode cX12_areAlike 24 = .ok (.aload_n 0, 1) := by decide +kernel
theorem dX12_areAlike_25 : decode cX12_areAlike 25 = .ok (.getfield 78, 3) := by decide +kernel
theorem dX12_areAlike_28 : decode cX12_areAlike 28 = .ok (.aload_n 0, 1) := by decide +kernel
theorem dX12_areAlike_29 : decode cX12_areAlike 29 = .ok (.getfield 72, 3) := by decide +kernel
theorem dX12_areAlike_32 : decode cX12_areAlike 32 = .ok (.aload_n 0, 1) := by decide +kernel
theorem dX12_areAlike_33 : decode cX12_areAlike 33 = .ok (.iconst 0, 1) := by decide +kernel
theorem dX12_areAlike_34 : decode cX12_areAlike 34 = .ok (.aload_n 0, 1) := by decide +kernel
theorem dX12_areAlike_35 : decode cX12_areAlike 35 = .ok (.getfield 69, 3) := by decide +kernel
theorem dX12_areAlike_38 : decode cX12_areAlike 38 = .ok (.iload_n 1, 1) := by decide +kernel
theorem dX12_areAlike_39 : decode cX12_areAlike 39 = .ok (.iaload, 1) := by decide +kernel
theorem dX12_areAlike_40 : decode cX12_areAlike 40 = .ok (.iload_n 3, 1) := by decide +kernel
theorem dX12_areAlike_41 : decode cX12_areAlike 41 = .ok (.invokevirtual 277, 3) := by decide +kernel
theorem dX12_areAlike_44 : decode cX12_areAlike 44 = .ok (.iaload, 1) := by decide +kernel
theorem dX12_areAlike_45 : decode cX12_areAlike 45 = .ok (.iaload, 1) := by decide +kernel
theorem dX12_areAlike_46 : decode cX12_areAlike 46 = .ok (.aload_n 0, 1) := by decide +kernel
theorem dX12_areAlike_47 : decode cX12_areAlike 47 = .ok (.getfield 78, 3) := by decide +kernel
theorem dX12_areAlike_50 : decode cX12_areAlike 50 = .ok (.aload_n 0, 1) := by decide +kernel
theorem dX12_areAlike_51 : decode cX12_areAlike 51 = .ok (.getfield 72, 3) := by decide +kernel
theorem dX12_areAlike_54 : decode cX12_areAlike 54 = .ok (.aload_n 0, 1) := by decide +kernel
theorem dX12_areAlike_55 : decode cX12_areAlike 55 = .ok (.iconst 0, 1) := by decide +kernel
theorem dX12_areAlike_56 : decode cX12_areAlike 56 = .ok (.aload_n 0, 1) := by decide +kernel
theorem dX12_areAlike_57 : decode cX12_areAlike 57 = .ok (.getfield 69, 3) := by decide +kernel
theorem dX12_areAlike_60 : decode cX12_areAlike 60 = .ok (.iload_n 2, 1) := by decide +kernel
theorem dX12_areAlike_61 : decode cX12_areAlike 61 = .ok (.iaload, 1) := by decide +kernel
theorem dX12_areAlike_62 : decode cX12_areAlike 62 = .ok (.iload_n 3, 1) := by decide +kernel
theorem dX12_areAlike_63 : decode cX12_areAlike 63 = .ok (.invokevirtual 277, 3) := by decide +kernel
theorem dX12_areAlike_66 : decode cX12_areAlike 66 = .ok (.iaload, 1) := by decide +kernel
theorem dX12_areAlike_67 : decode cX12_areAlike 67 = .ok (.iaload, 1) := by decide +kernel
theorem dX12_areAlike_68 : decode cX12_areAlike 68 = .ok (.if_icmp .eq 5, 3) := by decide +kernel
theorem dX12_areAlike_71 : decode cX12_areAlike 71 = .ok (.iconst 0, 1) := by decide +kernel
theorem dX12_areAlike_72 : decode cX12_areAlike 72 = .ok (.ireturn, 1) := by decide +kernel
theorem dX12_areAlike_73 : decode cX12_areAlike 73 = .ok (.iinc 3 1, 3) := by decide +kernel
theorem dX12_areAlike_76 : decode cX12_areAlike 76 = .ok (.goto (-57), 3) := by decide +kernel
theorem dX12_areAlike_79 : decode cX12_areAlike 79 = .ok (.iconst 1, 1) := by decide +kernel
theorem dX12_areAlike_80 : decode cX12_areAlike 80 = .ok (.ireturn, 1) := by decide +kernel
theorem dX12_divides_0 : decode cX12_divides 0 = .ok (.iconst 0, 1) := by decide +kernel
theorem dX12_divides_1 : decode cX12_divides 1 = .ok (.istore_n 1, 1) := by decide +kernel
theorem dX12_divides_2 : decode cX12_divides 2 = .ok (.iconst 0, 1) := by decide +kernel
theorem dX12_divides_3 : decode cX12_divides 3 = .ok (.istore_n 2, 1) := by decide +kernel
theorem dX12_divides_4 : decode cX12_divides 4 = .ok (.iload_n 2, 1) := by decide +kernel
theorem dX12_divides_5 : decode cX12_divides 5 = .ok (.aload_n 0, 1) := by decide +kernel
theorem dX12_divides_6 : decode cX12_divides 6 = .ok (.getfield 274, 3) := by decide +kernel
theorem dX12_divides_9 : decode cX12_divides 9 = .ok (.if_icmp .ge 65, 3) := by decide +kernel
theorem dX12_divides_12 : decode cX12_divides 12 = .ok (.iconst 0, 1) := by decide +kernel
theorem dX12_divides_13 : decode cX12_divides 13 = .ok (.istore_n 3, 1) := by decide +kernel
theorem dX12_divides_14 : decode cX12_divides 14 = .ok (.iload_n 3, 1) := by decide +kernel
theorem dX12_divides_15 : decode cX12_divides 15 = .ok (.iload_n 2, 1) := by decide +kernel
theorem dX12_divides_16 : decode cX12_divides 16 = .ok (.if_icmp .ge 18, 3) := by decide +kernel
theorem dX12_divides_19 : decode cX12_divides 19 = .ok (.aload_n 0, 1) := by decide +kernel
theorem dX12_divides_20 : decode cX12_divides 20 = .ok (.iload_n 2, 1) := by decide +kernel
theorem dX12_divides_21 : decode cX12_divides 21 = .ok (.iload_n 3, 1) := by decide +kernel
theorem dX12_divides_22 : decode cX12_divides 22 = .ok (.invokevirtual 289, 3) := by decide +kernel
theorem dX12_divides_25 : decode cX12_divides 25 = .ok (.ifCond .ne 9, 3) := by decide +kernel
theorem dX12_divides_28 : decode cX12_divides 28 = .ok (.iinc 3 1, 3) := by decide +kernel
theorem dX12_divides_31 : decode cX12_divides 31 = .ok (.goto (-17), 3) := by decide +kernel
theorem dX12_divides_34 : decode cX12_divides 34 = .ok (.aload_n 0, 1) := by decide +kernel
theorem dX12_divides_35 : decode cX12_divides 35 = .ok (.getfield 81, 3) := by decide +kernel
theorem dX12_divides_38 : decode cX12_divides 38 = .ok (.iload_n 2, 1) := by decide +kernel
theorem dX12_divides_39 : decode cX12_divides 39 = .ok (.iload_n 3, 1) := by decide +kernel
theorem dX12_divides_40 : decode cX12_divides 40 = .ok (.iload_n 2, 1) := by decide +kernel
theorem dX12_divides_41 : decode cX12_divides 41 = .ok (.if_icmp .ge 12, 3) := by decide +kernel
theorem dX12_divides_44 : decode cX12_divides 44 = .ok (.aload_n 0, 1) := by decide +kernel
theorem dX12_divides_45 : decode cX12_divides 45 = .ok (.getfield 81, 3) := by decide +kernel
theorem dX12_divides_48 : decode cX12_divides 48 = .ok (.iload_n 3, 1) := by decide +kernel
theorem dX12_divides_49 : decode cX12_divides 49 = .ok (.iaload, 1) := by decide +kernel
theorem dX12_divides_50 : decode cX12_divides 50 = .ok (.goto 4, 3) := by decide +kernel
theorem dX12_divides_53 : decode cX12_divides 53 = .ok (.iload_n 1, 1) := by decide +kernel
theorem dX12_divides_54 : decode cX12_divides 54 = .ok (.iastore, 1) := by decide +kernel
theorem dX12_divides_55 : decode cX12_divides 55 = .ok (.iload_n 1, 1) := by decide +kernel
theorem dX12_divides_56 : decode cX12_divides 56 = .ok (.iload_n 3, 1) := by decide +kernel
theorem dX12_divides_57 : decode cX12_divides 57 = .ok (.iload_n 2, 1) := by decide +kernel
theorem dX12_divides_58 : decode cX12_divides 58 = .ok (.if_icmp .ge 7, 3) := by decide +kernel
theorem dX12_divides_61 : decode cX12_divides 61 = .ok (.iconst 0, 1) := by decide +kernel
theorem dX12_divides_62 : decode cX12_divides 62 = .ok (.goto 4, 3) := by decide +kernel
theorem dX12_divides_65 : decode cX12_divides 65 = .ok (.iconst 1, 1) := by decide +kernel
theorem dX12_divides_66 : decode cX12_divides 66 = .ok (.iadd, 1) := by decide +kernel
theorem dX12_divides_67 : decode cX12_divides 67 = .ok (.istore_n 1, 1) := by decide +kernel
theorem dX12_divides_68 : decode cX12_divides 68 = .ok (.iinc 2 1, 3) := by decide +kernel
theorem dX12_divides_71 : decode cX12_divides 71 = .ok (.goto (-67), 3) := by decide +kernel
theorem dX12_divides_74 : decode cX12_divides 74 = .ok (.iconst 0, 1) := by decide +kernel
theorem dX12_divides_75 : decode cX12_divides 75 = .ok (.istore_n 2, 1) := by decide +kernel
theorem dX12_divides_76 : decode cX12_divides 76 = .ok (.iload_n 2, 1) := by decide +kernel
theorem dX12_divides_77 : decode cX12_divides 77 = .ok (.aload_n 0, 1) := by decide +kernel
theorem dX12_divides_78 : decode cX12_divides 78 = .ok (.getfield 274, 3) := by decide +kernel
theorem dX12_divides_81 : decode cX12_divides 81 = .ok (.if_icmp .ge 21, 3) := by decide +kernel
theorem dX12_divides_84 : decode cX12_divides 84 = .ok (.aload_n 0, 1) := by decide +kernel
theorem dX12_divides_85 : decode cX12_divides 85 = .ok (.getfield 78, 3) := by decide +kernel
theorem dX12_divides_88 : decode cX12_divides 88 = .ok (.iload_n 2, 1) := by decide +kernel
theorem dX12_divides_89 : decode cX12_divides 89 = .ok (.aload_n 0, 1) := by decide +kernel
theorem dX12_divides_90 : decode cX12_divides 90 = .ok (.getfield 81, 3) := by decide +kernel
theorem dX12_divides_93 : decode cX12_divides 93 = .ok (.iload_n 2, 1) := by decide +kernel
theorem dX12_divides_94 : decode cX12_divides 94 = .ok (.iaload, 1) := by decide +kernel
theorem dX12_divides_95 : decode cX12_divides 95 = .ok (.iastore, 1) := by decide +kernel
theorem dX12_divides_96 : decode cX12_divides 96 = .ok (.iinc 2 1, 3) := by decide +kernel
theorem dX12_divides_99 : decode cX12_divides 99 = .ok (.goto (-23), 3) := by decide +kernel
theorem dX12_divides_102 : decode cX12_divides 102 = .ok (.iload_n 1, 1) := by decide +kernel
theorem dX12_divides_103 : decode cX12_divides 103 = .ok (.ireturn, 1) := by decide +kernel
theorem dX12_smallest_0 : decode cX12_smallest 0 = .ok (.aload_n 0, 1) := by decide +kernel
theorem dX12_smallest_1 : decode cX12_smallest 1 = .ok (.iload_n 1, 1) := by decide +kernel
theorem dX12_smallest_2 : decode cX12_smallest 2 = .ok (.invokevirtual 292, 3) := by decide +kernel
theorem dX12_smallest_5 : decode cX12_smallest 5 = .ok (.iconst 0, 1) := by decide +kernel
theorem dX12_smallest_6 : decode cX12_smallest 6 = .ok (.istore_n 2, 1) := by decide +kernel
theorem dX12_smallest_7 : decode cX12_smallest 7 = .ok (.iload_n 2, 1) := by decide +kernel
theorem dX12_smallest_8 : decode cX12_smallest 8 = .ok (.aload_n 0, 1) := by decide +kernel
theorem dX12_smallest_9 : decode cX12_smallest 9 = .ok (.getfield 274, 3) := by decide +kernel
theorem dX12_smallest_12 : decode cX12_smallest 12 = .ok (.if_icmp .ge 34, 3) := by decide +kernel
theorem dX12_smallest_15 : decode cX12_smallest 15 = .ok (.aload_n 0, 1) := by decide +kernel
theorem dX12_smallest_16 : decode cX12_smallest 16 = .ok (.getfield 78, 3) := by decide +kernel
theorem dX12_smallest_19 : decode cX12_smallest 19 = .ok (.iload_n 2, 1) := by decide +kernel
theorem dX12_smallest_20 : decode cX12_smallest 20 = .ok (.aload_n 0, 1) := by decide +kernel
theorem dX12_smallest_21 : decode cX12_smallest 21 = .ok (.iconst 0, 1) := by decide +kernel
theorem dX12_smallest_22 : decode cX12_smallest 22 = .ok (.aload_n 0, 1) := by decide +kernel
theorem dX12_smallest_23 : decode cX12_smallest 23 = .ok (.getfield 69, 3) := by decide +kernel
theorem dX12_smallest_26 : decode cX12_smallest 26 = .ok (.iload_n 2, 1) := by decide +kernel
theorem dX12_smallest_27 : decode cX12_smallest 27 = .ok (.iaload, 1) := by decide +kernel
theorem dX12_smallest_28 : decode cX12_smallest 28 = .ok (.invokevirtual 286, 3) := by decide +kernel
theorem dX12_smallest_31 : decode cX12_smallest 31 = .ok (.ifCond .eq 7, 3) := by decide +kernel
theorem dX12_smallest_34 : decode cX12_smallest 34 = .ok (.iconst 1, 1) := by decide +kernel
theorem dX12_smallest_35 : decode cX12_smallest 35 = .ok (.goto 4, 3) := by decide +kernel
theorem dX12_smallest_38 : decode cX12_smallest 38 = .ok (.iconst 0, 1) := by decide +kernel
theorem dX12_smallest_39 : decode cX12_smallest 39 = .ok (.iastore, 1) := by decide +kernel
theorem dX12_smallest_40 : decode cX12_smallest 40 = .ok (.iinc 2 1, 3) := by decide +kernel
theorem dX12_smallest_43 : decode cX12_smallest 43 = .ok (.goto (-36), 3) := by decide +kernel
theorem dX12_smallest_46 : decode cX12_smallest 46 = .ok (.iconst 0, 1) := by decide +kernel
theorem dX12_smallest_47 : decode cX12_smallest 47 = .ok (.istore_n 2, 1) := by decide +kernel
theorem dX12_smallest_48 : decode cX12_smallest 48 = .ok (.iconst 1, 1) := by decide +kernel
theorem dX12_smallest_49 : decode cX12_smallest 49 = .ok (.istore_n 3, 1) := by decide +kernel
theorem dX12_smallest_50 : decode cX12_smallest 50 = .ok (.iload_n 3, 1) := by decide +kernel
theorem dX12_smallest_51 : decode cX12_smallest 51 = .ok (.iload_n 2, 1) := by decide +kernel
theorem dX12_smallest_52 : decode cX12_smallest 52 = .ok (.if_icmp .le 13, 3) := by decide +kernel
theorem dX12_smallest_55 : decode cX12_smallest 55 = .ok (.iload_n 3, 1) := by decide +kernel
theorem dX12_smallest_56 : decode cX12_smallest 56 = .ok (.istore_n 2, 1) := by decide +kernel
theorem dX12_smallest_57 : decode cX12_smallest 57 = .ok (.aload_n 0, 1) := by decide +kernel
theorem dX12_smallest_58 : decode cX12_smallest 58 = .ok (.invokevirtual 295, 3) := by decide +kernel
theorem dX12_smallest_61 : decode cX12_smallest 61 = .ok (.istore_n 3, 1) := by decide +kernel
theorem dX12_smallest_62 : decode cX12_smallest 62 = .ok (.goto (-12), 3) := by decide +kernel
theorem dX12_smallest_65 : decode cX12_smallest 65 = .ok (.iload_n 3, 1) := by decide +kernel
theorem dX12_smallest_66 : decode cX12_smallest 66 = .ok (.ireturn, 1) := by decide +kernel
theorem dX12_row_0 : decode cX12_row 0 = .ok (.iconst 5, 1) := by decide +kernel
theorem dX12_row_1 : decode cX12_row 1 = .ok (.iload_n 0, 1) := by decide +kernel
theorem dX12_row_2 : decode cX12_row 2 = .ok (.imul, 1) := by decide +kernel
theorem dX12_row_3 : decode cX12_row 3 = .ok (.iload_n 1, 1) := by decide +kernel
theorem dX12_row_4 : decode cX12_row 4 = .ok (.bipush 30, 2) := by decide +kernel
theorem dX12_row_6 : decode cX12_row 6 = .ok (.idiv, 1) := by decide +kernel
theorem dX12_row_7 : decode cX12_row 7 = .ok (.iadd, 1) := by decide +kernel
theorem dX12_row_8 : decode cX12_row 8 = .ok (.ireturn, 1) := by decide +kernel
theorem dX12_bit_0 : decode cX12_bit 0 = .ok (.iconst 1, 1) := by decide +kernel
theorem dX12_bit_1 : decode cX12_bit 1 = .ok (.iload_n 0, 1) := by decide +kernel
theorem dX12_bit_2 : decode cX12_bit 2 = .ok (.bipush 30, 2) := by decide +kernel
theorem dX12_bit_4 : decode cX12_bit 4 = .ok (.irem, 1) := by decide +kernel
theorem dX12_bit_5 : decode cX12_bit 5 = .ok (.ishl, 1) := by decide +kernel
theorem dX12_bit_6 : decode cX12_bit 6 = .ok (.ireturn, 1) := by decide +kernel
theorem dX12_tells_0 : decode cX12_tells 0 = .ok (.iload_n 3, 1) := by decide +kernel
theorem dX12_tells_1 : decode cX12_tells 1 = .ok (.ifCond .eq 29, 3) := by decide +kernel
theorem dX12_tells_4 : decode cX12_tells 4 = .ok (.aload_n 0, 1) := by decide +kernel
theorem dX12_tells_5 : decode cX12_tells 5 = .ok (.iconst 0, 1) := by decide +kernel
theorem dX12_tells_6 : decode cX12_tells 6 = .ok (.iload_n 1, 1) := by decide +kernel
theorem dX12_tells_7 : decode cX12_tells 7 = .ok (.invokevirtual 286, 3) := by decide +kernel
theorem dX12_tells_10 : decode cX12_tells 10 = .ok (.ifCond .eq 16, 3) := by decide +kernel
theorem dX12_tells_13 : decode cX12_tells 13 = .ok (.aload_n 0, 1) := by decide +kernel
theorem dX12_tells_14 : decode cX12_tells 14 = .ok (.iconst 1, 1) := by decide +kernel
theorem dX12_tells_15 : decode cX12_tells 15 = .ok (.iload_n 2, 1) := by decide +kernel
theorem dX12_tells_16 : decode cX12_tells 16 = .ok (.invokevirtual 286, 3) := by decide +kernel
theorem dX12_tells_19 : decode cX12_tells 19 = .ok (.ifCond .ne 7, 3) := by decide +kernel
theorem dX12_tells_22 : decode cX12_tells 22 = .ok (.iconst 1, 1) := by decide +kernel
theorem dX12_tells_23 : decode cX12_tells 23 = .ok (.goto 27, 3) := by decide +kernel
theorem dX12_tells_26 : decode cX12_tells 26 = .ok (.iconst 0, 1) := by decide +kernel
theorem dX12_tells_27 : decode cX12_tells 27 = .ok (.goto 23, 3) := by decide +kernel
theorem dX12_tells_30 : decode cX12_tells 30 = .ok (.aload_n 0, 1) := by decide +kernel
theorem dX12_tells_31 : decode cX12_tells 31 = .ok (.iconst 0, 1) := by decide +kernel
theorem dX12_tells_32 : decode cX12_tells 32 = .ok (.iload_n 1, 1) := by decide +kernel
theorem dX12_tells_33 : decode cX12_tells 33 = .ok (.invokevirtual 286, 3) := by decide +kernel
theorem dX12_tells_36 : decode cX12_tells 36 = .ok (.aload_n 0, 1) := by decide +kernel
theorem dX12_tells_37 : decode cX12_tells 37 = .ok (.iconst 1, 1) := by decide +kernel
theorem dX12_tells_38 : decode cX12_tells 38 = .ok (.iload_n 2, 1) := by decide +kernel
theorem dX12_tells_39 : decode cX12_tells 39 = .ok (.invokevirtual 286, 3) := by decide +kernel
theorem dX12_tells_42 : decode cX12_tells 42 = .ok (.if_icmp .eq 7, 3) := by decide +kernel
theorem dX12_tells_45 : decode cX12_tells 45 = .ok (.iconst 1, 1) := by decide +kernel
theorem dX12_tells_46 : decode cX12_tells 46 = .ok (.goto 4, 3) := by decide +kernel
theorem dX12_tells_49 : decode cX12_tells 49 = .ok (.iconst 0, 1) := by decide +kernel
theorem dX12_tells_50 : decode cX12_tells 50 = .ok (.ireturn, 1) := by decide +kernel
theorem dX12_goesOn_0 : decode cX12_goesOn 0 = .ok (.iconst 0, 1) := by decide +kernel
theorem dX12_goesOn_1 : decode cX12_goesOn 1 = .ok (.istore_n 1, 1) := by decide +kernel
theorem dX12_goesOn_2 : decode cX12_goesOn 2 = .ok (.iconst 0, 1) := by decide +kernel
theorem dX12_goesOn_3 : decode cX12_goesOn 3 = .ok (.istore_n 2, 1) := by decide +kernel
theorem dX12_goesOn_4 : decode cX12_goesOn 4 = .ok (.iload_n 2, 1) := by decide +kernel
theorem dX12_goesOn_5 : decode cX12_goesOn 5 = .ok (.sipush 645, 3) := by decide +kernel
theorem dX12_goesOn_8 : decode cX12_goesOn 8 = .ok (.if_icmp .ge 16, 3) := by decide +kernel
theorem dX12_goesOn_11 : decode cX12_goesOn 11 = .ok (.aload_n 0, 1) := by decide +kernel
theorem dX12_goesOn_12 : decode cX12_goesOn 12 = .ok (.getfield 93, 3) := by decide +kernel
theorem dX12_goesOn_15 : decode cX12_goesOn 15 = .ok (.iload_n 2, 1) := by decide +kernel
theorem dX12_goesOn_16 : decode cX12_goesOn 16 = .ok (.iconst 0, 1) := by decide +kernel
theorem dX12_goesOn_17 : decode cX12_goesOn 17 = .ok (.iastore, 1) := by decide +kernel
theorem dX12_goesOn_18 : decode cX12_goesOn 18 = .ok (.iinc 2 1, 3) := by decide +kernel
theorem dX12_goesOn_21 : decode cX12_goesOn 21 = .ok (.goto (-17), 3) := by decide +kernel
theorem dX12_goesOn_24 : decode cX12_goesOn 24 = .ok (.iconst 0, 1) := by decide +kernel
theorem dX12_goesOn_25 : decode cX12_goesOn 25 = .ok (.istore_n 2, 1) := by decide +kernel
theorem dX12_goesOn_26 : decode cX12_goesOn 26 = .ok (.iload_n 2, 1) := by decide +kernel
theorem dX12_goesOn_27 : decode cX12_goesOn 27 = .ok (.aload_n 0, 1) := by decide +kernel
theorem dX12_goesOn_28 : decode cX12_goesOn 28 = .ok (.getfield 75, 3) := by decide +kernel
theorem dX12_goesOn_31 : decode cX12_goesOn 31 = .ok (.iconst 0, 1) := by decide +kernel
theorem dX12_goesOn_32 : decode cX12_goesOn 32 = .ok (.iaload, 1) := by decide +kernel
theorem dX12_goesOn_33 : decode cX12_goesOn 33 = .ok (.if_icmp .ge 194, 3) := by decide +kernel
theorem dX12_goesOn_36 : decode cX12_goesOn 36 = .ok (.iconst 0, 1) := by decide +kernel
theorem dX12_goesOn_37 : decode cX12_goesOn 37 = .ok (.istore_n 3, 1) := by decide +kernel
theorem dX12_goesOn_38 : decode cX12_goesOn 38 = .ok (.iload_n 3, 1) := by decide +kernel
theorem dX12_goesOn_39 : decode cX12_goesOn 39 = .ok (.aload_n 0, 1) := by decide +kernel
theorem dX12_goesOn_40 : decode cX12_goesOn 40 = .ok (.getfield 75, 3) := by decide +kernel
theorem dX12_goesOn_43 : decode cX12_goesOn 43 = .ok (.iconst 1, 1) := by decide +kernel
theorem dX12_goesOn_44 : decode cX12_goesOn 44 = .ok (.iaload, 1) := by decide +kernel
theorem dX12_goesOn_45 : decode cX12_goesOn 45 = .ok (.if_icmp .ge 176, 3) := by decide +kernel
theorem dX12_goesOn_48 : decode cX12_goesOn 48 = .ok (.aload_n 0, 1) := by decide +kernel
theorem dX12_goesOn_49 : decode cX12_goesOn 49 = .ok (.getfield 69, 3) := by decide +kernel
theorem dX12_goesOn_52 : decode cX12_goesOn 52 = .ok (.iload_n 2, 1) := by decide +kernel
theorem dX12_goesOn_53 : decode cX12_goesOn 53 = .ok (.iaload, 1) := by decide +kernel
theorem dX12_goesOn_54 : decode cX12_goesOn 54 = .ok (.istore 4, 2) := by decide +kernel
theorem dX12_goesOn_56 : decode cX12_goesOn 56 = .ok (.aload_n 0, 1) := by decide +kernel
theorem dX12_goesOn_57 : decode cX12_goesOn 57 = .ok (.getfield 69, 3) := by decide +kernel
theorem dX12_goesOn_60 : decode cX12_goesOn 60 = .ok (.sipush 129, 3) := by decide +kernel
theorem dX12_goesOn_63 : decode cX12_goesOn 63 = .ok (.iload_n 3, 1) := by decide +kernel
theorem dX12_goesOn_64 : decode cX12_goesOn 64 = .ok (.iadd, 1) := by decide +kernel
theorem dX12_goesOn_65 : decode cX12_goesOn 65 = .ok (.iaload, 1) := by decide +kernel
theorem dX12_goesOn_66 : decode cX12_goesOn 66 = .ok (.istore 5, 2) := by decide +kernel
theorem dX12_goesOn_68 : decode cX12_goesOn 68 = .ok (.aload_n 0, 1) := by decide +kernel
theorem dX12_goesOn_69 : decode cX12_goesOn 69 = .ok (.getfield 90, 3) := by decide +kernel
theorem dX12_goesOn_72 : decode cX12_goesOn 72 = .ok (.iload 4, 2) := by decide +kernel
theorem dX12_goesOn_74 : decode cX12_goesOn 74 = .ok (.iload 5, 2) := by decide +kernel
theorem dX12_goesOn_76 : decode cX12_goesOn 76 = .ok (.invokestatic 298, 3) := by decide +kernel
theorem dX12_goesOn_79 : decode cX12_goesOn 79 = .ok (.iaload, 1) := by decide +kernel
theorem dX12_goesOn_80 : decode cX12_goesOn 80 = .ok (.iload 5, 2) := by decide +kernel
theorem dX12_goesOn_82 : decode cX12_goesOn 82 = .ok (.invokestatic 301, 3) := by decide +kernel
theorem dX12_goesOn_85 : decode cX12_goesOn 85 = .ok (.iand, 1) := by decide +kernel
theorem dX12_goesOn_86 : decode cX12_goesOn 86 = .ok (.ifCond .ne 6, 3) := by decide +kernel
theorem dX12_goesOn_89 : decode cX12_goesOn 89 = .ok (.goto 126, 3) := by decide +kernel
theorem dX12_goesOn_92 : decode cX12_goesOn 92 = .ok (.iconst 0, 1) := by decide +kernel
theorem dX12_goesOn_93 : decode cX12_goesOn 93 = .ok (.istore 6, 2) := by decide +kernel
theorem dX12_goesOn_95 : decode cX12_goesOn 95 = .ok (.iload 6, 2) := by decide +kernel
theorem dX12_goesOn_97 : decode cX12_goesOn 97 = .ok (.iconst 3, 1) := by decide +kernel
theorem dX12_goesOn_98 : decode cX12_goesOn 98 = .ok (.if_icmp .ge 117, 3) := by decide +kernel
theorem dX12_goesOn_101 : decode cX12_goesOn 101 = .ok (.aload_n 0, 1) := by decide +kernel
theorem dX12_goesOn_102 : decode cX12_goesOn 102 = .ok (.iconst 0, 1) := by decide +kernel
theorem dX12_goesOn_103 : decode cX12_goesOn 103 = .ok (.iload 4, 2) := by decide +kernel
theorem dX12_goesOn_105 : decode cX12_goesOn 105 = .ok (.iload 6, 2) := by decide +kernel
theorem dX12_goesOn_107 : decode cX12_goesOn 107 = .ok (.invokevirtual 277, 3) := by decide +kernel
theorem dX12_goesOn_110 : decode cX12_goesOn 110 = .ok (.istore 7, 2) := by decide +kernel
theorem dX12_goesOn_112 : decode cX12_goesOn 112 = .ok (.aload_n 0, 1) := by decide +kernel
theorem dX12_goesOn_113 : decode cX12_goesOn 113 = .ok (.iconst 1, 1) := by decide +kernel
theorem dX12_goesOn_114 : decode cX12_goesOn 114 = .ok (.iload 5, 2) := by decide +kernel
theorem dX12_goesOn_116 : decode cX12_goesOn 116 = .ok (.iload 6, 2) := by decide +kernel
theorem dX12_goesOn_118 : decode cX12_goesOn 118 = .ok (.invokevirtual 277, 3) := by decide +kernel
theorem dX12_goesOn_121 : decode cX12_goesOn 121 = .ok (.istore 8, 2) := by decide +kernel
theorem dX12_goesOn_123 : decode cX12_goesOn 123 = .ok (.aload_n 0, 1) := by decide +kernel
theorem dX12_goesOn_124 : decode cX12_goesOn 124 = .ok (.getfield 87, 3) := by decide +kernel
theorem dX12_goesOn_127 : decode cX12_goesOn 127 = .ok (.iload 7, 2) := by decide +kernel
theorem dX12_goesOn_129 : decode cX12_goesOn 129 = .ok (.iload 8, 2) := by decide +kernel
theorem dX12_goesOn_131 : decode cX12_goesOn 131 = .ok (.invokestatic 298, 3) := by decide +kernel
theorem dX12_goesOn_134 : decode cX12_goesOn 134 = .ok (.iaload, 1) := by decide +kernel
theorem dX12_goesOn_135 : decode cX12_goesOn 135 = .ok (.iload 8, 2) := by decide +kernel
theorem dX12_goesOn_137 : decode cX12_goesOn 137 = .ok (.invokestatic 301, 3) := by decide +kernel
theorem dX12_goesOn_140 : decode cX12_goesOn 140 = .ok (.iand, 1) := by decide +kernel
theorem dX12_goesOn_141 : decode cX12_goesOn 141 = .ok (.ifCond .eq 6, 3) := by decide +kernel
theorem dX12_goesOn_144 : decode cX12_goesOn 144 = .ok (.goto 65, 3) := by decide +kernel
theorem dX12_goesOn_147 : decode cX12_goesOn 147 = .ok (.aload_n 0, 1) := by decide +kernel
theorem dX12_goesOn_148 : decode cX12_goesOn 148 = .ok (.getfield 87, 3) := by decide +kernel
theorem dX12_goesOn_151 : decode cX12_goesOn 151 = .ok (.iload 7, 2) := by decide +kernel
theorem dX12_goesOn_153 : decode cX12_goesOn 153 = .ok (.iload 8, 2) := by decide +kernel
theorem dX12_goesOn_155 : decode cX12_goesOn 155 = .ok (.invokestatic 298, 3) := by decide +kernel
theorem dX12_goesOn_158 : decode cX12_goesOn 158 = .ok (.aload_n 0, 1) := by decide +kernel
theorem dX12_goesOn_159 : decode cX12_goesOn 159 = .ok (.getfield 87, 3) := by decide +kernel
theorem dX12_goesOn_162 : decode cX12_goesOn 162 = .ok (.iload 7, 2) := by decide +kernel
theorem dX12_goesOn_164 : decode cX12_goesOn 164 = .ok (.iload 8, 2) := by decide +kernel
theorem dX12_goesOn_166 : decode cX12_goesOn 166 = .ok (.invokestatic 298, 3) := by decide +kernel
theorem dX12_goesOn_169 : decode cX12_goesOn 169 = .ok (.iaload, 1) := by decide +kernel
theorem dX12_goesOn_170 : decode cX12_goesOn 170 = .ok (.iload 8, 2) := by decide +kernel
theorem dX12_goesOn_172 : decode cX12_goesOn 172 = .ok (.invokestatic 301, 3) := by decide +kernel
theorem dX12_goesOn_175 : decode cX12_goesOn 175 = .ok (.ior, 1) := by decide +kernel
theorem dX12_goesOn_176 : decode cX12_goesOn 176 = .ok (.iastore, 1) := by decide +kernel
theorem dX12_goesOn_177 : decode cX12_goesOn 177 = .ok (.aload_n 0, 1) := by decide +kernel
theorem dX12_goesOn_178 : decode cX12_goesOn 178 = .ok (.getfield 93, 3) := by decide +kernel
theorem dX12_goesOn_181 : decode cX12_goesOn 181 = .ok (.iload 7, 2) := by decide +kernel
theorem dX12_goesOn_183 : decode cX12_goesOn 183 = .ok (.iload 8, 2) := by decide +kernel
theorem dX12_goesOn_185 : decode cX12_goesOn 185 = .ok (.invokestatic 298, 3) := by decide +kernel
theorem dX12_goesOn_188 : decode cX12_goesOn 188 = .ok (.aload_n 0, 1) := by decide +kernel
theorem dX12_goesOn_189 : decode cX12_goesOn 189 = .ok (.getfield 93, 3) := by decide +kernel
theorem dX12_goesOn_192 : decode cX12_goesOn 192 = .ok (.iload 7, 2) := by decide +kernel
theorem dX12_goesOn_194 : decode cX12_goesOn 194 = .ok (.iload 8, 2) := by decide +kernel
theorem dX12_goesOn_196 : decode cX12_goesOn 196 = .ok (.invokestatic 298, 3) := by decide +kernel
theorem dX12_goesOn_199 : decode cX12_goesOn 199 = .ok (.iaload, 1) := by decide +kernel
theorem dX12_goesOn_200 : decode cX12_goesOn 200 = .ok (.iload 8, 2) := by decide +kernel
theorem dX12_goesOn_202 : decode cX12_goesOn 202 = .ok (.invokestatic 301, 3) := by decide +kernel
theorem dX12_goesOn_205 : decode cX12_goesOn 205 = .ok (.ior, 1) := by decide +kernel
theorem dX12_goesOn_206 : decode cX12_goesOn 206 = .ok (.iastore, 1) := by decide +kernel
theorem dX12_goesOn_207 : decode cX12_goesOn 207 = .ok (.iconst 1, 1) := by decide +kernel
theorem dX12_goesOn_208 : decode cX12_goesOn 208 = .ok (.istore_n 1, 1) := by decide +kernel
theorem dX12_goesOn_209 : decode cX12_goesOn 209 = .ok (.iinc 6 1, 3) := by decide +kernel
theorem dX12_goesOn_212 : decode cX12_goesOn 212 = .ok (.goto (-117), 3) := by decide +kernel
theorem dX12_goesOn_215 : decode cX12_goesOn 215 = .ok (.iinc 3 1, 3) := by decide +kernel
theorem dX12_goesOn_218 : decode cX12_goesOn 218 = .ok (.goto (-180), 3) := by decide +kernel
theorem dX12_goesOn_221 : decode cX12_goesOn 221 = .ok (.iinc 2 1, 3) := by decide +kernel
theorem dX12_goesOn_224 : decode cX12_goesOn 224 = .ok (.goto (-198), 3) := by decide +kernel
theorem dX12_goesOn_227 : decode cX12_goesOn 227 = .ok (.iconst 0, 1) := by decide +kernel
theorem dX12_goesOn_228 : decode cX12_goesOn 228 = .ok (.istore_n 2, 1) := by decide +kernel
theorem dX12_goesOn_229 : decode cX12_goesOn 229 = .ok (.iload_n 2, 1) := by decide +kernel
theorem dX12_goesOn_230 : decode cX12_goesOn 230 = .ok (.sipush 645, 3) := by decide +kernel
theorem dX12_goesOn_233 : decode cX12_goesOn 233 = .ok (.if_icmp .ge 21, 3) := by decide +kernel
theorem dX12_goesOn_236 : decode cX12_goesOn 236 = .ok (.aload_n 0, 1) := by decide +kernel
theorem dX12_goesOn_237 : decode cX12_goesOn 237 = .ok (.getfield 90, 3) := by decide +kernel
theorem dX12_goesOn_240 : decode cX12_goesOn 240 = .ok (.iload_n 2, 1) := by decide +kernel
theorem dX12_goesOn_241 : decode cX12_goesOn 241 = .ok (.aload_n 0, 1) := by decide +kernel
theorem dX12_goesOn_242 : decode cX12_goesOn 242 = .ok (.getfield 93, 3) := by decide +kernel
theorem dX12_goesOn_245 : decode cX12_goesOn 245 = .ok (.iload_n 2, 1) := by decide +kernel
theorem dX12_goesOn_246 : decode cX12_goesOn 246 = .ok (.iaload, 1) := by decide +kernel
theorem dX12_goesOn_247 : decode cX12_goesOn 247 = .ok (.iastore, 1) := by decide +kernel
theorem dX12_goesOn_248 : decode cX12_goesOn 248 = .ok (.iinc 2 1, 3) := by decide +kernel
theorem dX12_goesOn_251 : decode cX12_goesOn 251 = .ok (.goto (-22), 3) := by decide +kernel
theorem dX12_goesOn_254 : decode cX12_goesOn 254 = .ok (.iload_n 1, 1) := by decide +kernel
theorem dX12_goesOn_255 : decode cX12_goesOn 255 = .ok (.ireturn, 1) := by decide +kernel
theorem dX12_tellsLevel_0 : decode cX12_tellsLevel 0 = .ok (.iconst 0, 1) := by decide +kernel
theorem dX12_tellsLevel_1 : decode cX12_tellsLevel 1 = .ok (.istore_n 2, 1) := by decide +kernel
theorem dX12_tellsLevel_2 : decode cX12_tellsLevel 2 = .ok (.iload_n 2, 1) := by decide +kernel
theorem dX12_tellsLevel_3 : decode cX12_tellsLevel 3 = .ok (.aload_n 0, 1) := by decide +kernel
theorem dX12_tellsLevel_4 : decode cX12_tellsLevel 4 = .ok (.getfield 75, 3) := by decide +kernel
theorem dX12_tellsLevel_7 : decode cX12_tellsLevel 7 = .ok (.iconst 0, 1) := by decide +kernel
theorem dX12_tellsLevel_8 : decode cX12_tellsLevel 8 = .ok (.iaload, 1) := by decide +kernel
theorem dX12_tellsLevel_9 : decode cX12_tellsLevel 9 = .ok (.if_icmp .ge 82, 3) := by decide +kernel
theorem dX12_tellsLevel_12 : decode cX12_tellsLevel 12 = .ok (.iconst 0, 1) := by decide +kernel
theorem dX12_tellsLevel_13 : decode cX12_tellsLevel 13 = .ok (.istore_n 3, 1) := by decide +kernel
theorem dX12_tellsLevel_14 : decode cX12_tellsLevel 14 = .ok (.iload_n 3, 1) := by decide +kernel
theorem dX12_tellsLevel_15 : decode cX12_tellsLevel 15 = .ok (.aload_n 0, 1) := by decide +kernel
theorem dX12_tellsLevel_16 : decode cX12_tellsLevel 16 = .ok (.getfield 75, 3) := by decide +kernel
theorem dX12_tellsLevel_19 : decode cX12_tellsLevel 19 = .ok (.iconst 1, 1) := by decide +kernel
theorem dX12_tellsLevel_20 : decode cX12_tellsLevel 20 = .ok (.iaload, 1) := by decide +kernel
theorem dX12_tellsLevel_21 : decode cX12_tellsLevel 21 = .ok (.if_icmp .ge 64, 3) := by decide +kernel
theorem dX12_tellsLevel_24 : decode cX12_tellsLevel 24 = .ok (.aload_n 0, 1) := by decide +kernel
theorem dX12_tellsLevel_25 : decode cX12_tellsLevel 25 = .ok (.getfield 69, 3) := by decide +kernel
theorem dX12_tellsLevel_28 : decode cX12_tellsLevel 28 = .ok (.sipush 129, 3) := by decide +kernel
theorem dX12_tellsLevel_31 : decode cX12_tellsLevel 31 = .ok (.iload_n 3, 1) := by decide +kernel
theorem dX12_tellsLevel_32 : decode cX12_tellsLevel 32 = .ok (.iadd, 1) := by decide +kernel
theorem dX12_tellsLevel_33 : decode cX12_tellsLevel 33 = .ok (.iaload, 1) := by decide +kernel
theorem dX12_tellsLevel_34 : decode cX12_tellsLevel 34 = .ok (.istore 4, 2) := by decide +kernel
theorem dX12_tellsLevel_36 : decode cX12_tellsLevel 36 = .ok (.aload_n 0, 1) := by decide +kernel
theorem dX12_tellsLevel_37 : decode cX12_tellsLevel 37 = .ok (.getfield 90, 3) := by decide +kernel
theorem dX12_tellsLevel_40 : decode cX12_tellsLevel 40 = .ok (.aload_n 0, 1) := by decide +kernel
theorem dX12_tellsLevel_41 : decode cX12_tellsLevel 41 = .ok (.getfield 69, 3) := by decide +kernel
theorem dX12_tellsLevel_44 : decode cX12_tellsLevel 44 = .ok (.iload_n 2, 1) := by decide +kernel
theorem dX12_tellsLevel_45 : decode cX12_tellsLevel 45 = .ok (.iaload, 1) := by decide +kernel
theorem dX12_tellsLevel_46 : decode cX12_tellsLevel 46 = .ok (.iload 4, 2) := by decide +kernel
theorem dX12_tellsLevel_48 : decode cX12_tellsLevel 48 = .ok (.invokestatic 298, 3) := by decide +kernel
theorem dX12_tellsLevel_51 : decode cX12_tellsLevel 51 = .ok (.iaload, 1) := by decide +kernel
theorem dX12_tellsLevel_52 : decode cX12_tellsLevel 52 = .ok (.iload 4, 2) := by decide +kernel
theorem dX12_tellsLevel_54 : decode cX12_tellsLevel 54 = .ok (.invokestatic 301, 3) := by decide +kernel
theorem dX12_tellsLevel_57 : decode cX12_tellsLevel 57 = .ok (.iand, 1) := by decide +kernel
theorem dX12_tellsLevel_58 : decode cX12_tellsLevel 58 = .ok (.ifCond .eq 21, 3) := by decide +kernel
theorem dX12_tellsLevel_61 : decode cX12_tellsLevel 61 = .ok (.aload_n 0, 1) := by decide +kernel
theorem dX12_tellsLevel_62 : decode cX12_tellsLevel 62 = .ok (.aload_n 0, 1) := by decide +kernel
theorem dX12_tellsLevel_63 : decode cX12_tellsLevel 63 = .ok (.getfield 69, 3) := by decide +kernel
theorem dX12_tellsLevel_66 : decode cX12_tellsLevel 66 = .ok (.iload_n 2, 1) := by decide +kernel
theorem dX12_tellsLevel_67 : decode cX12_tellsLevel 67 = .ok (.iaload, 1) := by decide +kernel
theorem dX12_tellsLevel_68 : decode cX12_tellsLevel 68 = .ok (.iload 4, 2) := by decide +kernel
theorem dX12_tellsLevel_70 : decode cX12_tellsLevel 70 = .ok (.iload_n 1, 1) := by decide +kernel
theorem dX12_tellsLevel_71 : decode cX12_tellsLevel 71 = .ok (.invokevirtual 304, 3) := by decide +kernel
theorem dX12_tellsLevel_74 : decode cX12_tellsLevel 74 = .ok (.ifCond .eq 5, 3) := by decide +kernel
theorem dX12_tellsLevel_77 : decode cX12_tellsLevel 77 = .ok (.iconst 1, 1) := by decide +kernel
theorem dX12_tellsLevel_78 : decode cX12_tellsLevel 78 = .ok (.ireturn, 1) := by decide +kernel
theorem dX12_tellsLevel_79 : decode cX12_tellsLevel 79 = .ok (.iinc 3 1, 3) := by decide +kernel
theorem dX12_tellsLevel_82 : decode cX12_tellsLevel 82 = .ok (.goto (-68), 3) := by decide +kernel
theorem dX12_tellsLevel_85 : decode cX12_tellsLevel 85 = .ok (.iinc 2 1, 3) := by decide +kernel
theorem dX12_tellsLevel_88 : decode cX12_tellsLevel 88 = .ok (.goto (-86), 3) := by decide +kernel
theorem dX12_tellsLevel_91 : decode cX12_tellsLevel 91 = .ok (.iconst 0, 1) := by decide +kernel
theorem dX12_tellsLevel_92 : decode cX12_tellsLevel 92 = .ok (.ireturn, 1) := by decide +kernel
theorem dX12_apart_0 : decode cX12_apart 0 = .ok (.iconst 0, 1) := by decide +kernel
theorem dX12_apart_1 : decode cX12_apart 1 = .ok (.istore 4, 2) := by decide +kernel
theorem dX12_apart_3 : decode cX12_apart 3 = .ok (.iload 4, 2) := by decide +kernel
theorem dX12_apart_5 : decode cX12_apart 5 = .ok (.sipush 645, 3) := by decide +kernel
theorem dX12_apart_8 : decode cX12_apart 8 = .ok (.if_icmp .ge 25, 3) := by decide +kernel
theorem dX12_apart_11 : decode cX12_apart 11 = .ok (.aload_n 0, 1) := by decide +kernel
theorem dX12_apart_12 : decode cX12_apart 12 = .ok (.getfield 87, 3) := by decide +kernel
theorem dX12_apart_15 : decode cX12_apart 15 = .ok (.iload 4, 2) := by decide +kernel
theorem dX12_apart_17 : decode cX12_apart 17 = .ok (.iconst 0, 1) := by decide +kernel
theorem dX12_apart_18 : decode cX12_apart 18 = .ok (.iastore, 1) := by decide +kernel
theorem dX12_apart_19 : decode cX12_apart 19 = .ok (.aload_n 0, 1) := by decide +kernel
theorem dX12_apart_20 : decode cX12_apart 20 = .ok (.getfield 90, 3) := by decide +kernel
theorem dX12_apart_23 : decode cX12_apart 23 = .ok (.iload 4, 2) := by decide +kernel
theorem dX12_apart_25 : decode cX12_apart 25 = .ok (.iconst 0, 1) := by decide +kernel
theorem dX12_apart_26 : decode cX12_apart 26 = .ok (.iastore, 1) := by decide +kernel
theorem dX12_apart_27 : decode cX12_apart 27 = .ok (.iinc 4 1, 3) := by decide +kernel
theorem dX12_apart_30 : decode cX12_apart 30 = .ok (.goto (-27), 3) := by decide +kernel
theorem dX12_apart_33 : decode cX12_apart 33 = .ok (.aload_n 0, 1) := by decide +kernel
theorem dX12_apart_34 : decode cX12_apart 34 = .ok (.getfield 87, 3) := by decide +kernel
theorem dX12_apart_37 : decode cX12_apart 37 = .ok (.iload_n 1, 1) := by decide +kernel
theorem dX12_apart_38 : decode cX12_apart 38 = .ok (.iload_n 2, 1) := by decide +kernel
theorem dX12_apart_39 : decode cX12_apart 39 = .ok (.invokestatic 298, 3) := by decide +kernel
theorem dX12_apart_42 : decode cX12_apart 42 = .ok (.iload_n 2, 1) := by decide +kernel
theorem dX12_apart_43 : decode cX12_apart 43 = .ok (.invokestatic 301, 3) := by decide +kernel
theorem dX12_apart_46 : decode cX12_apart 46 = .ok (.iastore, 1) := by decide +kernel
theorem dX12_apart_47 : decode cX12_apart 47 = .ok (.aload_n 0, 1) := by decide +kernel
theorem dX12_apart_48 : decode cX12_apart 48 = .ok (.getfield 90, 3) := by decide +kernel
theorem dX12_apart_51 : decode cX12_apart 51 = .ok (.iload_n 1, 1) := by decide +kernel
theorem dX12_apart_52 : decode cX12_apart 52 = .ok (.iload_n 2, 1) := by decide +kernel
theorem dX12_apart_53 : decode cX12_apart 53 = .ok (.invokestatic 298, 3) := by decide +kernel
theorem dX12_apart_56 : decode cX12_apart 56 = .ok (.iload_n 2, 1) := by decide +kernel
theorem dX12_apart_57 : decode cX12_apart 57 = .ok (.invokestatic 301, 3) := by decide +kernel
theorem dX12_apart_60 : decode cX12_apart 60 = .ok (.iastore, 1) := by decide +kernel
theorem dX12_apart_61 : decode cX12_apart 61 = .ok (.iconst 0, 1) := by decide +kernel
theorem dX12_apart_62 : decode cX12_apart 62 = .ok (.istore 4, 2) := by decide +kernel
theorem dX12_apart_64 : decode cX12_apart 64 = .ok (.iconst 1, 1) := by decide +kernel
theorem dX12_apart_65 : decode cX12_apart 65 = .ok (.istore 5, 2) := by decide +kernel
theorem dX12_apart_67 : decode cX12_apart 67 = .ok (.iload 5, 2) := by decide +kernel
theorem dX12_apart_69 : decode cX12_apart 69 = .ok (.ifCond .eq 26, 3) := by decide +kernel
theorem dX12_apart_72 : decode cX12_apart 72 = .ok (.aload_n 0, 1) := by decide +kernel
theorem dX12_apart_73 : decode cX12_apart 73 = .ok (.iload_n 3, 1) := by decide +kernel
theorem dX12_apart_74 : decode cX12_apart 74 = .ok (.invokevirtual 308, 3) := by decide +kernel
theorem dX12_apart_77 : decode cX12_apart 77 = .ok (.ifCond .eq 6, 3) := by decide +kernel
theorem dX12_apart_80 : decode cX12_apart 80 = .ok (.iload 4, 2) := by decide +kernel
theorem dX12_apart_82 : decode cX12_apart 82 = .ok (.ireturn, 1) := by decide +kernel
theorem dX12_apart_83 : decode cX12_apart 83 = .ok (.aload_n 0, 1) := by decide +kernel
theorem dX12_apart_84 : decode cX12_apart 84 = .ok (.invokevirtual 312, 3) := by decide +kernel
theorem dX12_apart_87 : decode cX12_apart 87 = .ok (.istore 5, 2) := by decide +kernel
theorem dX12_apart_89 : decode cX12_apart 89 = .ok (.iinc 4 1, 3) := by decide +kernel
theorem dX12_apart_92 : decode cX12_apart 92 = .ok (.goto (-25), 3) := by decide +kernel
theorem dX12_apart_95 : decode cX12_apart 95 = .ok (.iconst (-1), 1) := by decide +kernel
theorem dX12_apart_96 : decode cX12_apart 96 = .ok (.ireturn, 1) := by decide +kernel
theorem dX12_apartSlots_0 : decode cX12_apartSlots 0 = .ok (.aload_n 0, 1) := by decide +kernel
theorem dX12_apartSlots_1 : decode cX12_apartSlots 1 = .ok (.iconst 0, 1) := by decide +kernel
theorem dX12_apartSlots_2 : decode cX12_apartSlots 2 = .ok (.iload_n 1, 1) := by decide +kernel
theorem dX12_apartSlots_3 : decode cX12_apartSlots 3 = .ok (.invokevirtual 280, 3) := by decide +kernel
theorem dX12_apartSlots_6 : decode cX12_apartSlots 6 = .ok (.aload_n 0, 1) := by decide +kernel
theorem dX12_apartSlots_7 : decode cX12_apartSlots 7 = .ok (.iconst 1, 1) := by decide +kernel
theorem dX12_apartSlots_8 : decode cX12_apartSlots 8 = .ok (.iload_n 2, 1) := by decide +kernel
theorem dX12_apartSlots_9 : decode cX12_apartSlots 9 = .ok (.invokevirtual 280, 3) := by decide +kernel
theorem dX12_apartSlots_12 : decode cX12_apartSlots 12 = .ok (.aload_n 0, 1) := by decide +kernel
theorem dX12_apartSlots_13 : decode cX12_apartSlots 13 = .ok (.iconst 0, 1) := by decide +kernel
theorem dX12_apartSlots_14 : decode cX12_apartSlots 14 = .ok (.invokevirtual 283, 3) := by decide +kernel
theorem dX12_apartSlots_17 : decode cX12_apartSlots 17 = .ok (.aload_n 0, 1) := by decide +kernel
theorem dX12_apartSlots_18 : decode cX12_apartSlots 18 = .ok (.iconst 1, 1) := by decide +kernel
theorem dX12_apartSlots_19 : decode cX12_apartSlots 19 = .ok (.invokevirtual 283, 3) := by decide +kernel
theorem dX12_apartSlots_22 : decode cX12_apartSlots 22 = .ok (.aload_n 0, 1) := by decide +kernel
theorem dX12_apartSlots_23 : decode cX12_apartSlots 23 = .ok (.sipush 128, 3) := by decide +kernel
theorem dX12_apartSlots_26 : decode cX12_apartSlots 26 = .ok (.sipush 128, 3) := by decide +kernel
theorem dX12_apartSlots_29 : decode cX12_apartSlots 29 = .ok (.iload_n 3, 1) := by decide +kernel
theorem dX12_apartSlots_30 : decode cX12_apartSlots 30 = .ok (.invokevirtual 315, 3) := by decide +kernel
theorem dX12_apartSlots_33 : decode cX12_apartSlots 33 = .ok (.ireturn, 1) := by decide +kernel
theorem dX12_patternCount_0 : decode cX12_patternCount 0 = .ok (.aload_n 0, 1) := by decide +kernel
theorem dX12_patternCount_1 : decode cX12_patternCount 1 = .ok (.iconst 0, 1) := by decide +kernel
theorem dX12_patternCount_2 : decode cX12_patternCount 2 = .ok (.putfield 117, 3) := by decide +kernel
theorem dX12_patternCount_5 : decode cX12_patternCount 5 = .ok (.aload_n 0, 1) := by decide +kernel
theorem dX12_patternCount_6 : decode cX12_patternCount 6 = .ok (.invokevirtual 227, 3) := by decide +kernel
theorem dX12_patternCount_9 : decode cX12_patternCount 9 = .ok (.ireturn, 1) := by decide +kernel
theorem dX12_hasPattern_0 : decode cX12_hasPattern 0 = .ok (.aload_n 0, 1) := by decide +kernel
theorem dX12_hasPattern_1 : decode cX12_hasPattern 1 = .ok (.iconst 0, 1) := by decide +kernel
theorem dX12_hasPattern_2 : decode cX12_hasPattern 2 = .ok (.putfield 117, 3) := by decide +kernel
theorem dX12_hasPattern_5 : decode cX12_hasPattern 5 = .ok (.iload_n 1, 1) := by decide +kernel
theorem dX12_hasPattern_6 : decode cX12_hasPattern 6 = .ok (.invokestatic 136, 3) := by decide +kernel
theorem dX12_hasPattern_9 : decode cX12_hasPattern 9 = .ok (.ifCond .ne 17, 3) := by decide +kernel
theorem dX12_hasPattern_12 : decode cX12_hasPattern 12 = .ok (.aload_n 0, 1) := by decide +kernel
theorem dX12_hasPattern_13 : decode cX12_hasPattern 13 = .ok (.iconst 1, 1) := by decide +kernel
theorem dX12_hasPattern_14 : decode cX12_hasPattern 14 = .ok (.invokevirtual 196, 3) := by decide +kernel
theorem dX12_hasPattern_17 : decode cX12_hasPattern 17 = .ok (.ifCond .le 7, 3) := by decide +kernel
theorem dX12_hasPattern_20 : decode cX12_hasPattern 20 = .ok (.iconst 1, 1) := by decide +kernel
theorem dX12_hasPattern_21 : decode cX12_hasPattern 21 = .ok (.goto 4, 3) := by decide +kernel
theorem dX12_hasPattern_24 : decode cX12_hasPattern 24 = .ok (.iconst 0, 1) := by decide +kernel
theorem dX12_hasPattern_25 : decode cX12_hasPattern 25 = .ok (.ireturn, 1) := by decide +kernel
theorem dX12_hasPattern_26 : decode cX12_hasPattern 26 = .ok (.aload_n 0, 1) := by decide +kernel
theorem dX12_hasPattern_27 : decode cX12_hasPattern 27 = .ok (.iload_n 1, 1) := by decide +kernel
theorem dX12_hasPattern_28 : decode cX12_hasPattern 28 = .ok (.invokevirtual 211, 3) := by decide +kernel
theorem dX12_hasPattern_31 : decode cX12_hasPattern 31 = .ok (.ireturn, 1) := by decide +kernel
theorem dX12_lettersOf_0 : decode cX12_lettersOf 0 = .ok (.iconst 0, 1) := by decide +kernel
theorem dX12_lettersOf_1 : decode cX12_lettersOf 1 = .ok (.istore_n 2, 1) := by decide +kernel
theorem dX12_lettersOf_2 : decode cX12_lettersOf 2 = .ok (.iconst 0, 1) := by decide +kernel
theorem dX12_lettersOf_3 : decode cX12_lettersOf 3 = .ok (.istore_n 3, 1) := by decide +kernel
theorem dX12_lettersOf_4 : decode cX12_lettersOf 4 = .ok (.iload_n 3, 1) := by decide +kernel
theorem dX12_lettersOf_5 : decode cX12_lettersOf 5 = .ok (.aload_n 0, 1) := by decide +kernel
theorem dX12_lettersOf_6 : decode cX12_lettersOf 6 = .ok (.iload_n 1, 1) := by decide +kernel
theorem dX12_lettersOf_7 : decode cX12_lettersOf 7 = .ok (.invokevirtual 140, 3) := by decide +kernel
theorem dX12_lettersOf_10 : decode cX12_lettersOf 10 = .ok (.if_icmp .ge 27, 3) := by decide +kernel
theorem dX12_lettersOf_13 : decode cX12_lettersOf 13 = .ok (.iload_n 2, 1) := by decide +kernel
theorem dX12_lettersOf_14 : decode cX12_lettersOf 14 = .ok (.aload_n 0, 1) := by decide +kernel
theorem dX12_lettersOf_15 : decode cX12_lettersOf 15 = .ok (.iload_n 1, 1) := by decide +kernel
theorem dX12_lettersOf_16 : decode cX12_lettersOf 16 = .ok (.iload_n 3, 1) := by decide +kernel
theorem dX12_lettersOf_17 : decode cX12_lettersOf 17 = .ok (.invokevirtual 147, 3) := by decide +kernel
theorem dX12_lettersOf_20 : decode cX12_lettersOf 20 = .ok (.iconst 4, 1) := by decide +kernel
theorem dX12_lettersOf_21 : decode cX12_lettersOf 21 = .ok (.if_icmp .ge 7, 3) := by decide +kernel
theorem dX12_lettersOf_24 : decode cX12_lettersOf 24 = .ok (.iconst 1, 1) := by decide +kernel
theorem dX12_lettersOf_25 : decode cX12_lettersOf 25 = .ok (.goto 4, 3) := by decide +kernel
theorem dX12_lettersOf_28 : decode cX12_lettersOf 28 = .ok (.iconst 0, 1) := by decide +kernel
theorem dX12_lettersOf_29 : decode cX12_lettersOf 29 = .ok (.iadd, 1) := by decide +kernel
theorem dX12_lettersOf_30 : decode cX12_lettersOf 30 = .ok (.istore_n 2, 1) := by decide +kernel
theorem dX12_lettersOf_31 : decode cX12_lettersOf 31 = .ok (.iinc 3 1, 3) := by decide +kernel
theorem dX12_lettersOf_34 : decode cX12_lettersOf 34 = .ok (.goto (-30), 3) := by decide +kernel
theorem dX12_lettersOf_37 : decode cX12_lettersOf 37 = .ok (.iload_n 2, 1) := by decide +kernel
theorem dX12_lettersOf_38 : decode cX12_lettersOf 38 = .ok (.ireturn, 1) := by decide +kernel
theorem dX12_letterCount_0 : decode cX12_letterCount 0 = .ok (.aload_n 0, 1) := by decide +kernel
theorem dX12_letterCount_1 : decode cX12_letterCount 1 = .ok (.iconst 0, 1) := by decide +kernel
theorem dX12_letterCount_2 : decode cX12_letterCount 2 = .ok (.putfield 117, 3) := by decide +kernel
theorem dX12_letterCount_5 : decode cX12_letterCount 5 = .ok (.aload_n 0, 1) := by decide +kernel
theorem dX12_letterCount_6 : decode cX12_letterCount 6 = .ok (.iload_n 1, 1) := by decide +kernel
theorem dX12_letterCount_7 : decode cX12_letterCount 7 = .ok (.invokevirtual 211, 3) := by decide +kernel
theorem dX12_letterCount_10 : decode cX12_letterCount 10 = .ok (.ifCond .eq 11, 3) := by decide +kernel
theorem dX12_letterCount_13 : decode cX12_letterCount 13 = .ok (.aload_n 0, 1) := by decide +kernel
theorem dX12_letterCount_14 : decode cX12_letterCount 14 = .ok (.iload_n 1, 1) := by decide +kernel
theorem dX12_letterCount_15 : decode cX12_letterCount 15 = .ok (.invokevirtual 319, 3) := by decide +kernel
theorem dX12_letterCount_18 : decode cX12_letterCount 18 = .ok (.goto 8, 3) := by decide +kernel
theorem dX12_letterCount_21 : decode cX12_letterCount 21 = .ok (.aload_n 0, 1) := by decide +kernel
theorem dX12_letterCount_22 : decode cX12_letterCount 22 = .ok (.iconst 1, 1) := by decide +kernel
theorem dX12_letterCount_23 : decode cX12_letterCount 23 = .ok (.invokevirtual 196, 3) := by decide +kernel
theorem dX12_letterCount_26 : decode cX12_letterCount 26 = .ok (.ireturn, 1) := by decide +kernel
theorem dX12_acceptsEmpty_0 : decode cX12_acceptsEmpty 0 = .ok (.aload_n 0, 1) := by decide +kernel
theorem dX12_acceptsEmpty_1 : decode cX12_acceptsEmpty 1 = .ok (.iconst 0, 1) := by decide +kernel
theorem dX12_acceptsEmpty_2 : decode cX12_acceptsEmpty 2 = .ok (.putfield 117, 3) := by decide +kernel
theorem dX12_acceptsEmpty_5 : decode cX12_acceptsEmpty 5 = .ok (.aload_n 0, 1) := by decide +kernel
theorem dX12_acceptsEmpty_6 : decode cX12_acceptsEmpty 6 = .ok (.iload_n 1, 1) := by decide +kernel
theorem dX12_acceptsEmpty_7 : decode cX12_acceptsEmpty 7 = .ok (.invokevirtual 211, 3) := by decide +kernel
theorem dX12_acceptsEmpty_10 : decode cX12_acceptsEmpty 10 = .ok (.ifCond .ne 17, 3) := by decide +kernel
theorem dX12_acceptsEmpty_13 : decode cX12_acceptsEmpty 13 = .ok (.aload_n 0, 1) := by decide +kernel
theorem dX12_acceptsEmpty_14 : decode cX12_acceptsEmpty 14 = .ok (.iconst 1, 1) := by decide +kernel
theorem dX12_acceptsEmpty_15 : decode cX12_acceptsEmpty 15 = .ok (.invokevirtual 196, 3) := by decide +kernel
theorem dX12_acceptsEmpty_18 : decode cX12_acceptsEmpty 18 = .ok (.ifCond .le 7, 3) := by decide +kernel
theorem dX12_acceptsEmpty_21 : decode cX12_acceptsEmpty 21 = .ok (.iconst 1, 1) := by decide +kernel
theorem dX12_acceptsEmpty_22 : decode cX12_acceptsEmpty 22 = .ok (.goto 4, 3) := by decide +kernel
theorem dX12_acceptsEmpty_25 : decode cX12_acceptsEmpty 25 = .ok (.iconst 0, 1) := by decide +kernel
theorem dX12_acceptsEmpty_26 : decode cX12_acceptsEmpty 26 = .ok (.ireturn, 1) := by decide +kernel
theorem dX12_acceptsEmpty_27 : decode cX12_acceptsEmpty 27 = .ok (.aload_n 0, 1) := by decide +kernel
theorem dX12_acceptsEmpty_28 : decode cX12_acceptsEmpty 28 = .ok (.iconst 0, 1) := by decide +kernel
theorem dX12_acceptsEmpty_29 : decode cX12_acceptsEmpty 29 = .ok (.iload_n 1, 1) := by decide +kernel
theorem dX12_acceptsEmpty_30 : decode cX12_acceptsEmpty 30 = .ok (.invokevirtual 280, 3) := by decide +kernel
theorem dX12_acceptsEmpty_33 : decode cX12_acceptsEmpty 33 = .ok (.aload_n 0, 1) := by decide +kernel
theorem dX12_acceptsEmpty_34 : decode cX12_acceptsEmpty 34 = .ok (.getfield 57, 3) := by decide +kernel
theorem dX12_acceptsEmpty_37 : decode cX12_acceptsEmpty 37 = .ok (.iconst 0, 1) := by decide +kernel
theorem dX12_acceptsEmpty_38 : decode cX12_acceptsEmpty 38 = .ok (.iaload, 1) := by decide +kernel
theorem dX12_acceptsEmpty_39 : decode cX12_acceptsEmpty 39 = .ok (.iconst 1, 1) := by decide +kernel
theorem dX12_acceptsEmpty_40 : decode cX12_acceptsEmpty 40 = .ok (.if_icmp .ne 7, 3) := by decide +kernel
theorem dX12_acceptsEmpty_43 : decode cX12_acceptsEmpty 43 = .ok (.iconst 1, 1) := by decide +kernel
theorem dX12_acceptsEmpty_44 : decode cX12_acceptsEmpty 44 = .ok (.goto 4, 3) := by decide +kernel
theorem dX12_acceptsEmpty_47 : decode cX12_acceptsEmpty 47 = .ok (.iconst 0, 1) := by decide +kernel
theorem dX12_acceptsEmpty_48 : decode cX12_acceptsEmpty 48 = .ok (.ireturn, 1) := by decide +kernel
theorem dX12_misses_0 : decode cX12_misses 0 = .ok (.aload_n 0, 1) := by decide +kernel
theorem dX12_misses_1 : decode cX12_misses 1 = .ok (.iconst 0, 1) := by decide +kernel
theorem dX12_misses_2 : decode cX12_misses 2 = .ok (.putfield 117, 3) := by decide +kernel
theorem dX12_misses_5 : decode cX12_misses 5 = .ok (.aload_n 0, 1) := by decide +kernel
theorem dX12_misses_6 : decode cX12_misses 6 = .ok (.iload_n 1, 1) := by decide +kernel
theorem dX12_misses_7 : decode cX12_misses 7 = .ok (.invokevirtual 211, 3) := by decide +kernel
theorem dX12_misses_10 : decode cX12_misses 10 = .ok (.ifCond .ne 17, 3) := by decide +kernel
theorem dX12_misses_13 : decode cX12_misses 13 = .ok (.aload_n 0, 1) := by decide +kernel
theorem dX12_misses_14 : decode cX12_misses 14 = .ok (.iconst 1, 1) := by decide +kernel
theorem dX12_misses_15 : decode cX12_misses 15 = .ok (.invokevirtual 196, 3) := by decide +kernel
theorem dX12_misses_18 : decode cX12_misses 18 = .ok (.ifCond .ne 7, 3) := by decide +kernel
theorem dX12_misses_21 : decode cX12_misses 21 = .ok (.iconst 1, 1) := by decide +kernel
theorem dX12_misses_22 : decode cX12_misses 22 = .ok (.goto 4, 3) := by decide +kernel
theorem dX12_misses_25 : decode cX12_misses 25 = .ok (.iconst 0, 1) := by decide +kernel
theorem dX12_misses_26 : decode cX12_misses 26 = .ok (.ireturn, 1) := by decide +kernel
theorem dX12_misses_27 : decode cX12_misses 27 = .ok (.iload_n 2, 1) := by decide +kernel
theorem dX12_misses_28 : decode cX12_misses 28 = .ok (.bipush 97, 2) := by decide +kernel
theorem dX12_misses_30 : decode cX12_misses 30 = .ok (.bipush 99, 2) := by decide +kernel
theorem dX12_misses_32 : decode cX12_misses 32 = .ok (.invokestatic 132, 3) := by decide +kernel
theorem dX12_misses_35 : decode cX12_misses 35 = .ok (.ifCond .eq 14, 3) := by decide +kernel
theorem dX12_misses_38 : decode cX12_misses 38 = .ok (.iload_n 3, 1) := by decide +kernel
theorem dX12_misses_39 : decode cX12_misses 39 = .ok (.bipush 97, 2) := by decide +kernel
theorem dX12_misses_41 : decode cX12_misses 41 = .ok (.bipush 99, 2) := by decide +kernel
theorem dX12_misses_43 : decode cX12_misses 43 = .ok (.invokestatic 132, 3) := by decide +kernel
theorem dX12_misses_46 : decode cX12_misses 46 = .ok (.ifCond .ne 15, 3) := by decide +kernel
theorem dX12_misses_49 : decode cX12_misses 49 = .ok (.aload_n 0, 1) := by decide +kernel
theorem dX12_misses_50 : decode cX12_misses 50 = .ok (.iconst 2, 1) := by decide +kernel
theorem dX12_misses_51 : decode cX12_misses 51 = .ok (.invokevirtual 196, 3) := by decide +kernel
theorem dX12_misses_54 : decode cX12_misses 54 = .ok (.ifCond .ne 7, 3) := by decide +kernel
theorem dX12_misses_57 : decode cX12_misses 57 = .ok (.iconst 1, 1) := by decide +kernel
theorem dX12_misses_58 : decode cX12_misses 58 = .ok (.goto 4, 3) := by decide +kernel
theorem dX12_misses_61 : decode cX12_misses 61 = .ok (.iconst 0, 1) := by decide +kernel
theorem dX12_misses_62 : decode cX12_misses 62 = .ok (.ireturn, 1) := by decide +kernel
theorem dX12_canBegin_0 : decode cX12_canBegin 0 = .ok (.aload_n 0, 1) := by decide +kernel
theorem dX12_canBegin_1 : decode cX12_canBegin 1 = .ok (.iload_n 1, 1) := by decide +kernel
theorem dX12_canBegin_2 : decode cX12_canBegin 2 = .ok (.iload_n 2, 1) := by decide +kernel
theorem dX12_canBegin_3 : decode cX12_canBegin 3 = .ok (.bipush 97, 2) := by decide +kernel
theorem dX12_canBegin_5 : decode cX12_canBegin 5 = .ok (.invokevirtual 322, 3) := by decide +kernel
theorem dX12_canBegin_8 : decode cX12_canBegin 8 = .ok (.ifCond .eq 5, 3) := by decide +kernel
theorem dX12_canBegin_11 : decode cX12_canBegin 11 = .ok (.iconst 0, 1) := by decide +kernel
theorem dX12_canBegin_12 : decode cX12_canBegin 12 = .ok (.ireturn, 1) := by decide +kernel
theorem dX12_canBegin_13 : decode cX12_canBegin 13 = .ok (.aload_n 0, 1) := by decide +kernel
theorem dX12_canBegin_14 : decode cX12_canBegin 14 = .ok (.iconst 0, 1) := by decide +kernel
theorem dX12_canBegin_15 : decode cX12_canBegin 15 = .ok (.iload_n 1, 1) := by decide +kernel
theorem dX12_canBegin_16 : decode cX12_canBegin 16 = .ok (.invokevirtual 280, 3) := by decide +kernel
theorem dX12_canBegin_19 : decode cX12_canBegin 19 = .ok (.aload_n 0, 1) := by decide +kernel
theorem dX12_canBegin_20 : decode cX12_canBegin 20 = .ok (.getfield 54, 3) := by decide +kernel
theorem dX12_canBegin_23 : decode cX12_canBegin 23 = .ok (.iconst 0, 1) := by decide +kernel
theorem dX12_canBegin_24 : decode cX12_canBegin 24 = .ok (.iaload, 1) := by decide +kernel
theorem dX12_canBegin_25 : decode cX12_canBegin 25 = .ok (.aload_n 0, 1) := by decide +kernel
theorem dX12_canBegin_26 : decode cX12_canBegin 26 = .ok (.getfield 48, 3) := by decide +kernel
theorem dX12_canBegin_29 : decode cX12_canBegin 29 = .ok (.iload_n 2, 1) := by decide +kernel
theorem dX12_canBegin_30 : decode cX12_canBegin 30 = .ok (.bipush 97, 2) := by decide +kernel
theorem dX12_canBegin_32 : decode cX12_canBegin 32 = .ok (.isub, 1) := by decide +kernel
theorem dX12_canBegin_33 : decode cX12_canBegin 33 = .ok (.iaload, 1) := by decide +kernel
theorem dX12_canBegin_34 : decode cX12_canBegin 34 = .ok (.iand, 1) := by decide +kernel
theorem dX12_canBegin_35 : decode cX12_canBegin 35 = .ok (.ifCond .eq 7, 3) := by decide +kernel
theorem dX12_canBegin_38 : decode cX12_canBegin 38 = .ok (.iconst 1, 1) := by decide +kernel
theorem dX12_canBegin_39 : decode cX12_canBegin 39 = .ok (.goto 4, 3) := by decide +kernel
theorem dX12_canBegin_42 : decode cX12_canBegin 42 = .ok (.iconst 0, 1) := by decide +kernel
theorem dX12_canBegin_43 : decode cX12_canBegin 43 = .ok (.ireturn, 1) := by decide +kernel
theorem dX12_canEnd_0 : decode cX12_canEnd 0 = .ok (.aload_n 0, 1) := by decide +kernel
theorem dX12_canEnd_1 : decode cX12_canEnd 1 = .ok (.iload_n 1, 1) := by decide +kernel
theorem dX12_canEnd_2 : decode cX12_canEnd 2 = .ok (.iload_n 2, 1) := by decide +kernel
theorem dX12_canEnd_3 : decode cX12_canEnd 3 = .ok (.bipush 97, 2) := by decide +kernel
theorem dX12_canEnd_5 : decode cX12_canEnd 5 = .ok (.invokevirtual 322, 3) := by decide +kernel
theorem dX12_canEnd_8 : decode cX12_canEnd 8 = .ok (.ifCond .eq 5, 3) := by decide +kernel
theorem dX12_canEnd_11 : decode cX12_canEnd 11 = .ok (.iconst 0, 1) := by decide +kernel
theorem dX12_canEnd_12 : decode cX12_canEnd 12 = .ok (.ireturn, 1) := by decide +kernel
theorem dX12_canEnd_13 : decode cX12_canEnd 13 = .ok (.aload_n 0, 1) := by decide +kernel
theorem dX12_canEnd_14 : decode cX12_canEnd 14 = .ok (.iconst 0, 1) := by decide +kernel
theorem dX12_canEnd_15 : decode cX12_canEnd 15 = .ok (.iload_n 1, 1) := by decide +kernel
theorem dX12_canEnd_16 : decode cX12_canEnd 16 = .ok (.invokevirtual 280, 3) := by decide +kernel
theorem dX12_canEnd_19 : decode cX12_canEnd 19 = .ok (.aload_n 0, 1) := by decide +kernel
theorem dX12_canEnd_20 : decode cX12_canEnd 20 = .ok (.getfield 51, 3) := by decide +kernel
theorem dX12_canEnd_23 : decode cX12_canEnd 23 = .ok (.iconst 0, 1) := by decide +kernel
theorem dX12_canEnd_24 : decode cX12_canEnd 24 = .ok (.iaload, 1) := by decide +kernel
theorem dX12_canEnd_25 : decode cX12_canEnd 25 = .ok (.aload_n 0, 1) := by decide +kernel
theorem dX12_canEnd_26 : decode cX12_canEnd 26 = .ok (.getfield 48, 3) := by decide +kernel
theorem dX12_canEnd_29 : decode cX12_canEnd 29 = .ok (.iload_n 2, 1) := by decide +kernel
theorem dX12_canEnd_30 : decode cX12_canEnd 30 = .ok (.bipush 97, 2) := by decide +kernel
theorem dX12_canEnd_32 : decode cX12_canEnd 32 = .ok (.isub, 1) := by decide +kernel
theorem dX12_canEnd_33 : decode cX12_canEnd 33 = .ok (.iaload, 1) := by decide +kernel
theorem dX12_canEnd_34 : decode cX12_canEnd 34 = .ok (.iand, 1) := by decide +kernel
theorem dX12_canEnd_35 : decode cX12_canEnd 35 = .ok (.ifCond .eq 7, 3) := by decide +kernel
theorem dX12_canEnd_38 : decode cX12_canEnd 38 = .ok (.iconst 1, 1) := by decide +kernel
theorem dX12_canEnd_39 : decode cX12_canEnd 39 = .ok (.goto 4, 3) := by decide +kernel
theorem dX12_canEnd_42 : decode cX12_canEnd 42 = .ok (.iconst 0, 1) := by decide +kernel
theorem dX12_canEnd_43 : decode cX12_canEnd 43 = .ok (.ireturn, 1) := by decide +kernel
theorem dX12_canBeAdjacent_0 : decode cX12_canBeAdjacent 0 = .ok (.aload_n 0, 1) := by decide +kernel
theorem dX12_canBeAdjacent_1 : decode cX12_canBeAdjacent 1 = .ok (.iload_n 1, 1) := by decide +kernel
theorem dX12_canBeAdjacent_2 : decode cX12_canBeAdjacent 2 = .ok (.iload_n 2, 1) := by decide +kernel
theorem dX12_canBeAdjacent_3 : decode cX12_canBeAdjacent 3 = .ok (.iload_n 3, 1) := by decide +kernel
theorem dX12_canBeAdjacent_4 : decode cX12_canBeAdjacent 4 = .ok (.invokevirtual 322, 3) := by decide +kernel
theorem dX12_canBeAdjacent_7 : decode cX12_canBeAdjacent 7 = .ok (.ifCond .eq 5, 3) := by decide +kernel
theorem dX12_canBeAdjacent_10 : decode cX12_canBeAdjacent 10 = .ok (.iconst 0, 1) := by decide +kernel
theorem dX12_canBeAdjacent_11 : decode cX12_canBeAdjacent 11 = .ok (.ireturn, 1) := by decide +kernel
theorem dX12_canBeAdjacent_12 : decode cX12_canBeAdjacent 12 = .ok (.aload_n 0, 1) := by decide +kernel
theorem dX12_canBeAdjacent_13 : decode cX12_canBeAdjacent 13 = .ok (.iconst 0, 1) := by decide +kernel
theorem dX12_canBeAdjacent_14 : decode cX12_canBeAdjacent 14 = .ok (.iload_n 1, 1) := by decide +kernel
theorem dX12_canBeAdjacent_15 : decode cX12_canBeAdjacent 15 = .ok (.invokevirtual 280, 3) := by decide +kernel
theorem dX12_canBeAdjacent_18 : decode cX12_canBeAdjacent 18 = .ok (.iconst 0, 1) := by decide +kernel
theorem dX12_canBeAdjacent_19 : decode cX12_canBeAdjacent 19 = .ok (.istore 4, 2) := by decide +kernel
theorem dX12_canBeAdjacent_21 : decode cX12_canBeAdjacent 21 = .ok (.iload 4, 2) := by decide +kernel
theorem dX12_canBeAdjacent_23 : decode cX12_canBeAdjacent 23 = .ok (.bipush 7, 2) := by decide +kernel
theorem dX12_canBeAdjacent_25 : decode cX12_canBeAdjacent 25 = .ok (.if_icmp .ge 49, 3) := by decide +kernel
theorem dX12_canBeAdjacent_28 : decode cX12_canBeAdjacent 28 = .ok (.aload_n 0, 1) := by decide +kernel
theorem dX12_canBeAdjacent_29 : decode cX12_canBeAdjacent 29 = .ok (.getfield 48, 3) := by decide +kernel
theorem dX12_canBeAdjacent_32 : decode cX12_canBeAdjacent 32 = .ok (.iload_n 2, 1) := by decide +kernel
theorem dX12_canBeAdjacent_33 : decode cX12_canBeAdjacent 33 = .ok (.bipush 97, 2) := by decide +kernel
theorem dX12_canBeAdjacent_35 : decode cX12_canBeAdjacent 35 = .ok (.isub, 1) := by decide +kernel
theorem dX12_canBeAdjacent_36 : decode cX12_canBeAdjacent 36 = .ok (.iaload, 1) := by decide +kernel
theorem dX12_canBeAdjacent_37 : decode cX12_canBeAdjacent 37 = .ok (.iload 4, 2) := by decide +kernel
theorem dX12_canBeAdjacent_39 : decode cX12_canBeAdjacent 39 = .ok (.ishr, 1) := by decide +kernel
theorem dX12_canBeAdjacent_40 : decode cX12_canBeAdjacent 40 = .ok (.iconst 1, 1) := by decide +kernel
theorem dX12_canBeAdjacent_41 : decode cX12_canBeAdjacent 41 = .ok (.iand, 1) := by decide +kernel
theorem dX12_canBeAdjacent_42 : decode cX12_canBeAdjacent 42 = .ok (.iconst 1, 1) := by decide +kernel
theorem dX12_canBeAdjacent_43 : decode cX12_canBeAdjacent 43 = .ok (.if_icmp .ne 25, 3) := by decide +kernel
theorem dX12_canBeAdjacent_46 : decode cX12_canBeAdjacent 46 = .ok (.aload_n 0, 1) := by decide +kernel
theorem dX12_canBeAdjacent_47 : decode cX12_canBeAdjacent 47 = .ok (.getfield 45, 3) := by decide +kernel
theorem dX12_canBeAdjacent_50 : decode cX12_canBeAdjacent 50 = .ok (.iload 4, 2) := by decide +kernel
theorem dX12_canBeAdjacent_52 : decode cX12_canBeAdjacent 52 = .ok (.iaload, 1) := by decide +kernel
theorem dX12_canBeAdjacent_53 : decode cX12_canBeAdjacent 53 = .ok (.aload_n 0, 1) := by decide +kernel
theorem dX12_canBeAdjacent_54 : decode cX12_canBeAdjacent 54 = .ok (.getfield 48, 3) := by decide +kernel
theorem dX12_canBeAdjacent_57 : decode cX12_canBeAdjacent 57 = .ok (.iload_n 3, 1) := by decide +kernel
theorem dX12_canBeAdjacent_58 : decode cX12_canBeAdjacent 58 = .ok (.bipush 97, 2) := by decide +kernel
theorem dX12_canBeAdjacent_60 : decode cX12_canBeAdjacent 60 = .ok (.isub, 1) := by decide +kernel
theorem dX12_canBeAdjacent_61 : decode cX12_canBeAdjacent 61 = .ok (.iaload, 1) := by decide +kernel
theorem dX12_canBeAdjacent_62 : decode cX12_canBeAdjacent 62 = .ok (.iand, 1) := by decide +kernel
theorem dX12_canBeAdjacent_63 : decode cX12_canBeAdjacent 63 = .ok (.ifCond .eq 5, 3) := by decide +kernel
theorem dX12_canBeAdjacent_66 : decode cX12_canBeAdjacent 66 = .ok (.iconst 1, 1) := by decide +kernel
theorem dX12_canBeAdjacent_67 : decode cX12_canBeAdjacent 67 = .ok (.ireturn, 1) := by decide +kernel
theorem dX12_canBeAdjacent_68 : decode cX12_canBeAdjacent 68 = .ok (.iinc 4 1, 3) := by decide +kernel
theorem dX12_canBeAdjacent_71 : decode cX12_canBeAdjacent 71 = .ok (.goto (-50), 3) := by decide +kernel
theorem dX12_canBeAdjacent_74 : decode cX12_canBeAdjacent 74 = .ok (.iconst 0, 1) := by decide +kernel
theorem dX12_canBeAdjacent_75 : decode cX12_canBeAdjacent 75 = .ok (.ireturn, 1) := by decide +kernel
theorem dX12_behind_0 : decode cX12_behind 0 = .ok (.sipush 128, 3) := by decide +kernel
theorem dX12_behind_3 : decode cX12_behind 3 = .ok (.istore_n 2, 1) := by decide +kernel
theorem dX12_behind_4 : decode cX12_behind 4 = .ok (.iconst 0, 1) := by decide +kernel
theorem dX12_behind_5 : decode cX12_behind 5 = .ok (.istore_n 3, 1) := by decide +kernel
theorem dX12_behind_6 : decode cX12_behind 6 = .ok (.iload_n 3, 1) := by decide +kernel
theorem dX12_behind_7 : decode cX12_behind 7 = .ok (.iload_n 1, 1) := by decide +kernel
theorem dX12_behind_8 : decode cX12_behind 8 = .ok (.if_icmp .ge 22, 3) := by decide +kernel
theorem dX12_behind_11 : decode cX12_behind 11 = .ok (.aload_n 0, 1) := by decide +kernel
theorem dX12_behind_12 : decode cX12_behind 12 = .ok (.iconst 0, 1) := by decide +kernel
theorem dX12_behind_13 : decode cX12_behind 13 = .ok (.iload_n 2, 1) := by decide +kernel
theorem dX12_behind_14 : decode cX12_behind 14 = .ok (.aload_n 0, 1) := by decide +kernel
theorem dX12_behind_15 : decode cX12_behind 15 = .ok (.getfield 39, 3) := by decide +kernel
theorem dX12_behind_18 : decode cX12_behind 18 = .ok (.iload_n 3, 1) := by decide +kernel
theorem dX12_behind_19 : decode cX12_behind 19 = .ok (.iaload, 1) := by decide +kernel
theorem dX12_behind_20 : decode cX12_behind 20 = .ok (.invokevirtual 277, 3) := by decide +kernel
theorem dX12_behind_23 : decode cX12_behind 23 = .ok (.istore_n 2, 1) := by decide +kernel
theorem dX12_behind_24 : decode cX12_behind 24 = .ok (.iinc 3 1, 3) := by decide +kernel
theorem dX12_behind_27 : decode cX12_behind 27 = .ok (.goto (-21), 3) := by decide +kernel
theorem dX12_behind_30 : decode cX12_behind 30 = .ok (.iload_n 2, 1) := by decide +kernel
theorem dX12_behind_31 : decode cX12_behind 31 = .ok (.ireturn, 1) := by decide +kernel
theorem dX12_hasNone_0 : decode cX12_hasNone 0 = .ok (.aload_n 0, 1) := by decide +kernel
theorem dX12_hasNone_1 : decode cX12_hasNone 1 = .ok (.iconst 0, 1) := by decide +kernel
theorem dX12_hasNone_2 : decode cX12_hasNone 2 = .ok (.putfield 117, 3) := by decide +kernel
theorem dX12_hasNone_5 : decode cX12_hasNone 5 = .ok (.aload_n 0, 1) := by decide +kernel
theorem dX12_hasNone_6 : decode cX12_hasNone 6 = .ok (.iload_n 1, 1) := by decide +kernel
theorem dX12_hasNone_7 : decode cX12_hasNone 7 = .ok (.invokevirtual 211, 3) := by decide +kernel
theorem dX12_hasNone_10 : decode cX12_hasNone 10 = .ok (.ifCond .ne 17, 3) := by decide +kernel
theorem dX12_hasNone_13 : decode cX12_hasNone 13 = .ok (.aload_n 0, 1) := by decide +kernel
theorem dX12_hasNone_14 : decode cX12_hasNone 14 = .ok (.iconst 1, 1) := by decide +kernel
theorem dX12_hasNone_15 : decode cX12_hasNone 15 = .ok (.invokevirtual 196, 3) := by decide +kernel
theorem dX12_hasNone_18 : decode cX12_hasNone 18 = .ok (.ifCond .ne 7, 3) := by decide +kernel
theorem dX12_hasNone_21 : decode cX12_hasNone 21 = .ok (.iconst 1, 1) := by decide +kernel
theorem dX12_hasNone_22 : decode cX12_hasNone 22 = .ok (.goto 4, 3) := by decide +kernel
theorem dX12_hasNone_25 : decode cX12_hasNone 25 = .ok (.iconst 0, 1) := by decide +kernel
theorem dX12_hasNone_26 : decode cX12_hasNone 26 = .ok (.ireturn, 1) := by decide +kernel
theorem dX12_hasNone_27 : decode cX12_hasNone 27 = .ok (.aload_n 0, 1) := by decide +kernel
theorem dX12_hasNone_28 : decode cX12_hasNone 28 = .ok (.iconst 0, 1) := by decide +kernel
theorem dX12_hasNone_29 : decode cX12_hasNone 29 = .ok (.aload_n 0, 1) := by decide +kernel
theorem dX12_hasNone_30 : decode cX12_hasNone 30 = .ok (.getfield 165, 3) := by decide +kernel
theorem dX12_hasNone_33 : decode cX12_hasNone 33 = .ok (.invokevirtual 239, 3) := by decide +kernel
theorem dX12_hasNone_36 : decode cX12_hasNone 36 = .ok (.ifCond .eq 12, 3) := by decide +kernel
theorem dX12_hasNone_39 : decode cX12_hasNone 39 = .ok (.aload_n 0, 1) := by decide +kernel
theorem dX12_hasNone_40 : decode cX12_hasNone 40 = .ok (.getfield 236, 3) := by decide +kernel
theorem dX12_hasNone_43 : decode cX12_hasNone 43 = .ok (.bipush 12, 2) := by decide +kernel
theorem dX12_hasNone_45 : decode cX12_hasNone 45 = .ok (.if_icmp .le 17, 3) := by decide +kernel
theorem dX12_hasNone_48 : decode cX12_hasNone 48 = .ok (.aload_n 0, 1) := by decide +kernel
theorem dX12_hasNone_49 : decode cX12_hasNone 49 = .ok (.iconst 2, 1) := by decide +kernel
theorem dX12_hasNone_50 : decode cX12_hasNone 50 = .ok (.invokevirtual 196, 3) := by decide +kernel
theorem dX12_hasNone_53 : decode cX12_hasNone 53 = .ok (.ifCond .ne 7, 3) := by decide +kernel
theorem dX12_hasNone_56 : decode cX12_hasNone 56 = .ok (.iconst 1, 1) := by decide +kernel
theorem dX12_hasNone_57 : decode cX12_hasNone 57 = .ok (.goto 4, 3) := by decide +kernel
theorem dX12_hasNone_60 : decode cX12_hasNone 60 = .ok (.iconst 0, 1) := by decide +kernel
theorem dX12_hasNone_61 : decode cX12_hasNone 61 = .ok (.ireturn, 1) := by decide +kernel
theorem dX12_hasNone_62 : decode cX12_hasNone 62 = .ok (.aload_n 0, 1) := by decide +kernel
theorem dX12_hasNone_63 : decode cX12_hasNone 63 = .ok (.iconst 0, 1) := by decide +kernel
theorem dX12_hasNone_64 : decode cX12_hasNone 64 = .ok (.iload_n 1, 1) := by decide +kernel
theorem dX12_hasNone_65 : decode cX12_hasNone 65 = .ok (.invokevirtual 280, 3) := by decide +kernel
theorem dX12_hasNone_68 : decode cX12_hasNone 68 = .ok (.iconst 0, 1) := by decide +kernel
theorem dX12_hasNone_69 : decode cX12_hasNone 69 = .ok (.ireturn, 1) := by decide +kernel
theorem dX12_matches_0 : decode cX12_matches 0 = .ok (.aload_n 0, 1) := by decide +kernel
theorem dX12_matches_1 : decode cX12_matches 1 = .ok (.iload_n 1, 1) := by decide +kernel
theorem dX12_matches_2 : decode cX12_matches 2 = .ok (.invokevirtual 325, 3) := by decide +kernel
theorem dX12_matches_5 : decode cX12_matches 5 = .ok (.ifCond .eq 5, 3) := by decide +kernel
theorem dX12_matches_8 : decode cX12_matches 8 = .ok (.iconst 0, 1) := by decide +kernel
theorem dX12_matches_9 : decode cX12_matches 9 = .ok (.ireturn, 1) := by decide +kernel
theorem dX12_matches_10 : decode cX12_matches 10 = .ok (.aload_n 0, 1) := by decide +kernel
theorem dX12_matches_11 : decode cX12_matches 11 = .ok (.iconst 0, 1) := by decide +kernel
theorem dX12_matches_12 : decode cX12_matches 12 = .ok (.aload_n 0, 1) := by decide +kernel
theorem dX12_matches_13 : decode cX12_matches 13 = .ok (.aload_n 0, 1) := by decide +kernel
theorem dX12_matches_14 : decode cX12_matches 14 = .ok (.getfield 236, 3) := by decide +kernel
theorem dX12_matches_17 : decode cX12_matches 17 = .ok (.invokevirtual 328, 3) := by decide +kernel
theorem dX12_matches_20 : decode cX12_matches 20 = .ok (.invokevirtual 286, 3) := by decide +kernel
theorem dX12_matches_23 : decode cX12_matches 23 = .ok (.ireturn, 1) := by decide +kernel
theorem dX12_matchesBySpans_0 : decode cX12_matchesBySpans 0 = .ok (.aload_n 0, 1) := by decide +kernel
theorem dX12_matchesBySpans_1 : decode cX12_matchesBySpans 1 = .ok (.iload_n 1, 1) := by decide +kernel
theorem dX12_matchesBySpans_2 : decode cX12_matchesBySpans 2 = .ok (.invokevirtual 331, 3) := by decide +kernel
theorem dX12_matchesBySpans_5 : decode cX12_matchesBySpans 5 = .ok (.ireturn, 1) := by decide +kernel
theorem dX12_longestPrefix_0 : decode cX12_longestPrefix 0 = .ok (.aload_n 0, 1) := by decide +kernel
theorem dX12_longestPrefix_1 : decode cX12_longestPrefix 1 = .ok (.iload_n 1, 1) := by decide +kernel
theorem dX12_longestPrefix_2 : decode cX12_longestPrefix 2 = .ok (.invokevirtual 325, 3) := by decide +kernel
theorem dX12_longestPrefix_5 : decode cX12_longestPrefix 5 = .ok (.ifCond .eq 5, 3) := by decide +kernel
theorem dX12_longestPrefix_8 : decode cX12_longestPrefix 8 = .ok (.iconst 0, 1) := by decide +kernel
theorem dX12_longestPrefix_9 : decode cX12_longestPrefix 9 = .ok (.ireturn, 1) := by decide +kernel
theorem dX12_longestPrefix_10 : decode cX12_longestPrefix 10 = .ok (.iconst (-1), 1) := by decide +kernel
theorem dX12_longestPrefix_11 : decode cX12_longestPrefix 11 = .ok (.istore_n 2, 1) := by decide +kernel
theorem dX12_longestPrefix_12 : decode cX12_longestPrefix 12 = .ok (.iconst 0, 1) := by decide +kernel
theorem dX12_longestPrefix_13 : decode cX12_longestPrefix 13 = .ok (.istore_n 3, 1) := by decide +kernel
theorem dX12_longestPrefix_14 : decode cX12_longestPrefix 14 = .ok (.iload_n 3, 1) := by decide +kernel
theorem dX12_longestPrefix_15 : decode cX12_longestPrefix 15 = .ok (.aload_n 0, 1) := by decide +kernel
theorem dX12_longestPrefix_16 : decode cX12_longestPrefix 16 = .ok (.getfield 236, 3) := by decide +kernel
theorem dX12_longestPrefix_19 : decode cX12_longestPrefix 19 = .ok (.if_icmp .gt 28, 3) := by decide +kernel
theorem dX12_longestPrefix_22 : decode cX12_longestPrefix 22 = .ok (.aload_n 0, 1) := by decide +kernel
theorem dX12_longestPrefix_23 : decode cX12_longestPrefix 23 = .ok (.iconst 0, 1) := by decide +kernel
theorem dX12_longestPrefix_24 : decode cX12_longestPrefix 24 = .ok (.aload_n 0, 1) := by decide +kernel
theorem dX12_longestPrefix_25 : decode cX12_longestPrefix 25 = .ok (.iload_n 3, 1) := by decide +kernel
theorem dX12_longestPrefix_26 : decode cX12_longestPrefix 26 = .ok (.invokevirtual 328, 3) := by decide +kernel
theorem dX12_longestPrefix_29 : decode cX12_longestPrefix 29 = .ok (.invokevirtual 286, 3) := by decide +kernel
theorem dX12_longestPrefix_32 : decode cX12_longestPrefix 32 = .ok (.ifCond .eq 7, 3) := by decide +kernel
theorem dX12_longestPrefix_35 : decode cX12_longestPrefix 35 = .ok (.iload_n 3, 1) := by decide +kernel
theorem dX12_longestPrefix_36 : decode cX12_longestPrefix 36 = .ok (.goto 4, 3) := by decide +kernel
theorem dX12_longestPrefix_39 : decode cX12_longestPrefix 39 = .ok (.iload_n 2, 1) := by decide +kernel
theorem dX12_longestPrefix_40 : decode cX12_longestPrefix 40 = .ok (.istore_n 2, 1) := by decide +kernel
theorem dX12_longestPrefix_41 : decode cX12_longestPrefix 41 = .ok (.iinc 3 1, 3) := by decide +kernel
theorem dX12_longestPrefix_44 : decode cX12_longestPrefix 44 = .ok (.goto (-30), 3) := by decide +kernel
theorem dX12_longestPrefix_47 : decode cX12_longestPrefix 47 = .ok (.iload_n 2, 1) := by decide +kernel
theorem dX12_longestPrefix_48 : decode cX12_longestPrefix 48 = .ok (.ireturn, 1) := by decide +kernel
theorem dX12_acceptsSample_0 : decode cX12_acceptsSample 0 = .ok (.aload_n 0, 1) := by decide +kernel
theorem dX12_acceptsSample_1 : decode cX12_acceptsSample 1 = .ok (.aload_n 0, 1) := by decide +kernel
theorem dX12_acceptsSample_2 : decode cX12_acceptsSample 2 = .ok (.getfield 7, 3) := by decide +kernel
theorem dX12_acceptsSample_5 : decode cX12_acceptsSample 5 = .ok (.sipush 176, 3) := by decide +kernel
theorem dX12_acceptsSample_8 : decode cX12_acceptsSample 8 = .ok (.bipush 9, 2) := by decide +kernel
theorem dX12_acceptsSample_10 : decode cX12_acceptsSample 10 = .ok (.iload_n 1, 1) := by decide +kernel
theorem dX12_acceptsSample_11 : decode cX12_acceptsSample 11 = .ok (.imul, 1) := by decide +kernel
theorem dX12_acceptsSample_12 : decode cX12_acceptsSample 12 = .ok (.iadd, 1) := by decide +kernel
theorem dX12_acceptsSample_13 : decode cX12_acceptsSample 13 = .ok (.iaload, 1) := by decide +kernel
theorem dX12_acceptsSample_14 : decode cX12_acceptsSample 14 = .ok (.putfield 236, 3) := by decide +kernel
theorem dX12_acceptsSample_17 : decode cX12_acceptsSample 17 = .ok (.iconst 0, 1) := by decide +kernel
theorem dX12_acceptsSample_18 : decode cX12_acceptsSample 18 = .ok (.istore_n 2, 1) := by decide +kernel
theorem dX12_acceptsSample_19 : decode cX12_acceptsSample 19 = .ok (.iload_n 2, 1) := by decide +kernel
theorem dX12_acceptsSample_20 : decode cX12_acceptsSample 20 = .ok (.aload_n 0, 1) := by decide +kernel
theorem dX12_acceptsSample_21 : decode cX12_acceptsSample 21 = .ok (.getfield 236, 3) := by decide +kernel
theorem dX12_acceptsSample_24 : decode cX12_acceptsSample 24 = .ok (.if_icmp .ge 32, 3) := by decide +kernel
theorem dX12_acceptsSample_27 : decode cX12_acceptsSample 27 = .ok (.aload_n 0, 1) := by decide +kernel
theorem dX12_acceptsSample_28 : decode cX12_acceptsSample 28 = .ok (.getfield 39, 3) := by decide +kernel
theorem dX12_acceptsSample_31 : decode cX12_acceptsSample 31 = .ok (.iload_n 2, 1) := by decide +kernel
theorem dX12_acceptsSample_32 : decode cX12_acceptsSample 32 = .ok (.aload_n 0, 1) := by decide +kernel
theorem dX12_acceptsSample_33 : decode cX12_acceptsSample 33 = .ok (.getfield 7, 3) := by decide +kernel
theorem dX12_acceptsSample_36 : decode cX12_acceptsSample 36 = .ok (.sipush 176, 3) := by decide +kernel
theorem dX12_acceptsSample_39 : decode cX12_acceptsSample 39 = .ok (.bipush 9, 2) := by decide +kernel
theorem dX12_acceptsSample_41 : decode cX12_acceptsSample 41 = .ok (.iload_n 1, 1) := by decide +kernel
theorem dX12_acceptsSample_42 : decode cX12_acceptsSample 42 = .ok (.imul, 1) := by decide +kernel
theorem dX12_acceptsSample_43 : decode cX12_acceptsSample 43 = .ok (.iadd, 1) := by decide +kernel
theorem dX12_acceptsSample_44 : decode cX12_acceptsSample 44 = .ok (.iconst 1, 1) := by decide +kernel
theorem dX12_acceptsSample_45 : decode cX12_acceptsSample 45 = .ok (.iadd, 1) := by decide +kernel
theorem dX12_acceptsSample_46 : decode cX12_acceptsSample 46 = .ok (.iload_n 2, 1) := by decide +kernel
theorem dX12_acceptsSample_47 : decode cX12_acceptsSample 47 = .ok (.iadd, 1) := by decide +kernel
theorem dX12_acceptsSample_48 : decode cX12_acceptsSample 48 = .ok (.iaload, 1) := by decide +kernel
theorem dX12_acceptsSample_49 : decode cX12_acceptsSample 49 = .ok (.iastore, 1) := by decide +kernel
theorem dX12_acceptsSample_50 : decode cX12_acceptsSample 50 = .ok (.iinc 2 1, 3) := by decide +kernel
theorem dX12_acceptsSample_53 : decode cX12_acceptsSample 53 = .ok (.goto (-34), 3) := by decide +kernel
theorem dX12_acceptsSample_56 : decode cX12_acceptsSample 56 = .ok (.aload_n 0, 1) := by decide +kernel
theorem dX12_acceptsSample_57 : decode cX12_acceptsSample 57 = .ok (.iconst 0, 1) := by decide +kernel
theorem dX12_acceptsSample_58 : decode cX12_acceptsSample 58 = .ok (.aload_n 0, 1) := by decide +kernel
theorem dX12_acceptsSample_59 : decode cX12_acceptsSample 59 = .ok (.aload_n 0, 1) := by decide +kernel
theorem dX12_acceptsSample_60 : decode cX12_acceptsSample 60 = .ok (.getfield 236, 3) := by decide +kernel
theorem dX12_acceptsSample_63 : decode cX12_acceptsSample 63 = .ok (.invokevirtual 328, 3) := by decide +kernel
theorem dX12_acceptsSample_66 : decode cX12_acceptsSample 66 = .ok (.invokevirtual 286, 3) := by decide +kernel
theorem dX12_acceptsSample_69 : decode cX12_acceptsSample 69 = .ok (.ireturn, 1) := by decide +kernel
theorem dX12_acceptsWord_0 : decode cX12_acceptsWord 0 = .ok (.aload_n 0, 1) := by decide +kernel
theorem dX12_acceptsWord_1 : decode cX12_acceptsWord 1 = .ok (.iconst 0, 1) := by decide +kernel
theorem dX12_acceptsWord_2 : decode cX12_acceptsWord 2 = .ok (.putfield 117, 3) := by decide +kernel
theorem dX12_acceptsWord_5 : decode cX12_acceptsWord 5 = .ok (.aload_n 0, 1) := by decide +kernel
theorem dX12_acceptsWord_6 : decode cX12_acceptsWord 6 = .ok (.iload_n 1, 1) := by decide +kernel
theorem dX12_acceptsWord_7 : decode cX12_acceptsWord 7 = .ok (.invokevirtual 211, 3) := by decide +kernel
theorem dX12_acceptsWord_10 : decode cX12_acceptsWord 10 = .ok (.ifCond .ne 17, 3) := by decide +kernel
theorem dX12_acceptsWord_13 : decode cX12_acceptsWord 13 = .ok (.aload_n 0, 1) := by decide +kernel
theorem dX12_acceptsWord_14 : decode cX12_acceptsWord 14 = .ok (.iconst 1, 1) := by decide +kernel
theorem dX12_acceptsWord_15 : decode cX12_acceptsWord 15 = .ok (.invokevirtual 196, 3) := by decide +kernel
theorem dX12_acceptsWord_18 : decode cX12_acceptsWord 18 = .ok (.ifCond .le 7, 3) := by decide +kernel
theorem dX12_acceptsWord_21 : decode cX12_acceptsWord 21 = .ok (.iconst 1, 1) := by decide +kernel
theorem dX12_acceptsWord_22 : decode cX12_acceptsWord 22 = .ok (.goto 4, 3) := by decide +kernel
theorem dX12_acceptsWord_25 : decode cX12_acceptsWord 25 = .ok (.iconst 0, 1) := by decide +kernel
theorem dX12_acceptsWord_26 : decode cX12_acceptsWord 26 = .ok (.ireturn, 1) := by decide +kernel
theorem dX12_acceptsWord_27 : decode cX12_acceptsWord 27 = .ok (.aload_n 0, 1) := by decide +kernel
theorem dX12_acceptsWord_28 : decode cX12_acceptsWord 28 = .ok (.iload_n 2, 1) := by decide +kernel
theorem dX12_acceptsWord_29 : decode cX12_acceptsWord 29 = .ok (.invokevirtual 250, 3) := by decide +kernel
theorem dX12_acceptsWord_32 : decode cX12_acceptsWord 32 = .ok (.ifCond .ne 17, 3) := by decide +kernel
theorem dX12_acceptsWord_35 : decode cX12_acceptsWord 35 = .ok (.aload_n 0, 1) := by decide +kernel
theorem dX12_acceptsWord_36 : decode cX12_acceptsWord 36 = .ok (.iconst 2, 1) := by decide +kernel
theorem dX12_acceptsWord_37 : decode cX12_acceptsWord 37 = .ok (.invokevirtual 196, 3) := by decide +kernel
theorem dX12_acceptsWord_40 : decode cX12_acceptsWord 40 = .ok (.ifCond .le 7, 3) := by decide +kernel
theorem dX12_acceptsWord_43 : decode cX12_acceptsWord 43 = .ok (.iconst 1, 1) := by decide +kernel
theorem dX12_acceptsWord_44 : decode cX12_acceptsWord 44 = .ok (.goto 4, 3) := by decide +kernel
theorem dX12_acceptsWord_47 : decode cX12_acceptsWord 47 = .ok (.iconst 0, 1) := by decide +kernel
theorem dX12_acceptsWord_48 : decode cX12_acceptsWord 48 = .ok (.ireturn, 1) := by decide +kernel
theorem dX12_acceptsWord_49 : decode cX12_acceptsWord 49 = .ok (.aload_n 0, 1) := by decide +kernel
theorem dX12_acceptsWord_50 : decode cX12_acceptsWord 50 = .ok (.iconst 0, 1) := by decide +kernel
theorem dX12_acceptsWord_51 : decode cX12_acceptsWord 51 = .ok (.iload_n 1, 1) := by decide +kernel
theorem dX12_acceptsWord_52 : decode cX12_acceptsWord 52 = .ok (.invokevirtual 280, 3) := by decide +kernel
theorem dX12_acceptsWord_55 : decode cX12_acceptsWord 55 = .ok (.aload_n 0, 1) := by decide +kernel
theorem dX12_acceptsWord_56 : decode cX12_acceptsWord 56 = .ok (.iload_n 2, 1) := by decide +kernel
theorem dX12_acceptsWord_57 : decode cX12_acceptsWord 57 = .ok (.invokevirtual 334, 3) := by decide +kernel
theorem dX12_acceptsWord_60 : decode cX12_acceptsWord 60 = .ok (.ireturn, 1) := by decide +kernel
theorem dX12_accepted_0 : decode cX12_accepted 0 = .ok (.aload_n 0, 1) := by decide +kernel
theorem dX12_accepted_1 : decode cX12_accepted 1 = .ok (.iconst 0, 1) := by decide +kernel
theorem dX12_accepted_2 : decode cX12_accepted 2 = .ok (.iload_n 1, 1) := by decide +kernel
theorem dX12_accepted_3 : decode cX12_accepted 3 = .ok (.invokevirtual 280, 3) := by decide +kernel
theorem dX12_accepted_6 : decode cX12_accepted 6 = .ok (.iconst 0, 1) := by decide +kernel
theorem dX12_accepted_7 : decode cX12_accepted 7 = .ok (.istore_n 2, 1) := by decide +kernel
theorem dX12_accepted_8 : decode cX12_accepted 8 = .ok (.iconst 0, 1) := by decide +kernel
theorem dX12_accepted_9 : decode cX12_accepted 9 = .ok (.istore_n 3, 1) := by decide +kernel
theorem dX12_accepted_10 : decode cX12_accepted 10 = .ok (.iload_n 3, 1) := by decide +kernel
theorem dX12_accepted_11 : decode cX12_accepted 11 = .ok (.aload_n 0, 1) := by decide +kernel
theorem dX12_accepted_12 : decode cX12_accepted 12 = .ok (.getfield 7, 3) := by decide +kernel
theorem dX12_accepted_15 : decode cX12_accepted 15 = .ok (.iconst 1, 1) := by decide +kernel
theorem dX12_accepted_16 : decode cX12_accepted 16 = .ok (.iaload, 1) := by decide +kernel
theorem dX12_accepted_17 : decode cX12_accepted 17 = .ok (.if_icmp .ge 25, 3) := by decide +kernel
theorem dX12_accepted_20 : decode cX12_accepted 20 = .ok (.iload_n 2, 1) := by decide +kernel
theorem dX12_accepted_21 : decode cX12_accepted 21 = .ok (.aload_n 0, 1) := by decide +kernel
theorem dX12_accepted_22 : decode cX12_accepted 22 = .ok (.iload_n 3, 1) := by decide +kernel
theorem dX12_accepted_23 : decode cX12_accepted 23 = .ok (.invokevirtual 334, 3) := by decide +kernel
theorem dX12_accepted_26 : decode cX12_accepted 26 = .ok (.ifCond .eq 7, 3) := by decide +kernel
theorem dX12_accepted_29 : decode cX12_accepted 29 = .ok (.iconst 1, 1) := by decide +kernel
theorem dX12_accepted_30 : decode cX12_accepted 30 = .ok (.goto 4, 3) := by decide +kernel
theorem dX12_accepted_33 : decode cX12_accepted 33 = .ok (.iconst 0, 1) := by decide +kernel
theorem dX12_accepted_34 : decode cX12_accepted 34 = .ok (.iadd, 1) := by decide +kernel
theorem dX12_accepted_35 : decode cX12_accepted 35 = .ok (.istore_n 2, 1) := by decide +kernel
theorem dX12_accepted_36 : decode cX12_accepted 36 = .ok (.iinc 3 1, 3) := by decide +kernel
theorem dX12_accepted_39 : decode cX12_accepted 39 = .ok (.goto (-29), 3) := by decide +kernel
theorem dX12_accepted_42 : decode cX12_accepted 42 = .ok (.iload_n 2, 1) := by decide +kernel
theorem dX12_accepted_43 : decode cX12_accepted 43 = .ok (.ireturn, 1) := by decide +kernel
theorem dX12_acceptedWords_0 : decode cX12_acceptedWords 0 = .ok (.aload_n 0, 1) := by decide +kernel
theorem dX12_acceptedWords_1 : decode cX12_acceptedWords 1 = .ok (.iconst 0, 1) := by decide +kernel
theorem dX12_acceptedWords_2 : decode cX12_acceptedWords 2 = .ok (.putfield 117, 3) := by decide +kernel
theorem dX12_acceptedWords_5 : decode cX12_acceptedWords 5 = .ok (.aload_n 0, 1) := by decide +kernel
theorem dX12_acceptedWords_6 : decode cX12_acceptedWords 6 = .ok (.iload_n 1, 1) := by decide +kernel
theorem dX12_acceptedWords_7 : decode cX12_acceptedWords 7 = .ok (.invokevirtual 211, 3) := by decide +kernel
theorem dX12_acceptedWords_10 : decode cX12_acceptedWords 10 = .ok (.ifCond .eq 11, 3) := by decide +kernel
theorem dX12_acceptedWords_13 : decode cX12_acceptedWords 13 = .ok (.aload_n 0, 1) := by decide +kernel
theorem dX12_acceptedWords_14 : decode cX12_acceptedWords 14 = .ok (.iload_n 1, 1) := by decide +kernel
theorem dX12_acceptedWords_15 : decode cX12_acceptedWords 15 = .ok (.invokevirtual 337, 3) := by decide +kernel
theorem dX12_acceptedWords_18 : decode cX12_acceptedWords 18 = .ok (.goto 8, 3) := by decide +kernel
theorem dX12_acceptedWords_21 : decode cX12_acceptedWords 21 = .ok (.aload_n 0, 1) := by decide +kernel
theorem dX12_acceptedWords_22 : decode cX12_acceptedWords 22 = .ok (.iconst 1, 1) := by decide +kernel
theorem dX12_acceptedWords_23 : decode cX12_acceptedWords 23 = .ok (.invokevirtual 196, 3) := by decide +kernel
theorem dX12_acceptedWords_26 : decode cX12_acceptedWords 26 = .ok (.ireturn, 1) := by decide +kernel
theorem dX12_countWords_0 : decode cX12_countWords 0 = .ok (.aload_n 0, 1) := by decide +kernel
theorem dX12_countWords_1 : decode cX12_countWords 1 = .ok (.iconst 0, 1) := by decide +kernel
theorem dX12_countWords_2 : decode cX12_countWords 2 = .ok (.putfield 117, 3) := by decide +kernel
theorem dX12_countWords_5 : decode cX12_countWords 5 = .ok (.aload_n 0, 1) := by decide +kernel
theorem dX12_countWords_6 : decode cX12_countWords 6 = .ok (.iload_n 1, 1) := by decide +kernel
theorem dX12_countWords_7 : decode cX12_countWords 7 = .ok (.invokevirtual 211, 3) := by decide +kernel
theorem dX12_countWords_10 : decode cX12_countWords 10 = .ok (.ifCond .ne 9, 3) := by decide +kernel
theorem dX12_countWords_13 : decode cX12_countWords 13 = .ok (.aload_n 0, 1) := by decide +kernel
theorem dX12_countWords_14 : decode cX12_countWords 14 = .ok (.iconst 1, 1) := by decide +kernel
theorem dX12_countWords_15 : decode cX12_countWords 15 = .ok (.invokevirtual 196, 3) := by decide +kernel
theorem dX12_countWords_18 : decode cX12_countWords 18 = .ok (.ireturn, 1) := by decide +kernel
theorem dX12_countWords_19 : decode cX12_countWords 19 = .ok (.iload_n 2, 1) := by decide +kernel
theorem dX12_countWords_20 : decode cX12_countWords 20 = .ok (.iconst 0, 1) := by decide +kernel
theorem dX12_countWords_21 : decode cX12_countWords 21 = .ok (.bipush 6, 2) := by decide +kernel
theorem dX12_countWords_23 : decode cX12_countWords 23 = .ok (.invokestatic 132, 3) := by decide +kernel
theorem dX12_countWords_26 : decode cX12_countWords 26 = .ok (.ifCond .ne 9, 3) := by decide +kernel
theorem dX12_countWords_29 : decode cX12_countWords 29 = .ok (.aload_n 0, 1) := by decide +kernel
theorem dX12_countWords_30 : decode cX12_countWords 30 = .ok (.iconst 2, 1) := by decide +kernel
theorem dX12_countWords_31 : decode cX12_countWords 31 = .ok (.invokevirtual 196, 3) := by decide +kernel
theorem dX12_countWords_34 : decode cX12_countWords 34 = .ok (.ireturn, 1) := by decide +kernel
theorem dX12_countWords_35 : decode cX12_countWords 35 = .ok (.aload_n 0, 1) := by decide +kernel
theorem dX12_countWords_36 : decode cX12_countWords 36 = .ok (.iconst 0, 1) := by decide +kernel
theorem dX12_countWords_37 : decode cX12_countWords 37 = .ok (.iload_n 1, 1) := by decide +kernel
theorem dX12_countWords_38 : decode cX12_countWords 38 = .ok (.invokevirtual 280, 3) := by decide +kernel
theorem dX12_countWords_41 : decode cX12_countWords 41 = .ok (.iconst 0, 1) := by decide +kernel
theorem dX12_countWords_42 : decode cX12_countWords 42 = .ok (.istore_n 3, 1) := by decide +kernel
theorem dX12_countWords_43 : decode cX12_countWords 43 = .ok (.iload_n 3, 1) := by decide +kernel
theorem dX12_countWords_44 : decode cX12_countWords 44 = .ok (.sipush 129, 3) := by decide +kernel
theorem dX12_countWords_47 : decode cX12_countWords 47 = .ok (.if_icmp .ge 27, 3) := by decide +kernel
theorem dX12_countWords_50 : decode cX12_countWords 50 = .ok (.aload_n 0, 1) := by decide +kernel
theorem dX12_countWords_51 : decode cX12_countWords 51 = .ok (.getfield 96, 3) := by decide +kernel
theorem dX12_countWords_54 : decode cX12_countWords 54 = .ok (.iload_n 3, 1) := by decide +kernel
theorem dX12_countWords_55 : decode cX12_countWords 55 = .ok (.iload_n 3, 1) := by decide +kernel
theorem dX12_countWords_56 : decode cX12_countWords 56 = .ok (.sipush 128, 3) := by decide +kernel
theorem dX12_countWords_59 : decode cX12_countWords 59 = .ok (.if_icmp .ne 7, 3) := by decide +kernel
theorem dX12_countWords_62 : decode cX12_countWords 62 = .ok (.iconst 1, 1) := by decide +kernel
theorem dX12_countWords_63 : decode cX12_countWords 63 = .ok (.goto 4, 3) := by decide +kernel
theorem dX12_countWords_66 : decode cX12_countWords 66 = .ok (.iconst 0, 1) := by decide +kernel
theorem dX12_countWords_67 : decode cX12_countWords 67 = .ok (.iastore, 1) := by decide +kernel
theorem dX12_countWords_68 : decode cX12_countWords 68 = .ok (.iinc 3 1, 3) := by decide +kernel
theorem dX12_countWords_71 : decode cX12_countWords 71 = .ok (.goto (-28), 3) := by decide +kernel
theorem dX12_countWords_74 : decode cX12_countWords 74 = .ok (.iconst 0, 1) := by decide +kernel
theorem dX12_countWords_75 : decode cX12_countWords 75 = .ok (.istore_n 3, 1) := by decide +kernel
theorem dX12_countWords_76 : decode cX12_countWords 76 = .ok (.iload_n 3, 1) := by decide +kernel
theorem dX12_countWords_77 : decode cX12_countWords 77 = .ok (.iload_n 2, 1) := by decide +kernel
theorem dX12_countWords_78 : decode cX12_countWords 78 = .ok (.if_icmp .ge 121, 3) := by decide +kernel
theorem dX12_countWords_81 : decode cX12_countWords 81 = .ok (.iconst 0, 1) := by decide +kernel
theorem dX12_countWords_82 : decode cX12_countWords 82 = .ok (.istore 4, 2) := by decide +kernel
theorem dX12_countWords_84 : decode cX12_countWords 84 = .ok (.iload 4, 2) := by decide +kernel
theorem dX12_countWords_86 : decode cX12_countWords 86 = .ok (.sipush 129, 3) := by decide +kernel
theorem dX12_countWords_89 : decode cX12_countWords 89 = .ok (.if_icmp .ge 17, 3) := by decide +kernel
theorem dX12_countWords_92 : decode cX12_countWords 92 = .ok (.aload_n 0, 1) := by decide +kernel
theorem dX12_countWords_93 : decode cX12_countWords 93 = .ok (.getfield 99, 3) := by decide +kernel
theorem dX12_countWords_96 : decode cX12_countWords 96 = .ok (.iload 4, 2) := by decide +kernel
theorem dX12_countWords_98 : decode cX12_countWords 98 = .ok (.iconst 0, 1) := by decide +kernel
theorem dX12_countWords_99 : decode cX12_countWords 99 = .ok (.iastore, 1) := by decide +kernel
theorem dX12_countWords_100 : decode cX12_countWords 100 = .ok (.iinc 4 1, 3) := by decide +kernel
theorem dX12_countWords_103 : decode cX12_countWords 103 = .ok (.goto (-19), 3) := by decide +kernel
theorem dX12_countWords_106 : decode cX12_countWords 106 = .ok (.iconst 0, 1) := by decide +kernel
theorem dX12_countWords_107 : decode cX12_countWords 107 = .ok (.istore 4, 2) := by decide +kernel
theorem dX12_countWords_109 : decode cX12_countWords 109 = .ok (.iload 4, 2) := by decide +kernel
theorem dX12_countWords_111 : decode cX12_countWords 111 = .ok (.sipush 129, 3) := by decide +kernel
theorem dX12_countWords_114 : decode cX12_countWords 114 = .ok (.if_icmp .ge 48, 3) := by decide +kernel
theorem dX12_countWords_117 : decode cX12_countWords 117 = .ok (.iconst 0, 1) := by decide +kernel
theorem dX12_countWords_118 : decode cX12_countWords 118 = .ok (.istore 5, 2) := by decide +kernel
theorem dX12_countWords_120 : decode cX12_countWords 120 = .ok (.iload 5, 2) := by decide +kernel
theorem dX12_countWords_122 : decode cX12_countWords 122 = .ok (.iconst 3, 1) := by decide +kernel
theorem dX12_countWords_123 : decode cX12_countWords 123 = .ok (.if_icmp .ge 33, 3) := by decide +kernel
theorem dX12_countWords_126 : decode cX12_countWords 126 = .ok (.aload_n 0, 1) := by decide +kernel
theorem dX12_countWords_127 : decode cX12_countWords 127 = .ok (.getfield 99, 3) := by decide +kernel
theorem dX12_countWords_130 : decode cX12_countWords 130 = .ok (.aload_n 0, 1) := by decide +kernel
theorem dX12_countWords_131 : decode cX12_countWords 131 = .ok (.iconst 0, 1) := by decide +kernel
theorem dX12_countWords_132 : decode cX12_countWords 132 = .ok (.iload 4, 2) := by decide +kernel
theorem dX12_countWords_134 : decode cX12_countWords 134 = .ok (.iload 5, 2) := by decide +kernel
theorem dX12_countWords_136 : decode cX12_countWords 136 = .ok (.invokevirtual 277, 3) := by decide +kernel
theorem dX12_countWords_139 : decode cX12_countWords 139 = .ok (.dup2, 1) := by decide +kernel
theorem dX12_countWords_140 : decode cX12_countWords 140 = .ok (.iaload, 1) := by decide +kernel
theorem dX12_countWords_141 : decode cX12_countWords 141 = .ok (.aload_n 0, 1) := by decide +kernel
theorem dX12_countWords_142 : decode cX12_countWords 142 = .ok (.getfield 96, 3) := by decide +kernel
theorem dX12_countWords_145 : decode cX12_countWords 145 = .ok (.iload 4, 2) := by decide +kernel
theorem dX12_countWords_147 : decode cX12_countWords 147 = .ok (.iaload, 1) := by decide +kernel
theorem dX12_countWords_148 : decode cX12_countWords 148 = .ok (.iadd, 1) := by decide +kernel
theorem dX12_countWords_149 : decode cX12_countWords 149 = .ok (.iastore, 1) := by decide +kernel
theorem dX12_countWords_150 : decode cX12_countWords 150 = .ok (.iinc 5 1, 3) := by decide +kernel
theorem dX12_countWords_153 : decode cX12_countWords 153 = .ok (.goto (-33), 3) := by decide +kernel
theorem dX12_countWords_156 : decode cX12_countWords 156 = .ok (.iinc 4 1, 3) := by decide +kernel
theorem dX12_countWords_159 : decode cX12_countWords 159 = .ok (.goto (-50), 3) := by decide +kernel
theorem dX12_countWords_162 : decode cX12_countWords 162 = .ok (.iconst 0, 1) := by decide +kernel
theorem dX12_countWords_163 : decode cX12_countWords 163 = .ok (.istore 4, 2) := by decide +kernel
theorem dX12_countWords_165 : decode cX12_countWords 165 = .ok (.iload 4, 2) := by decide +kernel
theorem dX12_countWords_167 : decode cX12_countWords 167 = .ok (.sipush 129, 3) := by decide +kernel
theorem dX12_countWords_170 : decode cX12_countWords 170 = .ok (.if_icmp .ge 23, 3) := by decide +kernel
theorem dX12_countWords_173 : decode cX12_countWords 173 = .ok (.aload_n 0, 1) := by decide +kernel
theorem dX12_countWords_174 : decode cX12_countWords 174 = .ok (.getfield 96, 3) := by decide +kernel
theorem dX12_countWords_177 : decode cX12_countWords 177 = .ok (.iload 4, 2) := by decide +kernel
theorem dX12_countWords_179 : decode cX12_countWords 179 = .ok (.aload_n 0, 1) := by decide +kernel
theorem dX12_countWords_180 : decode cX12_countWords 180 = .ok (.getfield 99, 3) := by decide +kernel
theorem dX12_countWords_183 : decode cX12_countWords 183 = .ok (.iload 4, 2) := by decide +kernel
theorem dX12_countWords_185 : decode cX12_countWords 185 = .ok (.iaload, 1) := by decide +kernel
theorem dX12_countWords_186 : decode cX12_countWords 186 = .ok (.iastore, 1) := by decide +kernel
theorem dX12_countWords_187 : decode cX12_countWords 187 = .ok (.iinc 4 1, 3) := by decide +kernel
theorem dX12_countWords_190 : decode cX12_countWords 190 = .ok (.goto (-25), 3) := by decide +kernel
theorem dX12_countWords_193 : decode cX12_countWords 193 = .ok (.iinc 3 1, 3) := by decide +kernel
theorem dX12_countWords_196 : decode cX12_countWords 196 = .ok (.goto (-120), 3) := by decide +kernel
theorem dX12_countWords_199 : decode cX12_countWords 199 = .ok (.iconst 0, 1) := by decide +kernel
theorem dX12_countWords_200 : decode cX12_countWords 200 = .ok (.istore_n 3, 1) := by decide +kernel
theorem dX12_countWords_201 : decode cX12_countWords 201 = .ok (.iconst 0, 1) := by decide +kernel
theorem dX12_countWords_202 : decode cX12_countWords 202 = .ok (.istore 4, 2) := by decide +kernel
theorem dX12_countWords_204 : decode cX12_countWords 204 = .ok (.iload 4, 2) := by decide +kernel
theorem dX12_countWords_206 : decode cX12_countWords 206 = .ok (.sipush 129, 3) := by decide +kernel
theorem dX12_countWords_209 : decode cX12_countWords 209 = .ok (.if_icmp .ge 33, 3) := by decide +kernel
theorem dX12_countWords_212 : decode cX12_countWords 212 = .ok (.iload_n 3, 1) := by decide +kernel
theorem dX12_countWords_213 : decode cX12_countWords 213 = .ok (.aload_n 0, 1) := by decide +kernel
theorem dX12_countWords_214 : decode cX12_countWords 214 = .ok (.iconst 0, 1) := by decide +kernel
theorem dX12_countWords_215 : decode cX12_countWords 215 = .ok (.iload 4, 2) := by decide +kernel
theorem dX12_countWords_217 : decode cX12_countWords 217 = .ok (.invokevirtual 286, 3) := by decide +kernel
theorem dX12_countWords_220 : decode cX12_countWords 220 = .ok (.ifCond .eq 13, 3) := by decide +kernel
theorem dX12_countWords_223 : decode cX12_countWords 223 = .ok (.aload_n 0, 1) := by decide +kernel
theorem dX12_countWords_224 : decode cX12_countWords 224 = .ok (.getfield 96, 3) := by decide +kernel
theorem dX12_countWords_227 : decode cX12_countWords 227 = .ok (.iload 4, 2) := by decide +kernel
theorem dX12_countWords_229 : decode cX12_countWords 229 = .ok (.iaload, 1) := by decide +kernel
theorem dX12_countWords_230 : decode cX12_countWords 230 = .ok (.goto 4, 3) := by decide +kernel
theorem dX12_countWords_233 : decode cX12_countWords 233 = .ok (.iconst 0, 1) := by decide +kernel
theorem dX12_countWords_234 : decode cX12_countWords 234 = .ok (.iadd, 1) := by decide +kernel
theorem dX12_countWords_235 : decode cX12_countWords 235 = .ok (.istore_n 3, 1) := by decide +kernel
theorem dX12_countWords_236 : decode cX12_countWords 236 = .ok (.iinc 4 1, 3) := by decide +kernel
theorem dX12_countWords_239 : decode cX12_countWords 239 = .ok (.goto (-35), 3) := by decide +kernel
theorem dX12_countWords_242 : decode cX12_countWords 242 = .ok (.iload_n 3, 1) := by decide +kernel
theorem dX12_countWords_243 : decode cX12_countWords 243 = .ok (.ireturn, 1) := by decide +kernel
theorem dX12_countWordsByListing_0 : decode cX12_countWordsByListing 0 = .ok (.aload_n 0, 1) := by decide +kernel
theorem dX12_countWordsByListing_1 : decode cX12_countWordsByListing 1 = .ok (.iload_n 1, 1) := by decide +kernel
theorem dX12_countWordsByListing_2 : decode cX12_countWordsByListing 2 = .ok (.iload_n 2, 1) := by decide +kernel
theorem dX12_countWordsByListing_3 : decode cX12_countWordsByListing 3 = .ok (.invokevirtual 340, 3) := by decide +kernel
theorem dX12_countWordsByListing_6 : decode cX12_countWordsByListing 6 = .ok (.ireturn, 1) := by decide +kernel
theorem dX12_shortestLength_0 : decode cX12_shortestLength 0 = .ok (.aload_n 0, 1) := by decide +kernel
theorem dX12_shortestLength_1 : decode cX12_shortestLength 1 = .ok (.iconst 0, 1) := by decide +kernel
theorem dX12_shortestLength_2 : decode cX12_shortestLength 2 = .ok (.putfield 117, 3) := by decide +kernel
theorem dX12_shortestLength_5 : decode cX12_shortestLength 5 = .ok (.aload_n 0, 1) := by decide +kernel
theorem dX12_shortestLength_6 : decode cX12_shortestLength 6 = .ok (.iload_n 1, 1) := by decide +kernel
theorem dX12_shortestLength_7 : decode cX12_shortestLength 7 = .ok (.invokevirtual 211, 3) := by decide +kernel
theorem dX12_shortestLength_10 : decode cX12_shortestLength 10 = .ok (.ifCond .ne 9, 3) := by decide +kernel
theorem dX12_shortestLength_13 : decode cX12_shortestLength 13 = .ok (.aload_n 0, 1) := by decide +kernel
theorem dX12_shortestLength_14 : decode cX12_shortestLength 14 = .ok (.iconst 1, 1) := by decide +kernel
theorem dX12_shortestLength_15 : decode cX12_shortestLength 15 = .ok (.invokevirtual 196, 3) := by decide +kernel
theorem dX12_shortestLength_18 : decode cX12_shortestLength 18 = .ok (.ireturn, 1) := by decide +kernel
theorem dX12_shortestLength_19 : decode cX12_shortestLength 19 = .ok (.aload_n 0, 1) := by decide +kernel
theorem dX12_shortestLength_20 : decode cX12_shortestLength 20 = .ok (.iload_n 1, 1) := by decide +kernel
theorem dX12_shortestLength_21 : decode cX12_shortestLength 21 = .ok (.invokevirtual 292, 3) := by decide +kernel
theorem dX12_shortestLength_24 : decode cX12_shortestLength 24 = .ok (.aload_n 0, 1) := by decide +kernel
theorem dX12_shortestLength_25 : decode cX12_shortestLength 25 = .ok (.invokevirtual 343, 3) := by decide +kernel
theorem dX12_shortestLength_28 : decode cX12_shortestLength 28 = .ok (.aload_n 0, 1) := by decide +kernel
theorem dX12_shortestLength_29 : decode cX12_shortestLength 29 = .ok (.getfield 84, 3) := by decide +kernel
theorem dX12_shortestLength_32 : decode cX12_shortestLength 32 = .ok (.sipush 128, 3) := by decide +kernel
theorem dX12_shortestLength_35 : decode cX12_shortestLength 35 = .ok (.iaload, 1) := by decide +kernel
theorem dX12_shortestLength_36 : decode cX12_shortestLength 36 = .ok (.ireturn, 1) := by decide +kernel
theorem dX12_stateCount_0 : decode cX12_stateCount 0 = .ok (.aload_n 0, 1) := by decide +kernel
theorem dX12_stateCount_1 : decode cX12_stateCount 1 = .ok (.iconst 0, 1) := by decide +kernel
theorem dX12_stateCount_2 : decode cX12_stateCount 2 = .ok (.putfield 117, 3) := by decide +kernel
theorem dX12_stateCount_5 : decode cX12_stateCount 5 = .ok (.aload_n 0, 1) := by decide +kernel
theorem dX12_stateCount_6 : decode cX12_stateCount 6 = .ok (.iload_n 1, 1) := by decide +kernel
theorem dX12_stateCount_7 : decode cX12_stateCount 7 = .ok (.invokevirtual 211, 3) := by decide +kernel
theorem dX12_stateCount_10 : decode cX12_stateCount 10 = .ok (.ifCond .ne 9, 3) := by decide +kernel
theorem dX12_stateCount_13 : decode cX12_stateCount 13 = .ok (.aload_n 0, 1) := by decide +kernel
theorem dX12_stateCount_14 : decode cX12_stateCount 14 = .ok (.iconst 1, 1) := by decide +kernel
theorem dX12_stateCount_15 : decode cX12_stateCount 15 = .ok (.invokevirtual 196, 3) := by decide +kernel
theorem dX12_stateCount_18 : decode cX12_stateCount 18 = .ok (.ireturn, 1) := by decide +kernel
theorem dX12_stateCount_19 : decode cX12_stateCount 19 = .ok (.aload_n 0, 1) := by decide +kernel
theorem dX12_stateCount_20 : decode cX12_stateCount 20 = .ok (.iload_n 1, 1) := by decide +kernel
theorem dX12_stateCount_21 : decode cX12_stateCount 21 = .ok (.invokevirtual 292, 3) := by decide +kernel
theorem dX12_stateCount_24 : decode cX12_stateCount 24 = .ok (.aload_n 0, 1) := by decide +kernel
theorem dX12_stateCount_25 : decode cX12_stateCount 25 = .ok (.getfield 274, 3) := by decide +kernel
theorem dX12_stateCount_28 : decode cX12_stateCount 28 = .ok (.ireturn, 1) := by decide +kernel
theorem dX12_acceptingCount_0 : decode cX12_acceptingCount 0 = .ok (.aload_n 0, 1) := by decide +kernel
theorem dX12_acceptingCount_1 : decode cX12_acceptingCount 1 = .ok (.iconst 0, 1) := by decide +kernel
theorem dX12_acceptingCount_2 : decode cX12_acceptingCount 2 = .ok (.putfield 117, 3) := by decide +kernel
theorem dX12_acceptingCount_5 : decode cX12_acceptingCount 5 = .ok (.aload_n 0, 1) := by decide +kernel
theorem dX12_acceptingCount_6 : decode cX12_acceptingCount 6 = .ok (.iload_n 1, 1) := by decide +kernel
theorem dX12_acceptingCount_7 : decode cX12_acceptingCount 7 = .ok (.invokevirtual 211, 3) := by decide +kernel
theorem dX12_acceptingCount_10 : decode cX12_acceptingCount 10 = .ok (.ifCond .ne 9, 3) := by decide +kernel
theorem dX12_acceptingCount_13 : decode cX12_acceptingCount 13 = .ok (.aload_n 0, 1) := by decide +kernel
theorem dX12_acceptingCount_14 : decode cX12_acceptingCount 14 = .ok (.iconst 1, 1) := by decide +kernel
theorem dX12_acceptingCount_15 : decode cX12_acceptingCount 15 = .ok (.invokevirtual 196, 3) := by decide +kernel
theorem dX12_acceptingCount_18 : decode cX12_acceptingCount 18 = .ok (.ireturn, 1) := by decide +kernel
theorem dX12_acceptingCount_19 : decode cX12_acceptingCount 19 = .ok (.aload_n 0, 1) := by decide +kernel
theorem dX12_acceptingCount_20 : decode cX12_acceptingCount 20 = .ok (.iload_n 1, 1) := by decide +kernel
theorem dX12_acceptingCount_21 : decode cX12_acceptingCount 21 = .ok (.invokevirtual 292, 3) := by decide +kernel
theorem dX12_acceptingCount_24 : decode cX12_acceptingCount 24 = .ok (.iconst 0, 1) := by decide +kernel
theorem dX12_acceptingCount_25 : decode cX12_acceptingCount 25 = .ok (.istore_n 2, 1) := by decide +kernel
theorem dX12_acceptingCount_26 : decode cX12_acceptingCount 26 = .ok (.iconst 0, 1) := by decide +kernel
theorem dX12_acceptingCount_27 : decode cX12_acceptingCount 27 = .ok (.istore_n 3, 1) := by decide +kernel
theorem dX12_acceptingCount_28 : decode cX12_acceptingCount 28 = .ok (.iload_n 3, 1) := by decide +kernel
theorem dX12_acceptingCount_29 : decode cX12_acceptingCount 29 = .ok (.aload_n 0, 1) := by decide +kernel
theorem dX12_acceptingCount_30 : decode cX12_acceptingCount 30 = .ok (.getfield 274, 3) := by decide +kernel
theorem dX12_acceptingCount_33 : decode cX12_acceptingCount 33 = .ok (.if_icmp .ge 31, 3) := by decide +kernel
theorem dX12_acceptingCount_36 : decode cX12_acceptingCount 36 = .ok (.iload_n 2, 1) := by decide +kernel
theorem dX12_acceptingCount_37 : decode cX12_acceptingCount 37 = .ok (.aload_n 0, 1) := by decide +kernel
theorem dX12_acceptingCount_38 : decode cX12_acceptingCount 38 = .ok (.iconst 0, 1) := by decide +kernel
theorem dX12_acceptingCount_39 : decode cX12_acceptingCount 39 = .ok (.aload_n 0, 1) := by decide +kernel
theorem dX12_acceptingCount_40 : decode cX12_acceptingCount 40 = .ok (.getfield 69, 3) := by decide +kernel
theorem dX12_acceptingCount_43 : decode cX12_acceptingCount 43 = .ok (.iload_n 3, 1) := by decide +kernel
theorem dX12_acceptingCount_44 : decode cX12_acceptingCount 44 = .ok (.iaload, 1) := by decide +kernel
theorem dX12_acceptingCount_45 : decode cX12_acceptingCount 45 = .ok (.invokevirtual 286, 3) := by decide +kernel
theorem dX12_acceptingCount_48 : decode cX12_acceptingCount 48 = .ok (.ifCond .eq 7, 3) := by decide +kernel
theorem dX12_acceptingCount_51 : decode cX12_acceptingCount 51 = .ok (.iconst 1, 1) := by decide +kernel
theorem dX12_acceptingCount_52 : decode cX12_acceptingCount 52 = .ok (.goto 4, 3) := by decide +kernel
theorem dX12_acceptingCount_55 : decode cX12_acceptingCount 55 = .ok (.iconst 0, 1) := by decide +kernel
theorem dX12_acceptingCount_56 : decode cX12_acceptingCount 56 = .ok (.iadd, 1) := by decide +kernel
theorem dX12_acceptingCount_57 : decode cX12_acceptingCount 57 = .ok (.istore_n 2, 1) := by decide +kernel
theorem dX12_acceptingCount_58 : decode cX12_acceptingCount 58 = .ok (.iinc 3 1, 3) := by decide +kernel
theorem dX12_acceptingCount_61 : decode cX12_acceptingCount 61 = .ok (.goto (-33), 3) := by decide +kernel
theorem dX12_acceptingCount_64 : decode cX12_acceptingCount 64 = .ok (.iload_n 2, 1) := by decide +kernel
theorem dX12_acceptingCount_65 : decode cX12_acceptingCount 65 = .ok (.ireturn, 1) := by decide +kernel
theorem dX12_smallestCount_0 : decode cX12_smallestCount 0 = .ok (.aload_n 0, 1) := by decide +kernel
theorem dX12_smallestCount_1 : decode cX12_smallestCount 1 = .ok (.iconst 0, 1) := by decide +kernel
theorem dX12_smallestCount_2 : decode cX12_smallestCount 2 = .ok (.putfield 117, 3) := by decide +kernel
theorem dX12_smallestCount_5 : decode cX12_smallestCount 5 = .ok (.aload_n 0, 1) := by decide +kernel
theorem dX12_smallestCount_6 : decode cX12_smallestCount 6 = .ok (.iload_n 1, 1) := by decide +kernel
theorem dX12_smallestCount_7 : decode cX12_smallestCount 7 = .ok (.invokevirtual 211, 3) := by decide +kernel
theorem dX12_smallestCount_10 : decode cX12_smallestCount 10 = .ok (.ifCond .eq 11, 3) := by decide +kernel
theorem dX12_smallestCount_13 : decode cX12_smallestCount 13 = .ok (.aload_n 0, 1) := by decide +kernel
theorem dX12_smallestCount_14 : decode cX12_smallestCount 14 = .ok (.iload_n 1, 1) := by decide +kernel
theorem dX12_smallestCount_15 : decode cX12_smallestCount 15 = .ok (.invokevirtual 346, 3) := by decide +kernel
theorem dX12_smallestCount_18 : decode cX12_smallestCount 18 = .ok (.goto 8, 3) := by decide +kernel
theorem dX12_smallestCount_21 : decode cX12_smallestCount 21 = .ok (.aload_n 0, 1) := by decide +kernel
theorem dX12_smallestCount_22 : decode cX12_smallestCount 22 = .ok (.iconst 1, 1) := by decide +kernel
theorem dX12_smallestCount_23 : decode cX12_smallestCount 23 = .ok (.invokevirtual 196, 3) := by decide +kernel
theorem dX12_smallestCount_26 : decode cX12_smallestCount 26 = .ok (.ireturn, 1) := by decide +kernel
theorem dX12_smallestCountByPairs_0 : decode cX12_smallestCountByPairs 0 = .ok (.aload_n 0, 1) := by decide +kernel
theorem dX12_smallestCountByPairs_1 : decode cX12_smallestCountByPairs 1 = .ok (.iload_n 1, 1) := by decide +kernel
theorem dX12_smallestCountByPairs_2 : decode cX12_smallestCountByPairs 2 = .ok (.invokevirtual 349, 3) := by decide +kernel
theorem dX12_smallestCountByPairs_5 : decode cX12_smallestCountByPairs 5 = .ok (.ireturn, 1) := by decide +kernel
theorem dX12_isFinite_0 : decode cX12_isFinite 0 = .ok (.aload_n 0, 1) := by decide +kernel
theorem dX12_isFinite_1 : decode cX12_isFinite 1 = .ok (.iconst 0, 1) := by decide +kernel
theorem dX12_isFinite_2 : decode cX12_isFinite 2 = .ok (.putfield 117, 3) := by decide +kernel
theorem dX12_isFinite_5 : decode cX12_isFinite 5 = .ok (.aload_n 0, 1) := by decide +kernel
theorem dX12_isFinite_6 : decode cX12_isFinite 6 = .ok (.iload_n 1, 1) := by decide +kernel
theorem dX12_isFinite_7 : decode cX12_isFinite 7 = .ok (.invokevirtual 211, 3) := by decide +kernel
theorem dX12_isFinite_10 : decode cX12_isFinite 10 = .ok (.ifCond .ne 17, 3) := by decide +kernel
theorem dX12_isFinite_13 : decode cX12_isFinite 13 = .ok (.aload_n 0, 1) := by decide +kernel
theorem dX12_isFinite_14 : decode cX12_isFinite 14 = .ok (.iconst 1, 1) := by decide +kernel
theorem dX12_isFinite_15 : decode cX12_isFinite 15 = .ok (.invokevirtual 196, 3) := by decide +kernel
theorem dX12_isFinite_18 : decode cX12_isFinite 18 = .ok (.ifCond .le 7, 3) := by decide +kernel
theorem dX12_isFinite_21 : decode cX12_isFinite 21 = .ok (.iconst 1, 1) := by decide +kernel
theorem dX12_isFinite_22 : decode cX12_isFinite 22 = .ok (.goto 4, 3) := by decide +kernel
theorem dX12_isFinite_25 : decode cX12_isFinite 25 = .ok (.iconst 0, 1) := by decide +kernel
theorem dX12_isFinite_26 : decode cX12_isFinite 26 = .ok (.ireturn, 1) := by decide +kernel
theorem dX12_isFinite_27 : decode cX12_isFinite 27 = .ok (.aload_n 0, 1) := by decide +kernel
theorem dX12_isFinite_28 : decode cX12_isFinite 28 = .ok (.iload_n 1, 1) := by decide +kernel
theorem dX12_isFinite_29 : decode cX12_isFinite 29 = .ok (.invokevirtual 292, 3) := by decide +kernel
theorem dX12_isFinite_32 : decode cX12_isFinite 32 = .ok (.aload_n 0, 1) := by decide +kernel
theorem dX12_isFinite_33 : decode cX12_isFinite 33 = .ok (.invokevirtual 343, 3) := by decide +kernel
theorem dX12_isFinite_36 : decode cX12_isFinite 36 = .ok (.iconst 0, 1) := by decide +kernel
theorem dX12_isFinite_37 : decode cX12_isFinite 37 = .ok (.istore_n 2, 1) := by decide +kernel
theorem dX12_isFinite_38 : decode cX12_isFinite 38 = .ok (.iload_n 2, 1) := by decide +kernel
theorem dX12_isFinite_39 : decode cX12_isFinite 39 = .ok (.sipush 129, 3) := by decide +kernel
theorem dX12_isFinite_42 : decode cX12_isFinite 42 = .ok (.if_icmp .ge 27, 3) := by decide +kernel
theorem dX12_isFinite_45 : decode cX12_isFinite 45 = .ok (.aload_n 0, 1) := by decide +kernel
theorem dX12_isFinite_46 : decode cX12_isFinite 46 = .ok (.getfield 96, 3) := by decide +kernel
theorem dX12_isFinite_49 : decode cX12_isFinite 49 = .ok (.iload_n 2, 1) := by decide +kernel
theorem dX12_isFinite_50 : decode cX12_isFinite 50 = .ok (.iload_n 2, 1) := by decide +kernel
theorem dX12_isFinite_51 : decode cX12_isFinite 51 = .ok (.sipush 128, 3) := by decide +kernel
theorem dX12_isFinite_54 : decode cX12_isFinite 54 = .ok (.if_icmp .ne 7, 3) := by decide +kernel
theorem dX12_isFinite_57 : decode cX12_isFinite 57 = .ok (.iconst 1, 1) := by decide +kernel
theorem dX12_isFinite_58 : decode cX12_isFinite 58 = .ok (.goto 4, 3) := by decide +kernel
theorem dX12_isFinite_61 : decode cX12_isFinite 61 = .ok (.iconst 0, 1) := by decide +kernel
theorem dX12_isFinite_62 : decode cX12_isFinite 62 = .ok (.iastore, 1) := by decide +kernel
theorem dX12_isFinite_63 : decode cX12_isFinite 63 = .ok (.iinc 2 1, 3) := by decide +kernel
theorem dX12_isFinite_66 : decode cX12_isFinite 66 = .ok (.goto (-28), 3) := by decide +kernel
theorem dX12_isFinite_69 : decode cX12_isFinite 69 = .ok (.iconst 0, 1) := by decide +kernel
theorem dX12_isFinite_70 : decode cX12_isFinite 70 = .ok (.istore_n 2, 1) := by decide +kernel
theorem dX12_isFinite_71 : decode cX12_isFinite 71 = .ok (.iload_n 2, 1) := by decide +kernel
theorem dX12_isFinite_72 : decode cX12_isFinite 72 = .ok (.aload_n 0, 1) := by decide +kernel
theorem dX12_isFinite_73 : decode cX12_isFinite 73 = .ok (.getfield 274, 3) := by decide +kernel
theorem dX12_isFinite_76 : decode cX12_isFinite 76 = .ok (.if_icmp .ge 111, 3) := by decide +kernel
theorem dX12_isFinite_79 : decode cX12_isFinite 79 = .ok (.iconst 0, 1) := by decide +kernel
theorem dX12_isFinite_80 : decode cX12_isFinite 80 = .ok (.istore_n 3, 1) := by decide +kernel
theorem dX12_isFinite_81 : decode cX12_isFinite 81 = .ok (.iload_n 3, 1) := by decide +kernel
theorem dX12_isFinite_82 : decode cX12_isFinite 82 = .ok (.sipush 129, 3) := by decide +kernel
theorem dX12_isFinite_85 : decode cX12_isFinite 85 = .ok (.if_icmp .ge 16, 3) := by decide +kernel
theorem dX12_isFinite_88 : decode cX12_isFinite 88 = .ok (.aload_n 0, 1) := by decide +kernel
theorem dX12_isFinite_89 : decode cX12_isFinite 89 = .ok (.getfield 99, 3) := by decide +kernel
theorem dX12_isFinite_92 : decode cX12_isFinite 92 = .ok (.iload_n 3, 1) := by decide +kernel
theorem dX12_isFinite_93 : decode cX12_isFinite 93 = .ok (.iconst 0, 1) := by decide +kernel
theorem dX12_isFinite_94 : decode cX12_isFinite 94 = .ok (.iastore, 1) := by decide +kernel
theorem dX12_isFinite_95 : decode cX12_isFinite 95 = .ok (.iinc 3 1, 3) := by decide +kernel
theorem dX12_isFinite_98 : decode cX12_isFinite 98 = .ok (.goto (-17), 3) := by decide +kernel
theorem dX12_isFinite_101 : decode cX12_isFinite 101 = .ok (.iconst 0, 1) := by decide +kernel
theorem dX12_isFinite_102 : decode cX12_isFinite 102 = .ok (.istore_n 3, 1) := by decide +kernel
theorem dX12_isFinite_103 : decode cX12_isFinite 103 = .ok (.iload_n 3, 1) := by decide +kernel
theorem dX12_isFinite_104 : decode cX12_isFinite 104 = .ok (.sipush 129, 3) := by decide +kernel
theorem dX12_isFinite_107 : decode cX12_isFinite 107 = .ok (.if_icmp .ge 47, 3) := by decide +kernel
theorem dX12_isFinite_110 : decode cX12_isFinite 110 = .ok (.iconst 0, 1) := by decide +kernel
theorem dX12_isFinite_111 : decode cX12_isFinite 111 = .ok (.istore 4, 2) := by decide +kernel
theorem dX12_isFinite_113 : decode cX12_isFinite 113 = .ok (.iload 4, 2) := by decide +kernel
theorem dX12_isFinite_115 : decode cX12_isFinite 115 = .ok (.iconst 3, 1) := by decide +kernel
theorem dX12_isFinite_116 : decode cX12_isFinite 116 = .ok (.if_icmp .ge 32, 3) := by decide +kernel
theorem dX12_isFinite_119 : decode cX12_isFinite 119 = .ok (.aload_n 0, 1) := by decide +kernel
theorem dX12_isFinite_120 : decode cX12_isFinite 120 = .ok (.getfield 96, 3) := by decide +kernel
theorem dX12_isFinite_123 : decode cX12_isFinite 123 = .ok (.iload_n 3, 1) := by decide +kernel
theorem dX12_isFinite_124 : decode cX12_isFinite 124 = .ok (.iaload, 1) := by decide +kernel
theorem dX12_isFinite_125 : decode cX12_isFinite 125 = .ok (.ifCond .le 23, 3) := by decide +kernel
theorem dX12_isFinite_128 : decode cX12_isFinite 128 = .ok (.aload_n 0, 1) := by decide +kernel
theorem dX12_isFinite_129 : decode cX12_isFinite 129 = .ok (.getfield 99, 3) := by decide +kernel
theorem dX12_isFinite_132 : decode cX12_isFinite 132 = .ok (.aload_n 0, 1) := by decide +kernel
theorem dX12_isFinite_133 : decode cX12_isFinite 133 = .ok (.iconst 0, 1) := by decide +kernel
theorem dX12_isFinite_134 : decode cX12_isFinite 134 = .ok (.iload_n 3, 1) := by decide +kernel
theorem dX12_isFinite_135 : decode cX12_isFinite 135 = .ok (.iload 4, 2) := by decide +kernel
theorem dX12_isFinite_137 : decode cX12_isFinite 137 = .ok (.invokevirtual 277, 3) := by decide +kernel
theorem dX12_isFinite_140 : decode cX12_isFinite 140 = .ok (.iconst 1, 1) := by decide +kernel
theorem dX12_isFinite_141 : decode cX12_isFinite 141 = .ok (.iastore, 1) := by decide +kernel
theorem dX12_isFinite_142 : decode cX12_isFinite 142 = .ok (.iinc 4 1, 3) := by decide +kernel
theorem dX12_isFinite_145 : decode cX12_isFinite 145 = .ok (.goto (-32), 3) := by decide +kernel
theorem dX12_isFinite_148 : decode cX12_isFinite 148 = .ok (.iinc 3 1, 3) := by decide +kernel
theorem dX12_isFinite_151 : decode cX12_isFinite 151 = .ok (.goto (-48), 3) := by decide +kernel
theorem dX12_isFinite_154 : decode cX12_isFinite 154 = .ok (.iconst 0, 1) := by decide +kernel
theorem dX12_isFinite_155 : decode cX12_isFinite 155 = .ok (.istore_n 3, 1) := by decide +kernel
theorem dX12_isFinite_156 : decode cX12_isFinite 156 = .ok (.iload_n 3, 1) := by decide +kernel
theorem dX12_isFinite_157 : decode cX12_isFinite 157 = .ok (.sipush 129, 3) := by decide +kernel
theorem dX12_isFinite_160 : decode cX12_isFinite 160 = .ok (.if_icmp .ge 21, 3) := by decide +kernel
theorem dX12_isFinite_163 : decode cX12_isFinite 163 = .ok (.aload_n 0, 1) := by decide +kernel
theorem dX12_isFinite_164 : decode cX12_isFinite 164 = .ok (.getfield 96, 3) := by decide +kernel
theorem dX12_isFinite_167 : decode cX12_isFinite 167 = .ok (.iload_n 3, 1) := by decide +kernel
theorem dX12_isFinite_168 : decode cX12_isFinite 168 = .ok (.aload_n 0, 1) := by decide +kernel
theorem dX12_isFinite_169 : decode cX12_isFinite 169 = .ok (.getfield 99, 3) := by decide +kernel
theorem dX12_isFinite_172 : decode cX12_isFinite 172 = .ok (.iload_n 3, 1) := by decide +kernel
theorem dX12_isFinite_173 : decode cX12_isFinite 173 = .ok (.iaload, 1) := by decide +kernel
theorem dX12_isFinite_174 : decode cX12_isFinite 174 = .ok (.iastore, 1) := by decide +kernel
theorem dX12_isFinite_175 : decode cX12_isFinite 175 = .ok (.iinc 3 1, 3) := by decide +kernel
theorem dX12_isFinite_178 : decode cX12_isFinite 178 = .ok (.goto (-22), 3) := by decide +kernel
theorem dX12_isFinite_181 : decode cX12_isFinite 181 = .ok (.iinc 2 1, 3) := by decide +kernel
theorem dX12_isFinite_184 : decode cX12_isFinite 184 = .ok (.goto (-113), 3) := by decide +kernel
theorem dX12_isFinite_187 : decode cX12_isFinite 187 = .ok (.iconst 0, 1) := by decide +kernel
theorem dX12_isFinite_188 : decode cX12_isFinite 188 = .ok (.istore_n 2, 1) := by decide +kernel
theorem dX12_isFinite_189 : decode cX12_isFinite 189 = .ok (.iload_n 2, 1) := by decide +kernel
theorem dX12_isFinite_190 : decode cX12_isFinite 190 = .ok (.sipush 129, 3) := by decide +kernel
theorem dX12_isFinite_193 : decode cX12_isFinite 193 = .ok (.if_icmp .ge 32, 3) := by decide +kernel
theorem dX12_isFinite_196 : decode cX12_isFinite 196 = .ok (.aload_n 0, 1) := by decide +kernel
theorem dX12_isFinite_197 : decode cX12_isFinite 197 = .ok (.getfield 96, 3) := by decide +kernel
theorem dX12_isFinite_200 : decode cX12_isFinite 200 = .ok (.iload_n 2, 1) := by decide +kernel
theorem dX12_isFinite_201 : decode cX12_isFinite 201 = .ok (.iaload, 1) := by decide +kernel
theorem dX12_isFinite_202 : decode cX12_isFinite 202 = .ok (.ifCond .le 17, 3) := by decide +kernel
theorem dX12_isFinite_205 : decode cX12_isFinite 205 = .ok (.aload_n 0, 1) := by decide +kernel
theorem dX12_isFinite_206 : decode cX12_isFinite 206 = .ok (.getfield 84, 3) := by decide +kernel
theorem dX12_isFinite_209 : decode cX12_isFinite 209 = .ok (.iload_n 2, 1) := by decide +kernel
theorem dX12_isFinite_210 : decode cX12_isFinite 210 = .ok (.iaload, 1) := by decide +kernel
theorem dX12_isFinite_211 : decode cX12_isFinite 211 = .ok (.sipush 999, 3) := by decide +kernel
theorem dX12_isFinite_214 : decode cX12_isFinite 214 = .ok (.if_icmp .ge 5, 3) := by decide +kernel
theorem dX12_isFinite_217 : decode cX12_isFinite 217 = .ok (.iconst 0, 1) := by decide +kernel
theorem dX12_isFinite_218 : decode cX12_isFinite 218 = .ok (.ireturn, 1) := by decide +kernel
theorem dX12_isFinite_219 : decode cX12_isFinite 219 = .ok (.iinc 2 1, 3) := by decide +kernel
theorem dX12_isFinite_222 : decode cX12_isFinite 222 = .ok (.goto (-33), 3) := by decide +kernel
theorem dX12_isFinite_225 : decode cX12_isFinite 225 = .ok (.iconst 1, 1) := by decide +kernel
theorem dX12_isFinite_226 : decode cX12_isFinite 226 = .ok (.ireturn, 1) := by decide +kernel
theorem dX12_isUniversal_0 : decode cX12_isUniversal 0 = .ok (.aload_n 0, 1) := by decide +kernel
theorem dX12_isUniversal_1 : decode cX12_isUniversal 1 = .ok (.iconst 0, 1) := by decide +kernel
theorem dX12_isUniversal_2 : decode cX12_isUniversal 2 = .ok (.putfield 117, 3) := by decide +kernel
theorem dX12_isUniversal_5 : decode cX12_isUniversal 5 = .ok (.aload_n 0, 1) := by decide +kernel
theorem dX12_isUniversal_6 : decode cX12_isUniversal 6 = .ok (.iload_n 1, 1) := by decide +kernel
theorem dX12_isUniversal_7 : decode cX12_isUniversal 7 = .ok (.invokevirtual 211, 3) := by decide +kernel
theorem dX12_isUniversal_10 : decode cX12_isUniversal 10 = .ok (.ifCond .ne 17, 3) := by decide +kernel
theorem dX12_isUniversal_13 : decode cX12_isUniversal 13 = .ok (.aload_n 0, 1) := by decide +kernel
theorem dX12_isUniversal_14 : decode cX12_isUniversal 14 = .ok (.iconst 1, 1) := by decide +kernel
theorem dX12_isUniversal_15 : decode cX12_isUniversal 15 = .ok (.invokevirtual 196, 3) := by decide +kernel
theorem dX12_isUniversal_18 : decode cX12_isUniversal 18 = .ok (.ifCond .le 7, 3) := by decide +kernel
theorem dX12_isUniversal_21 : decode cX12_isUniversal 21 = .ok (.iconst 1, 1) := by decide +kernel
theorem dX12_isUniversal_22 : decode cX12_isUniversal 22 = .ok (.goto 4, 3) := by decide +kernel
theorem dX12_isUniversal_25 : decode cX12_isUniversal 25 = .ok (.iconst 0, 1) := by decide +kernel
theorem dX12_isUniversal_26 : decode cX12_isUniversal 26 = .ok (.ireturn, 1) := by decide +kernel
theorem dX12_isUniversal_27 : decode cX12_isUniversal 27 = .ok (.aload_n 0, 1) := by decide +kernel
theorem dX12_isUniversal_28 : decode cX12_isUniversal 28 = .ok (.iload_n 1, 1) := by decide +kernel
theorem dX12_isUniversal_29 : decode cX12_isUniversal 29 = .ok (.invokevirtual 292, 3) := by decide +kernel
theorem dX12_isUniversal_32 : decode cX12_isUniversal 32 = .ok (.iconst 0, 1) := by decide +kernel
theorem dX12_isUniversal_33 : decode cX12_isUniversal 33 = .ok (.istore_n 2, 1) := by decide +kernel
theorem dX12_isUniversal_34 : decode cX12_isUniversal 34 = .ok (.iload_n 2, 1) := by decide +kernel
theorem dX12_isUniversal_35 : decode cX12_isUniversal 35 = .ok (.aload_n 0, 1) := by decide +kernel
theorem dX12_isUniversal_36 : decode cX12_isUniversal 36 = .ok (.getfield 274, 3) := by decide +kernel
theorem dX12_isUniversal_39 : decode cX12_isUniversal 39 = .ok (.if_icmp .ge 25, 3) := by decide +kernel
theorem dX12_isUniversal_42 : decode cX12_isUniversal 42 = .ok (.aload_n 0, 1) := by decide +kernel
theorem dX12_isUniversal_43 : decode cX12_isUniversal 43 = .ok (.iconst 0, 1) := by decide +kernel
theorem dX12_isUniversal_44 : decode cX12_isUniversal 44 = .ok (.aload_n 0, 1) := by decide +kernel
theorem dX12_isUniversal_45 : decode cX12_isUniversal 45 = .ok (.getfield 69, 3) := by decide +kernel
theorem dX12_isUniversal_48 : decode cX12_isUniversal 48 = .ok (.iload_n 2, 1) := by decide +kernel
theorem dX12_isUniversal_49 : decode cX12_isUniversal 49 = .ok (.iaload, 1) := by decide +kernel
theorem dX12_isUniversal_50 : decode cX12_isUniversal 50 = .ok (.invokevirtual 286, 3) := by decide +kernel
theorem dX12_isUniversal_53 : decode cX12_isUniversal 53 = .ok (.ifCond .ne 5, 3) := by decide +kernel
theorem dX12_isUniversal_56 : decode cX12_isUniversal 56 = .ok (.iconst 0, 1) := by decide +kernel
theorem dX12_isUniversal_57 : decode cX12_isUniversal 57 = .ok (.ireturn, 1) := by decide +kernel
theorem dX12_isUniversal_58 : decode cX12_isUniversal 58 = .ok (.iinc 2 1, 3) := by decide +kernel
theorem dX12_isUniversal_61 : decode cX12_isUniversal 61 = .ok (.goto (-27), 3) := by decide +kernel
theorem dX12_isUniversal_64 : decode cX12_isUniversal 64 = .ok (.iconst 1, 1) := by decide +kernel
theorem dX12_isUniversal_65 : decode cX12_isUniversal 65 = .ok (.ireturn, 1) := by decide +kernel
theorem dX12_areNot_0 : decode cX12_areNot 0 = .ok (.aload_n 0, 1) := by decide +kernel
theorem dX12_areNot_1 : decode cX12_areNot 1 = .ok (.iconst 0, 1) := by decide +kernel
theorem dX12_areNot_2 : decode cX12_areNot 2 = .ok (.putfield 117, 3) := by decide +kernel
theorem dX12_areNot_5 : decode cX12_areNot 5 = .ok (.aload_n 0, 1) := by decide +kernel
theorem dX12_areNot_6 : decode cX12_areNot 6 = .ok (.iload_n 1, 1) := by decide +kernel
theorem dX12_areNot_7 : decode cX12_areNot 7 = .ok (.invokevirtual 211, 3) := by decide +kernel
theorem dX12_areNot_10 : decode cX12_areNot 10 = .ok (.ifCond .eq 11, 3) := by decide +kernel
theorem dX12_areNot_13 : decode cX12_areNot 13 = .ok (.aload_n 0, 1) := by decide +kernel
theorem dX12_areNot_14 : decode cX12_areNot 14 = .ok (.iload_n 2, 1) := by decide +kernel
theorem dX12_areNot_15 : decode cX12_areNot 15 = .ok (.invokevirtual 211, 3) := by decide +kernel
theorem dX12_areNot_18 : decode cX12_areNot 18 = .ok (.ifCond .ne 15, 3) := by decide +kernel
theorem dX12_areNot_21 : decode cX12_areNot 21 = .ok (.aload_n 0, 1) := by decide +kernel
theorem dX12_areNot_22 : decode cX12_areNot 22 = .ok (.iconst 1, 1) := by decide +kernel
theorem dX12_areNot_23 : decode cX12_areNot 23 = .ok (.invokevirtual 196, 3) := by decide +kernel
theorem dX12_areNot_26 : decode cX12_areNot 26 = .ok (.ifCond .ne 7, 3) := by decide +kernel
theorem dX12_areNot_29 : decode cX12_areNot 29 = .ok (.iconst 1, 1) := by decide +kernel
theorem dX12_areNot_30 : decode cX12_areNot 30 = .ok (.goto 4, 3) := by decide +kernel
theorem dX12_areNot_33 : decode cX12_areNot 33 = .ok (.iconst 0, 1) := by decide +kernel
theorem dX12_areNot_34 : decode cX12_areNot 34 = .ok (.ireturn, 1) := by decide +kernel
theorem dX12_areEquivalent_0 : decode cX12_areEquivalent 0 = .ok (.aload_n 0, 1) := by decide +kernel
theorem dX12_areEquivalent_1 : decode cX12_areEquivalent 1 = .ok (.iload_n 1, 1) := by decide +kernel
theorem dX12_areEquivalent_2 : decode cX12_areEquivalent 2 = .ok (.iload_n 2, 1) := by decide +kernel
theorem dX12_areEquivalent_3 : decode cX12_areEquivalent 3 = .ok (.invokevirtual 352, 3) := by decide +kernel
theorem dX12_areEquivalent_6 : decode cX12_areEquivalent 6 = .ok (.ifCond .eq 5, 3) := by decide +kernel
theorem dX12_areEquivalent_9 : decode cX12_areEquivalent 9 = .ok (.iconst 0, 1) := by decide +kernel
theorem dX12_areEquivalent_10 : decode cX12_areEquivalent 10 = .ok (.ireturn, 1) := by decide +kernel
theorem dX12_areEquivalent_11 : decode cX12_areEquivalent 11 = .ok (.aload_n 0, 1) := by decide +kernel
theorem dX12_areEquivalent_12 : decode cX12_areEquivalent 12 = .ok (.iload_n 1, 1) := by decide +kernel
theorem dX12_areEquivalent_13 : decode cX12_areEquivalent 13 = .ok (.iload_n 2, 1) := by decide +kernel
theorem dX12_areEquivalent_14 : decode cX12_areEquivalent 14 = .ok (.iconst 0, 1) := by decide +kernel
theorem dX12_areEquivalent_15 : decode cX12_areEquivalent 15 = .ok (.invokevirtual 355, 3) := by decide +kernel
theorem dX12_areEquivalent_18 : decode cX12_areEquivalent 18 = .ok (.ifCond .ge 7, 3) := by decide +kernel
theorem dX12_areEquivalent_21 : decode cX12_areEquivalent 21 = .ok (.iconst 1, 1) := by decide +kernel
theorem dX12_areEquivalent_22 : decode cX12_areEquivalent 22 = .ok (.goto 4, 3) := by decide +kernel
theorem dX12_areEquivalent_25 : decode cX12_areEquivalent 25 = .ok (.iconst 0, 1) := by decide +kernel
theorem dX12_areEquivalent_26 : decode cX12_areEquivalent 26 = .ok (.ireturn, 1) := by decide +kernel
theorem dX12_areEquivalentBySmallest_0 : decode cX12_areEquivalentBySmallest 0 = .ok (.aload_n 0, 1) := by decide +kernel
theorem dX12_areEquivalentBySmallest_1 : decode cX12_areEquivalentBySmallest 1 = .ok (.iload_n 1, 1) := by decide +kernel
theorem dX12_areEquivalentBySmallest_2 : decode cX12_areEquivalentBySmallest 2 = .ok (.iload_n 2, 1) := by decide +kernel
theorem dX12_areEquivalentBySmallest_3 : decode cX12_areEquivalentBySmallest 3 = .ok (.invokevirtual 358, 3) := by decide +kernel
theorem dX12_areEquivalentBySmallest_6 : decode cX12_areEquivalentBySmallest 6 = .ok (.ireturn, 1) := by decide +kernel
theorem dX12_isIncluded_0 : decode cX12_isIncluded 0 = .ok (.aload_n 0, 1) := by decide +kernel
theorem dX12_isIncluded_1 : decode cX12_isIncluded 1 = .ok (.iload_n 1, 1) := by decide +kernel
theorem dX12_isIncluded_2 : decode cX12_isIncluded 2 = .ok (.iload_n 2, 1) := by decide +kernel
theorem dX12_isIncluded_3 : decode cX12_isIncluded 3 = .ok (.invokevirtual 352, 3) := by decide +kernel
theorem dX12_isIncluded_6 : decode cX12_isIncluded 6 = .ok (.ifCond .eq 5, 3) := by decide +kernel
theorem dX12_isIncluded_9 : decode cX12_isIncluded 9 = .ok (.iconst 0, 1) := by decide +kernel
theorem dX12_isIncluded_10 : decode cX12_isIncluded 10 = .ok (.ireturn, 1) := by decide +kernel
theorem dX12_isIncluded_11 : decode cX12_isIncluded 11 = .ok (.aload_n 0, 1) := by decide +kernel
theorem dX12_isIncluded_12 : decode cX12_isIncluded 12 = .ok (.iload_n 1, 1) := by decide +kernel
theorem dX12_isIncluded_13 : decode cX12_isIncluded 13 = .ok (.iload_n 2, 1) := by decide +kernel
theorem dX12_isIncluded_14 : decode cX12_isIncluded 14 = .ok (.iconst 1, 1) := by decide +kernel
theorem dX12_isIncluded_15 : decode cX12_isIncluded 15 = .ok (.invokevirtual 355, 3) := by decide +kernel
theorem dX12_isIncluded_18 : decode cX12_isIncluded 18 = .ok (.ifCond .ge 7, 3) := by decide +kernel
theorem dX12_isIncluded_21 : decode cX12_isIncluded 21 = .ok (.iconst 1, 1) := by decide +kernel
theorem dX12_isIncluded_22 : decode cX12_isIncluded 22 = .ok (.goto 4, 3) := by decide +kernel
theorem dX12_isIncluded_25 : decode cX12_isIncluded 25 = .ok (.iconst 0, 1) := by decide +kernel
theorem dX12_isIncluded_26 : decode cX12_isIncluded 26 = .ok (.ireturn, 1) := by decide +kernel
theorem dX12_differenceLength_0 : decode cX12_differenceLength 0 = .ok (.aload_n 0, 1) := by decide +kernel
theorem dX12_differenceLength_1 : decode cX12_differenceLength 1 = .ok (.iload_n 1, 1) := by decide +kernel
theorem dX12_differenceLength_2 : decode cX12_differenceLength 2 = .ok (.iload_n 2, 1) := by decide +kernel
theorem dX12_differenceLength_3 : decode cX12_differenceLength 3 = .ok (.invokevirtual 352, 3) := by decide +kernel
theorem dX12_differenceLength_6 : decode cX12_differenceLength 6 = .ok (.ifCond .eq 5, 3) := by decide +kernel
theorem dX12_differenceLength_9 : decode cX12_differenceLength 9 = .ok (.iconst 0, 1) := by decide +kernel
theorem dX12_differenceLength_10 : decode cX12_differenceLength 10 = .ok (.ireturn, 1) := by decide +kernel
theorem dX12_differenceLength_11 : decode cX12_differenceLength 11 = .ok (.aload_n 0, 1) := by decide +kernel
theorem dX12_differenceLength_12 : decode cX12_differenceLength 12 = .ok (.iload_n 1, 1) := by decide +kernel
theorem dX12_differenceLength_13 : decode cX12_differenceLength 13 = .ok (.iload_n 2, 1) := by decide +kernel
theorem dX12_differenceLength_14 : decode cX12_differenceLength 14 = .ok (.iconst 0, 1) := by decide +kernel
theorem dX12_differenceLength_15 : decode cX12_differenceLength 15 = .ok (.invokevirtual 355, 3) := by decide +kernel
theorem dX12_differenceLength_18 : decode cX12_differenceLength 18 = .ok (.ireturn, 1) := by decide +kernel
theorem dX12_isAhead_0 : decode cX12_isAhead 0 = .ok (.aload_n 0, 1) := by decide +kernel
theorem dX12_isAhead_1 : decode cX12_isAhead 1 = .ok (.getfield 102, 3) := by decide +kernel
theorem dX12_isAhead_4 : decode cX12_isAhead 4 = .ok (.iload_n 1, 1) := by decide +kernel
theorem dX12_isAhead_5 : decode cX12_isAhead 5 = .ok (.iaload, 1) := by decide +kernel
theorem dX12_isAhead_6 : decode cX12_isAhead 6 = .ok (.aload_n 0, 1) := by decide +kernel
theorem dX12_isAhead_7 : decode cX12_isAhead 7 = .ok (.getfield 102, 3) := by decide +kernel
theorem dX12_isAhead_10 : decode cX12_isAhead 10 = .ok (.iload_n 2, 1) := by decide +kernel
theorem dX12_isAhead_11 : decode cX12_isAhead 11 = .ok (.iaload, 1) := by decide +kernel
theorem dX12_isAhead_12 : decode cX12_isAhead 12 = .ok (.if_icmp .eq 24, 3) := by decide +kernel
theorem dX12_isAhead_15 : decode cX12_isAhead 15 = .ok (.aload_n 0, 1) := by decide +kernel
theorem dX12_isAhead_16 : decode cX12_isAhead 16 = .ok (.getfield 102, 3) := by decide +kernel
theorem dX12_isAhead_19 : decode cX12_isAhead 19 = .ok (.iload_n 1, 1) := by decide +kernel
theorem dX12_isAhead_20 : decode cX12_isAhead 20 = .ok (.iaload, 1) := by decide +kernel
theorem dX12_isAhead_21 : decode cX12_isAhead 21 = .ok (.aload_n 0, 1) := by decide +kernel
theorem dX12_isAhead_22 : decode cX12_isAhead 22 = .ok (.getfield 102, 3) := by decide +kernel
theorem dX12_isAhead_25 : decode cX12_isAhead 25 = .ok (.iload_n 2, 1) := by decide +kernel
theorem dX12_isAhead_26 : decode cX12_isAhead 26 = .ok (.iaload, 1) := by decide +kernel
theorem dX12_isAhead_27 : decode cX12_isAhead 27 = .ok (.if_icmp .ge 7, 3) := by decide +kernel
theorem dX12_isAhead_30 : decode cX12_isAhead 30 = .ok (.iconst 1, 1) := by decide +kernel
theorem dX12_isAhead_31 : decode cX12_isAhead 31 = .ok (.goto 4, 3) := by decide +kernel
theorem dX12_isAhead_34 : decode cX12_isAhead 34 = .ok (.iconst 0, 1) := by decide +kernel
theorem dX12_isAhead_35 : decode cX12_isAhead 35 = .ok (.ireturn, 1) := by decide +kernel
theorem dX12_isAhead_36 : decode cX12_isAhead 36 = .ok (.aload_n 0, 1) := by decide +kernel
theorem dX12_isAhead_37 : decode cX12_isAhead 37 = .ok (.iload_n 1, 1) := by decide +kernel
theorem dX12_isAhead_38 : decode cX12_isAhead 38 = .ok (.invokevirtual 319, 3) := by decide +kernel
theorem dX12_isAhead_41 : decode cX12_isAhead 41 = .ok (.aload_n 0, 1) := by decide +kernel
theorem dX12_isAhead_42 : decode cX12_isAhead 42 = .ok (.iload_n 2, 1) := by decide +kernel
theorem dX12_isAhead_43 : decode cX12_isAhead 43 = .ok (.invokevirtual 319, 3) := by decide +kernel
theorem dX12_isAhead_46 : decode cX12_isAhead 46 = .ok (.if_icmp .eq 24, 3) := by decide +kernel
theorem dX12_isAhead_49 : decode cX12_isAhead 49 = .ok (.aload_n 0, 1) := by decide +kernel
theorem dX12_isAhead_50 : decode cX12_isAhead 50 = .ok (.iload_n 1, 1) := by decide +kernel
theorem dX12_isAhead_51 : decode cX12_isAhead 51 = .ok (.invokevirtual 319, 3) := by decide +kernel
theorem dX12_isAhead_54 : decode cX12_isAhead 54 = .ok (.aload_n 0, 1) := by decide +kernel
theorem dX12_isAhead_55 : decode cX12_isAhead 55 = .ok (.iload_n 2, 1) := by decide +kernel
theorem dX12_isAhead_56 : decode cX12_isAhead 56 = .ok (.invokevirtual 319, 3) := by decide +kernel
theorem dX12_isAhead_59 : decode cX12_isAhead 59 = .ok (.if_icmp .ge 7, 3) := by decide +kernel
theorem dX12_isAhead_62 : decode cX12_isAhead 62 = .ok (.iconst 1, 1) := by decide +kernel
theorem dX12_isAhead_63 : decode cX12_isAhead 63 = .ok (.goto 17, 3) := by decide +kernel
theorem dX12_isAhead_66 : decode cX12_isAhead 66 = .ok (.iconst 0, 1) := by decide +kernel
theorem dX12_isAhead_67 : decode cX12_isAhead 67 = .ok (.goto 13, 3) := by decide +kernel
theorem dX12_isAhead_70 : decode cX12_isAhead 70 = .ok (.iload_n 1, 1) := by decide +kernel
theorem dX12_isAhead_71 : decode cX12_isAhead 71 = .ok (.iload_n 2, 1) := by decide +kernel
theorem dX12_isAhead_72 : decode cX12_isAhead 72 = .ok (.if_icmp .ge 7, 3) := by decide +kernel
theorem dX12_isAhead_75 : decode cX12_isAhead 75 = .ok (.iconst 1, 1) := by decide +kernel
theorem dX12_isAhead_76 : decode cX12_isAhead 76 = .ok (.goto 4, 3) := by decide +kernel
theorem dX12_isAhead_79 : decode cX12_isAhead 79 = .ok (.iconst 0, 1) := by decide +kernel
theorem dX12_isAhead_80 : decode cX12_isAhead 80 = .ok (.ireturn, 1) := by decide +kernel
theorem dX12_slotByStates_0 : decode cX12_slotByStates 0 = .ok (.aload_n 0, 1) := by decide +kernel
theorem dX12_slotByStates_1 : decode cX12_slotByStates 1 = .ok (.iconst 0, 1) := by decide +kernel
theorem dX12_slotByStates_2 : decode cX12_slotByStates 2 = .ok (.putfield 117, 3) := by decide +kernel
theorem dX12_slotByStates_5 : decode cX12_slotByStates 5 = .ok (.iconst 0, 1) := by decide +kernel
theorem dX12_slotByStates_6 : decode cX12_slotByStates 6 = .ok (.istore_n 2, 1) := by decide +kernel
theorem dX12_slotByStates_7 : decode cX12_slotByStates 7 = .ok (.iload_n 2, 1) := by decide +kernel
theorem dX12_slotByStates_8 : decode cX12_slotByStates 8 = .ok (.bipush 6, 2) := by decide +kernel
theorem dX12_slotByStates_10 : decode cX12_slotByStates 10 = .ok (.if_icmp .ge 32, 3) := by decide +kernel
theorem dX12_slotByStates_13 : decode cX12_slotByStates 13 = .ok (.aload_n 0, 1) := by decide +kernel
theorem dX12_slotByStates_14 : decode cX12_slotByStates 14 = .ok (.getfield 102, 3) := by decide +kernel
theorem dX12_slotByStates_17 : decode cX12_slotByStates 17 = .ok (.iload_n 2, 1) := by decide +kernel
theorem dX12_slotByStates_18 : decode cX12_slotByStates 18 = .ok (.aload_n 0, 1) := by decide +kernel
theorem dX12_slotByStates_19 : decode cX12_slotByStates 19 = .ok (.iload_n 2, 1) := by decide +kernel
theorem dX12_slotByStates_20 : decode cX12_slotByStates 20 = .ok (.invokevirtual 211, 3) := by decide +kernel
theorem dX12_slotByStates_23 : decode cX12_slotByStates 23 = .ok (.ifCond .eq 11, 3) := by decide +kernel
theorem dX12_slotByStates_26 : decode cX12_slotByStates 26 = .ok (.aload_n 0, 1) := by decide +kernel
theorem dX12_slotByStates_27 : decode cX12_slotByStates 27 = .ok (.iload_n 2, 1) := by decide +kernel
theorem dX12_slotByStates_28 : decode cX12_slotByStates 28 = .ok (.invokevirtual 346, 3) := by decide +kernel
theorem dX12_slotByStates_31 : decode cX12_slotByStates 31 = .ok (.goto 4, 3) := by decide +kernel
theorem dX12_slotByStates_34 : decode cX12_slotByStates 34 = .ok (.iconst 0, 1) := by decide +kernel
theorem dX12_slotByStates_35 : decode cX12_slotByStates 35 = .ok (.iastore, 1) := by decide +kernel
theorem dX12_slotByStates_36 : decode cX12_slotByStates 36 = .ok (.iinc 2 1, 3) := by decide +kernel
theorem dX12_slotByStates_39 : decode cX12_slotByStates 39 = .ok (.goto (-32), 3) := by decide +kernel
theorem dX12_slotByStates_42 : decode cX12_slotByStates 42 = .ok (.iconst 0, 1) := by decide +kernel
theorem dX12_slotByStates_43 : decode cX12_slotByStates 43 = .ok (.istore_n 2, 1) := by decide +kernel
theorem dX12_slotByStates_44 : decode cX12_slotByStates 44 = .ok (.iload_n 2, 1) := by decide +kernel
theorem dX12_slotByStates_45 : decode cX12_slotByStates 45 = .ok (.bipush 6, 2) := by decide +kernel
theorem dX12_slotByStates_47 : decode cX12_slotByStates 47 = .ok (.if_icmp .ge 75, 3) := by decide +kernel
theorem dX12_slotByStates_50 : decode cX12_slotByStates 50 = .ok (.iconst 0, 1) := by decide +kernel
theorem dX12_slotByStates_51 : decode cX12_slotByStates 51 = .ok (.istore_n 3, 1) := by decide +kernel
theorem dX12_slotByStates_52 : decode cX12_slotByStates 52 = .ok (.iconst 0, 1) := by decide +kernel
theorem dX12_slotByStates_53 : decode cX12_slotByStates 53 = .ok (.istore 4, 2) := by decide +kernel
theorem dX12_slotByStates_55 : decode cX12_slotByStates 55 = .ok (.iload 4, 2) := by decide +kernel
theorem dX12_slotByStates_57 : decode cX12_slotByStates 57 = .ok (.bipush 6, 2) := by decide +kernel
theorem dX12_slotByStates_59 : decode cX12_slotByStates 59 = .ok (.if_icmp .ge 42, 3) := by decide +kernel
theorem dX12_slotByStates_62 : decode cX12_slotByStates 62 = .ok (.iload_n 3, 1) := by decide +kernel
theorem dX12_slotByStates_63 : decode cX12_slotByStates 63 = .ok (.iload 4, 2) := by decide +kernel
theorem dX12_slotByStates_65 : decode cX12_slotByStates 65 = .ok (.iload_n 2, 1) := by decide +kernel
theorem dX12_slotByStates_66 : decode cX12_slotByStates 66 = .ok (.if_icmp .eq 26, 3) := by decide +kernel
theorem dX12_slotByStates_69 : decode cX12_slotByStates 69 = .ok (.aload_n 0, 1) := by decide +kernel
theorem dX12_slotByStates_70 : decode cX12_slotByStates 70 = .ok (.iload 4, 2) := by decide +kernel
theorem dX12_slotByStates_72 : decode cX12_slotByStates 72 = .ok (.invokevirtual 211, 3) := by decide +kernel
theorem dX12_slotByStates_75 : decode cX12_slotByStates 75 = .ok (.ifCond .eq 17, 3) := by decide +kernel
theorem dX12_slotByStates_78 : decode cX12_slotByStates 78 = .ok (.aload_n 0, 1) := by decide +kernel
theorem dX12_slotByStates_79 : decode cX12_slotByStates 79 = .ok (.iload 4, 2) := by decide +kernel
theorem dX12_slotByStates_81 : decode cX12_slotByStates 81 = .ok (.iload_n 2, 1) := by decide +kernel
theorem dX12_slotByStates_82 : decode cX12_slotByStates 82 = .ok (.invokevirtual 361, 3) := by decide +kernel
theorem dX12_slotByStates_85 : decode cX12_slotByStates 85 = .ok (.ifCond .eq 7, 3) := by decide +kernel
theorem dX12_slotByStates_88 : decode cX12_slotByStates 88 = .ok (.iconst 1, 1) := by decide +kernel
theorem dX12_slotByStates_89 : decode cX12_slotByStates 89 = .ok (.goto 4, 3) := by decide +kernel
theorem dX12_slotByStates_92 : decode cX12_slotByStates 92 = .ok (.iconst 0, 1) := by decide +kernel
theorem dX12_slotByStates_93 : decode cX12_slotByStates 93 = .ok (.iadd, 1) := by decide +kernel
theorem dX12_slotByStates_94 : decode cX12_slotByStates 94 = .ok (.istore_n 3, 1) := by decide +kernel
theorem dX12_slotByStates_95 : decode cX12_slotByStates 95 = .ok (.iinc 4 1, 3) := by decide +kernel
theorem dX12_slotByStates_98 : decode cX12_slotByStates 98 = .ok (.goto (-43), 3) := by decide +kernel
theorem dX12_slotByStates_101 : decode cX12_slotByStates 101 = .ok (.aload_n 0, 1) := by decide +kernel
theorem dX12_slotByStates_102 : decode cX12_slotByStates 102 = .ok (.iload_n 2, 1) := by decide +kernel
theorem dX12_slotByStates_103 : decode cX12_slotByStates 103 = .ok (.invokevirtual 211, 3) := by decide +kernel
theorem dX12_slotByStates_106 : decode cX12_slotByStates 106 = .ok (.ifCond .eq 10, 3) := by decide +kernel
theorem dX12_slotByStates_109 : decode cX12_slotByStates 109 = .ok (.iload_n 3, 1) := by decide +kernel
theorem dX12_slotByStates_110 : decode cX12_slotByStates 110 = .ok (.iload_n 1, 1) := by decide +kernel
theorem dX12_slotByStates_111 : decode cX12_slotByStates 111 = .ok (.if_icmp .ne 5, 3) := by decide +kernel
theorem dX12_slotByStates_114 : decode cX12_slotByStates 114 = .ok (.iload_n 2, 1) := by decide +kernel
theorem dX12_slotByStates_115 : decode cX12_slotByStates 115 = .ok (.ireturn, 1) := by decide +kernel
theorem dX12_slotByStates_116 : decode cX12_slotByStates 116 = .ok (.iinc 2 1, 3) := by decide +kernel
theorem dX12_slotByStates_119 : decode cX12_slotByStates 119 = .ok (.goto (-75), 3) := by decide +kernel
theorem dX12_slotByStates_122 : decode cX12_slotByStates 122 = .ok (.aload_n 0, 1) := by decide +kernel
theorem dX12_slotByStates_123 : decode cX12_slotByStates 123 = .ok (.iconst 1, 1) := by decide +kernel
theorem dX12_slotByStates_124 : decode cX12_slotByStates 124 = .ok (.invokevirtual 196, 3) := by decide +kernel
theorem dX12_slotByStates_127 : decode cX12_slotByStates 127 = .ok (.ireturn, 1) := by decide +kernel
theorem dX12_wordCount_0 : decode cX12_wordCount 0 = .ok (.aload_n 0, 1) := by decide +kernel
theorem dX12_wordCount_1 : decode cX12_wordCount 1 = .ok (.iconst 0, 1) := by decide +kernel
theorem dX12_wordCount_2 : decode cX12_wordCount 2 = .ok (.putfield 117, 3) := by decide +kernel
theorem dX12_wordCount_5 : decode cX12_wordCount 5 = .ok (.aload_n 0, 1) := by decide +kernel
theorem dX12_wordCount_6 : decode cX12_wordCount 6 = .ok (.getfield 7, 3) := by decide +kernel
theorem dX12_wordCount_9 : decode cX12_wordCount 9 = .ok (.iconst 1, 1) := by decide +kernel
theorem dX12_wordCount_10 : decode cX12_wordCount 10 = .ok (.iaload, 1) := by decide +kernel
theorem dX12_wordCount_11 : decode cX12_wordCount 11 = .ok (.ireturn, 1) := by decide +kernel
theorem dX12_wordLength_0 : decode cX12_wordLength 0 = .ok (.aload_n 0, 1) := by decide +kernel
theorem dX12_wordLength_1 : decode cX12_wordLength 1 = .ok (.iconst 0, 1) := by decide +kernel
theorem dX12_wordLength_2 : decode cX12_wordLength 2 = .ok (.putfield 117, 3) := by decide +kernel
theorem dX12_wordLength_5 : decode cX12_wordLength 5 = .ok (.aload_n 0, 1) := by decide +kernel
theorem dX12_wordLength_6 : decode cX12_wordLength 6 = .ok (.iload_n 1, 1) := by decide +kernel
theorem dX12_wordLength_7 : decode cX12_wordLength 7 = .ok (.invokevirtual 250, 3) := by decide +kernel
theorem dX12_wordLength_10 : decode cX12_wordLength 10 = .ok (.ifCond .eq 19, 3) := by decide +kernel
theorem dX12_wordLength_13 : decode cX12_wordLength 13 = .ok (.aload_n 0, 1) := by decide +kernel
theorem dX12_wordLength_14 : decode cX12_wordLength 14 = .ok (.getfield 7, 3) := by decide +kernel
theorem dX12_wordLength_17 : decode cX12_wordLength 17 = .ok (.sipush 176, 3) := by decide +kernel
theorem dX12_wordLength_20 : decode cX12_wordLength 20 = .ok (.bipush 9, 2) := by decide +kernel
theorem dX12_wordLength_22 : decode cX12_wordLength 22 = .ok (.iload_n 1, 1) := by decide +kernel
theorem dX12_wordLength_23 : decode cX12_wordLength 23 = .ok (.imul, 1) := by decide +kernel
theorem dX12_wordLength_24 : decode cX12_wordLength 24 = .ok (.iadd, 1) := by decide +kernel
theorem dX12_wordLength_25 : decode cX12_wordLength 25 = .ok (.iaload, 1) := by decide +kernel
theorem dX12_wordLength_26 : decode cX12_wordLength 26 = .ok (.goto 8, 3) := by decide +kernel
theorem dX12_wordLength_29 : decode cX12_wordLength 29 = .ok (.aload_n 0, 1) := by decide +kernel
theorem dX12_wordLength_30 : decode cX12_wordLength 30 = .ok (.iconst 1, 1) := by decide +kernel
theorem dX12_wordLength_31 : decode cX12_wordLength 31 = .ok (.invokevirtual 196, 3) := by decide +kernel
theorem dX12_wordLength_34 : decode cX12_wordLength 34 = .ok (.ireturn, 1) := by decide +kernel
theorem dX12_wordLetter_0 : decode cX12_wordLetter 0 = .ok (.aload_n 0, 1) := by decide +kernel
theorem dX12_wordLetter_1 : decode cX12_wordLetter 1 = .ok (.iconst 0, 1) := by decide +kernel
theorem dX12_wordLetter_2 : decode cX12_wordLetter 2 = .ok (.putfield 117, 3) := by decide +kernel
theorem dX12_wordLetter_5 : decode cX12_wordLetter 5 = .ok (.aload_n 0, 1) := by decide +kernel
theorem dX12_wordLetter_6 : decode cX12_wordLetter 6 = .ok (.iload_n 1, 1) := by decide +kernel
theorem dX12_wordLetter_7 : decode cX12_wordLetter 7 = .ok (.invokevirtual 250, 3) := by decide +kernel
theorem dX12_wordLetter_10 : decode cX12_wordLetter 10 = .ok (.ifCond .eq 48, 3) := by decide +kernel
theorem dX12_wordLetter_13 : decode cX12_wordLetter 13 = .ok (.iload_n 2, 1) := by decide +kernel
theorem dX12_wordLetter_14 : decode cX12_wordLetter 14 = .ok (.iconst 0, 1) := by decide +kernel
theorem dX12_wordLetter_15 : decode cX12_wordLetter 15 = .ok (.aload_n 0, 1) := by decide +kernel
theorem dX12_wordLetter_16 : decode cX12_wordLetter 16 = .ok (.getfield 7, 3) := by decide +kernel
theorem dX12_wordLetter_19 : decode cX12_wordLetter 19 = .ok (.sipush 176, 3) := by decide +kernel
theorem dX12_wordLetter_22 : decode cX12_wordLetter 22 = .ok (.bipush 9, 2) := by decide +kernel
theorem dX12_wordLetter_24 : decode cX12_wordLetter 24 = .ok (.iload_n 1, 1) := by decide +kernel
theorem dX12_wordLetter_25 : decode cX12_wordLetter 25 = .ok (.imul, 1) := by decide +kernel
theorem dX12_wordLetter_26 : decode cX12_wordLetter 26 = .ok (.iadd, 1) := by decide +kernel
theorem dX12_wordLetter_27 : decode cX12_wordLetter 27 = .ok (.iaload, 1) := by decide +kernel
theorem dX12_wordLetter_28 : decode cX12_wordLetter 28 = .ok (.iconst 1, 1) := by decide +kernel
theorem dX12_wordLetter_29 : decode cX12_wordLetter 29 = .ok (.isub, 1) := by decide +kernel
theorem dX12_wordLetter_30 : decode cX12_wordLetter 30 = .ok (.invokestatic 132, 3) := by decide +kernel
theorem dX12_wordLetter_33 : decode cX12_wordLetter 33 = .ok (.ifCond .eq 25, 3) := by decide +kernel
theorem dX12_wordLetter_36 : decode cX12_wordLetter 36 = .ok (.bipush 97, 2) := by decide +kernel
theorem dX12_wordLetter_38 : decode cX12_wordLetter 38 = .ok (.aload_n 0, 1) := by decide +kernel
theorem dX12_wordLetter_39 : decode cX12_wordLetter 39 = .ok (.getfield 7, 3) := by decide +kernel
theorem dX12_wordLetter_42 : decode cX12_wordLetter 42 = .ok (.sipush 176, 3) := by decide +kernel
theorem dX12_wordLetter_45 : decode cX12_wordLetter 45 = .ok (.bipush 9, 2) := by decide +kernel
theorem dX12_wordLetter_47 : decode cX12_wordLetter 47 = .ok (.iload_n 1, 1) := by decide +kernel
theorem dX12_wordLetter_48 : decode cX12_wordLetter 48 = .ok (.imul, 1) := by decide +kernel
theorem dX12_wordLetter_49 : decode cX12_wordLetter 49 = .ok (.iadd, 1) := by decide +kernel
theorem dX12_wordLetter_50 : decode cX12_wordLetter 50 = .ok (.iconst 1, 1) := by decide +kernel
theorem dX12_wordLetter_51 : decode cX12_wordLetter 51 = .ok (.iadd, 1) := by decide +kernel
theorem dX12_wordLetter_52 : decode cX12_wordLetter 52 = .ok (.iload_n 2, 1) := by decide +kernel
theorem dX12_wordLetter_53 : decode cX12_wordLetter 53 = .ok (.iadd, 1) := by decide +kernel
theorem dX12_wordLetter_54 : decode cX12_wordLetter 54 = .ok (.iaload, 1) := by decide +kernel
theorem dX12_wordLetter_55 : decode cX12_wordLetter 55 = .ok (.iadd, 1) := by decide +kernel
theorem dX12_wordLetter_56 : decode cX12_wordLetter 56 = .ok (.i2c, 1) := by decide +kernel
theorem dX12_wordLetter_57 : decode cX12_wordLetter 57 = .ok (.ireturn, 1) := by decide +kernel
theorem dX12_wordLetter_58 : decode cX12_wordLetter 58 = .ok (.aload_n 0, 1) := by decide +kernel
theorem dX12_wordLetter_59 : decode cX12_wordLetter 59 = .ok (.iconst 1, 1) := by decide +kernel
theorem dX12_wordLetter_60 : decode cX12_wordLetter 60 = .ok (.invokevirtual 196, 3) := by decide +kernel
theorem dX12_wordLetter_63 : decode cX12_wordLetter 63 = .ok (.i2c, 1) := by decide +kernel
theorem dX12_wordLetter_64 : decode cX12_wordLetter 64 = .ok (.ireturn, 1) := by decide +kernel
theorem dX12_definedTotal_0 : decode cX12_definedTotal 0 = .ok (.aload_n 0, 1) := by decide +kernel
theorem dX12_definedTotal_1 : decode cX12_definedTotal 1 = .ok (.iconst 0, 1) := by decide +kernel
theorem dX12_definedTotal_2 : decode cX12_definedTotal 2 = .ok (.putfield 117, 3) := by decide +kernel
theorem dX12_definedTotal_5 : decode cX12_definedTotal 5 = .ok (.aload_n 0, 1) := by decide +kernel
theorem dX12_definedTotal_6 : decode cX12_definedTotal 6 = .ok (.getfield 7, 3) := by decide +kernel
theorem dX12_definedTotal_9 : decode cX12_definedTotal 9 = .ok (.iconst 0, 1) := by decide +kernel
theorem dX12_definedTotal_10 : decode cX12_definedTotal 10 = .ok (.iaload, 1) := by decide +kernel
theorem dX12_definedTotal_11 : decode cX12_definedTotal 11 = .ok (.ireturn, 1) := by decide +kernel
theorem dX12_meanLetters_0 : decode cX12_meanLetters 0 = .ok (.aload_n 0, 1) := by decide +kernel
theorem dX12_meanLetters_1 : decode cX12_meanLetters 1 = .ok (.iconst 0, 1) := by decide +kernel
theorem dX12_meanLetters_2 : decode cX12_meanLetters 2 = .ok (.putfield 117, 3) := by decide +kernel
theorem dX12_meanLetters_5 : decode cX12_meanLetters 5 = .ok (.aload_n 0, 1) := by decide +kernel
theorem dX12_meanLetters_6 : decode cX12_meanLetters 6 = .ok (.invokevirtual 227, 3) := by decide +kernel
theorem dX12_meanLetters_9 : decode cX12_meanLetters 9 = .ok (.ifCond .ne 10, 3) := by decide +kernel
theorem dX12_meanLetters_12 : decode cX12_meanLetters 12 = .ok (.aload_n 0, 1) := by decide +kernel
theorem dX12_meanLetters_13 : decode cX12_meanLetters 13 = .ok (.iconst 1, 1) := by decide +kernel
theorem dX12_meanLetters_14 : decode cX12_meanLetters 14 = .ok (.invokevirtual 196, 3) := by decide +kernel
theorem dX12_meanLetters_17 : decode cX12_meanLetters 17 = .ok (.i2d, 1) := by decide +kernel
theorem dX12_meanLetters_18 : decode cX12_meanLetters 18 = .ok (.dreturn, 1) := by decide +kernel
theorem dX12_meanLetters_19 : decode cX12_meanLetters 19 = .ok (.iconst 0, 1) := by decide +kernel
theorem dX12_meanLetters_20 : decode cX12_meanLetters 20 = .ok (.istore_n 1, 1) := by decide +kernel
theorem dX12_meanLetters_21 : decode cX12_meanLetters 21 = .ok (.iconst 0, 1) := by decide +kernel
theorem dX12_meanLetters_22 : decode cX12_meanLetters 22 = .ok (.istore_n 2, 1) := by decide +kernel
theorem dX12_meanLetters_23 : decode cX12_meanLetters 23 = .ok (.iload_n 2, 1) := by decide +kernel
theorem dX12_meanLetters_24 : decode cX12_meanLetters 24 = .ok (.bipush 6, 2) := by decide +kernel
theorem dX12_meanLetters_26 : decode cX12_meanLetters 26 = .ok (.if_icmp .ge 17, 3) := by decide +kernel
theorem dX12_meanLetters_29 : decode cX12_meanLetters 29 = .ok (.iload_n 1, 1) := by decide +kernel
theorem dX12_meanLetters_30 : decode cX12_meanLetters 30 = .ok (.aload_n 0, 1) := by decide +kernel
theorem dX12_meanLetters_31 : decode cX12_meanLetters 31 = .ok (.iload_n 2, 1) := by decide +kernel
theorem dX12_meanLetters_32 : decode cX12_meanLetters 32 = .ok (.invokevirtual 319, 3) := by decide +kernel
theorem dX12_meanLetters_35 : decode cX12_meanLetters 35 = .ok (.iadd, 1) := by decide +kernel
theorem dX12_meanLetters_36 : decode cX12_meanLetters 36 = .ok (.istore_n 1, 1) := by decide +kernel
theorem dX12_meanLetters_37 : decode cX12_meanLetters 37 = .ok (.iinc 2 1, 3) := by decide +kernel
theorem dX12_meanLetters_40 : decode cX12_meanLetters 40 = .ok (.goto (-17), 3) := by decide +kernel
theorem dX12_meanLetters_43 : decode cX12_meanLetters 43 = .ok (.iload_n 1, 1) := by decide +kernel
theorem dX12_meanLetters_44 : decode cX12_meanLetters 44 = .ok (.i2d, 1) := by decide +kernel
theorem dX12_meanLetters_45 : decode cX12_meanLetters 45 = .ok (.aload_n 0, 1) := by decide +kernel
theorem dX12_meanLetters_46 : decode cX12_meanLetters 46 = .ok (.invokevirtual 227, 3) := by decide +kernel
theorem dX12_meanLetters_49 : decode cX12_meanLetters 49 = .ok (.i2d, 1) := by decide +kernel
theorem dX12_meanLetters_50 : decode cX12_meanLetters 50 = .ok (.ddiv, 1) := by decide +kernel
theorem dX12_meanLetters_51 : decode cX12_meanLetters 51 = .ok (.dreturn, 1) := by decide +kernel
theorem dX12_acceptedShare_0 : decode cX12_acceptedShare 0 = .ok (.aload_n 0, 1) := by decide +kernel
theorem dX12_acceptedShare_1 : decode cX12_acceptedShare 1 = .ok (.iconst 0, 1) := by decide +kernel
theorem dX12_acceptedShare_2 : decode cX12_acceptedShare 2 = .ok (.putfield 117, 3) := by decide +kernel
theorem dX12_acceptedShare_5 : decode cX12_acceptedShare 5 = .ok (.aload_n 0, 1) := by decide +kernel
theorem dX12_acceptedShare_6 : decode cX12_acceptedShare 6 = .ok (.iload_n 1, 1) := by decide +kernel
theorem dX12_acceptedShare_7 : decode cX12_acceptedShare 7 = .ok (.invokevirtual 211, 3) := by decide +kernel
theorem dX12_acceptedShare_10 : decode cX12_acceptedShare 10 = .ok (.ifCond .ne 10, 3) := by decide +kernel
theorem dX12_acceptedShare_13 : decode cX12_acceptedShare 13 = .ok (.aload_n 0, 1) := by decide +kernel
theorem dX12_acceptedShare_14 : decode cX12_acceptedShare 14 = .ok (.iconst 1, 1) := by decide +kernel
theorem dX12_acceptedShare_15 : decode cX12_acceptedShare 15 = .ok (.invokevirtual 196, 3) := by decide +kernel
theorem dX12_acceptedShare_18 : decode cX12_acceptedShare 18 = .ok (.i2f, 1) := by decide +kernel
theorem dX12_acceptedShare_19 : decode cX12_acceptedShare 19 = .ok (.freturn, 1) := by decide +kernel
theorem dX12_acceptedShare_20 : decode cX12_acceptedShare 20 = .ok (.aload_n 0, 1) := by decide +kernel
theorem dX12_acceptedShare_21 : decode cX12_acceptedShare 21 = .ok (.getfield 7, 3) := by decide +kernel
theorem dX12_acceptedShare_24 : decode cX12_acceptedShare 24 = .ok (.iconst 1, 1) := by decide +kernel
theorem dX12_acceptedShare_25 : decode cX12_acceptedShare 25 = .ok (.iaload, 1) := by decide +kernel
theorem dX12_acceptedShare_26 : decode cX12_acceptedShare 26 = .ok (.ifCond .ne 12, 3) := by decide +kernel
theorem dX12_acceptedShare_29 : decode cX12_acceptedShare 29 = .ok (.aload_n 0, 1) := by decide +kernel
theorem dX12_acceptedShare_30 : decode cX12_acceptedShare 30 = .ok (.iconst 2, 1) := by decide +kernel
theorem dX12_acceptedShare_31 : decode cX12_acceptedShare 31 = .ok (.invokevirtual 196, 3) := by decide +kernel
theorem dX12_acceptedShare_34 : decode cX12_acceptedShare 34 = .ok (.i2f, 1) := by decide +kernel
theorem dX12_acceptedShare_35 : decode cX12_acceptedShare 35 = .ok (.goto 17, 3) := by decide +kernel
theorem dX12_acceptedShare_38 : decode cX12_acceptedShare 38 = .ok (.aload_n 0, 1) := by decide +kernel
theorem dX12_acceptedShare_39 : decode cX12_acceptedShare 39 = .ok (.iload_n 1, 1) := by decide +kernel
theorem dX12_acceptedShare_40 : decode cX12_acceptedShare 40 = .ok (.invokevirtual 337, 3) := by decide +kernel
theorem dX12_acceptedShare_43 : decode cX12_acceptedShare 43 = .ok (.i2f, 1) := by decide +kernel
theorem dX12_acceptedShare_44 : decode cX12_acceptedShare 44 = .ok (.aload_n 0, 1) := by decide +kernel
theorem dX12_acceptedShare_45 : decode cX12_acceptedShare 45 = .ok (.getfield 7, 3) := by decide +kernel
theorem dX12_acceptedShare_48 : decode cX12_acceptedShare 48 = .ok (.iconst 1, 1) := by decide +kernel
theorem dX12_acceptedShare_49 : decode cX12_acceptedShare 49 = .ok (.iaload, 1) := by decide +kernel
theorem dX12_acceptedShare_50 : decode cX12_acceptedShare 50 = .ok (.i2f, 1) := by decide +kernel
theorem dX12_acceptedShare_51 : decode cX12_acceptedShare 51 = .ok (.fdiv, 1) := by decide +kernel
theorem dX12_acceptedShare_52 : decode cX12_acceptedShare 52 = .ok (.freturn, 1) := by decide +kernel
theorem dX12_isConsistent_0 : decode cX12_isConsistent 0 = .ok (.aload_n 0, 1) := by decide +kernel
theorem dX12_isConsistent_1 : decode cX12_isConsistent 1 = .ok (.iconst 0, 1) := by decide +kernel
theorem dX12_isConsistent_2 : decode cX12_isConsistent 2 = .ok (.putfield 117, 3) := by decide +kernel
theorem dX12_isConsistent_5 : decode cX12_isConsistent 5 = .ok (.aload_n 0, 1) := by decide +kernel
theorem dX12_isConsistent_6 : decode cX12_isConsistent 6 = .ok (.getfield 7, 3) := by decide +kernel
theorem dX12_isConsistent_9 : decode cX12_isConsistent 9 = .ok (.iconst 1, 1) := by decide +kernel
theorem dX12_isConsistent_10 : decode cX12_isConsistent 10 = .ok (.iaload, 1) := by decide +kernel
theorem dX12_isConsistent_11 : decode cX12_isConsistent 11 = .ok (.ifCond .lt 7, 3) := by decide +kernel
theorem dX12_isConsistent_14 : decode cX12_isConsistent 14 = .ok (.iconst 1, 1) := by decide +kernel
theorem dX12_isConsistent_15 : decode cX12_isConsistent 15 = .ok (.goto 4, 3) := by decide +kernel
theorem dX12_isConsistent_18 : decode cX12_isConsistent 18 = .ok (.iconst 0, 1) := by decide +kernel
theorem dX12_isConsistent_19 : decode cX12_isConsistent 19 = .ok (.ireturn, 1) := by decide +kernel
theorem dX12_inserts_0 : decode cX12_inserts 0 = .ok (.aload_n 0, 1) := by decide +kernel
theorem dX12_inserts_1 : decode cX12_inserts 1 = .ok (.getfield 364, 3) := by decide +kernel
theorem dX12_inserts_4 : decode cX12_inserts 4 = .ok (.istore_n 3, 1) := by decide +kernel
theorem dX12_inserts_5 : decode cX12_inserts 5 = .ok (.iload_n 3, 1) := by decide +kernel
theorem dX12_inserts_6 : decode cX12_inserts 6 = .ok (.iload_n 1, 1) := by decide +kernel
theorem dX12_inserts_7 : decode cX12_inserts 7 = .ok (.if_icmp .le 23, 3) := by decide +kernel
theorem dX12_inserts_10 : decode cX12_inserts 10 = .ok (.aload_n 0, 1) := by decide +kernel
theorem dX12_inserts_11 : decode cX12_inserts 11 = .ok (.getfield 105, 3) := by decide +kernel
theorem dX12_inserts_14 : decode cX12_inserts 14 = .ok (.iload_n 3, 1) := by decide +kernel
theorem dX12_inserts_15 : decode cX12_inserts 15 = .ok (.aload_n 0, 1) := by decide +kernel
theorem dX12_inserts_16 : decode cX12_inserts 16 = .ok (.getfield 105, 3) := by decide +kernel
theorem dX12_inserts_19 : decode cX12_inserts 19 = .ok (.iload_n 3, 1) := by decide +kernel
theorem dX12_inserts_20 : decode cX12_inserts 20 = .ok (.iconst 1, 1) := by decide +kernel
theorem dX12_inserts_21 : decode cX12_inserts 21 = .ok (.isub, 1) := by decide +kernel
theorem dX12_inserts_22 : decode cX12_inserts 22 = .ok (.caload, 1) := by decide +kernel
theorem dX12_inserts_23 : decode cX12_inserts 23 = .ok (.castore, 1) := by decide +kernel
theorem dX12_inserts_24 : decode cX12_inserts 24 = .ok (.iinc 3 (-1), 3) := by decide +kernel
theorem dX12_inserts_27 : decode cX12_inserts 27 = .ok (.goto (-22), 3) := by decide +kernel
theorem dX12_inserts_30 : decode cX12_inserts 30 = .ok (.aload_n 0, 1) := by decide +kernel
theorem dX12_inserts_31 : decode cX12_inserts 31 = .ok (.getfield 105, 3) := by decide +kernel
theorem dX12_inserts_34 : decode cX12_inserts 34 = .ok (.iload_n 1, 1) := by decide +kernel
theorem dX12_inserts_35 : decode cX12_inserts 35 = .ok (.iload_n 2, 1) := by decide +kernel
theorem dX12_inserts_36 : decode cX12_inserts 36 = .ok (.i2c, 1) := by decide +kernel
theorem dX12_inserts_37 : decode cX12_inserts 37 = .ok (.castore, 1) := by decide +kernel
theorem dX12_inserts_38 : decode cX12_inserts 38 = .ok (.aload_n 0, 1) := by decide +kernel
theorem dX12_inserts_39 : decode cX12_inserts 39 = .ok (.dup, 1) := by decide +kernel
theorem dX12_inserts_40 : decode cX12_inserts 40 = .ok (.getfield 364, 3) := by decide +kernel
theorem dX12_inserts_43 : decode cX12_inserts 43 = .ok (.iconst 1, 1) := by decide +kernel
theorem dX12_inserts_44 : decode cX12_inserts 44 = .ok (.iadd, 1) := by decide +kernel
theorem dX12_inserts_45 : decode cX12_inserts 45 = .ok (.putfield 364, 3) := by decide +kernel
theorem dX12_inserts_48 : decode cX12_inserts 48 = .ok (.return_, 1) := by decide +kernel
theorem dX12_encloses_0 : decode cX12_encloses 0 = .ok (.aload_n 0, 1) := by decide +kernel
theorem dX12_encloses_1 : decode cX12_encloses 1 = .ok (.iload_n 2, 1) := by decide +kernel
theorem dX12_encloses_2 : decode cX12_encloses 2 = .ok (.bipush 41, 2) := by decide +kernel
theorem dX12_encloses_4 : decode cX12_encloses 4 = .ok (.invokevirtual 367, 3) := by decide +kernel
theorem dX12_encloses_7 : decode cX12_encloses 7 = .ok (.aload_n 0, 1) := by decide +kernel
theorem dX12_encloses_8 : decode cX12_encloses 8 = .ok (.iload_n 1, 1) := by decide +kernel
theorem dX12_encloses_9 : decode cX12_encloses 9 = .ok (.bipush 40, 2) := by decide +kernel
theorem dX12_encloses_11 : decode cX12_encloses 11 = .ok (.invokevirtual 367, 3) := by decide +kernel
theorem dX12_encloses_14 : decode cX12_encloses 14 = .ok (.return_, 1) := by decide +kernel
theorem dX12_writesTwo_0 : decode cX12_writesTwo 0 = .ok (.aload_n 0, 1) := by decide +kernel
theorem dX12_writesTwo_1 : decode cX12_writesTwo 1 = .ok (.dup, 1) := by decide +kernel
theorem dX12_writesTwo_2 : decode cX12_writesTwo 2 = .ok (.getfield 256, 3) := by decide +kernel
theorem dX12_writesTwo_5 : decode cX12_writesTwo 5 = .ok (.iconst 1, 1) := by decide +kernel
theorem dX12_writesTwo_6 : decode cX12_writesTwo 6 = .ok (.isub, 1) := by decide +kernel
theorem dX12_writesTwo_7 : decode cX12_writesTwo 7 = .ok (.putfield 256, 3) := by decide +kernel
theorem dX12_writesTwo_10 : decode cX12_writesTwo 10 = .ok (.aload_n 0, 1) := by decide +kernel
theorem dX12_writesTwo_11 : decode cX12_writesTwo 11 = .ok (.getfield 256, 3) := by decide +kernel
theorem dX12_writesTwo_14 : decode cX12_writesTwo 14 = .ok (.iconst 1, 1) := by decide +kernel
theorem dX12_writesTwo_15 : decode cX12_writesTwo 15 = .ok (.isub, 1) := by decide +kernel
theorem dX12_writesTwo_16 : decode cX12_writesTwo 16 = .ok (.istore_n 2, 1) := by decide +kernel
theorem dX12_writesTwo_17 : decode cX12_writesTwo 17 = .ok (.aload_n 0, 1) := by decide +kernel
theorem dX12_writesTwo_18 : decode cX12_writesTwo 18 = .ok (.getfield 256, 3) := by decide +kernel
theorem dX12_writesTwo_21 : decode cX12_writesTwo 21 = .ok (.istore_n 3, 1) := by decide +kernel
theorem dX12_writesTwo_22 : decode cX12_writesTwo 22 = .ok (.iload_n 1, 1) := by decide +kernel
theorem dX12_writesTwo_23 : decode cX12_writesTwo 23 = .ok (.iconst 5, 1) := by decide +kernel
theorem dX12_writesTwo_24 : decode cX12_writesTwo 24 = .ok (.if_icmp .ne 23, 3) := by decide +kernel
theorem dX12_writesTwo_27 : decode cX12_writesTwo 27 = .ok (.aload_n 0, 1) := by decide +kernel
theorem dX12_writesTwo_28 : decode cX12_writesTwo 28 = .ok (.aload_n 0, 1) := by decide +kernel
theorem dX12_writesTwo_29 : decode cX12_writesTwo 29 = .ok (.getfield 108, 3) := by decide +kernel
theorem dX12_writesTwo_32 : decode cX12_writesTwo 32 = .ok (.iload_n 3, 1) := by decide +kernel
theorem dX12_writesTwo_33 : decode cX12_writesTwo 33 = .ok (.iaload, 1) := by decide +kernel
theorem dX12_writesTwo_34 : decode cX12_writesTwo 34 = .ok (.bipush 124, 2) := by decide +kernel
theorem dX12_writesTwo_36 : decode cX12_writesTwo 36 = .ok (.invokevirtual 367, 3) := by decide +kernel
theorem dX12_writesTwo_39 : decode cX12_writesTwo 39 = .ok (.aload_n 0, 1) := by decide +kernel
theorem dX12_writesTwo_40 : decode cX12_writesTwo 40 = .ok (.getfield 111, 3) := by decide +kernel
theorem dX12_writesTwo_43 : decode cX12_writesTwo 43 = .ok (.iload_n 2, 1) := by decide +kernel
theorem dX12_writesTwo_44 : decode cX12_writesTwo 44 = .ok (.iconst 0, 1) := by decide +kernel
theorem dX12_writesTwo_45 : decode cX12_writesTwo 45 = .ok (.iastore, 1) := by decide +kernel
theorem dX12_writesTwo_46 : decode cX12_writesTwo 46 = .ok (.return_, 1) := by decide +kernel
theorem dX12_writesTwo_47 : decode cX12_writesTwo 47 = .ok (.aload_n 0, 1) := by decide +kernel
theorem dX12_writesTwo_48 : decode cX12_writesTwo 48 = .ok (.getfield 111, 3) := by decide +kernel
theorem dX12_writesTwo_51 : decode cX12_writesTwo 51 = .ok (.iload_n 3, 1) := by decide +kernel
theorem dX12_writesTwo_52 : decode cX12_writesTwo 52 = .ok (.iaload, 1) := by decide +kernel
theorem dX12_writesTwo_53 : decode cX12_writesTwo 53 = .ok (.ifCond .ne 17, 3) := by decide +kernel
theorem dX12_writesTwo_56 : decode cX12_writesTwo 56 = .ok (.aload_n 0, 1) := by decide +kernel
theorem dX12_writesTwo_57 : decode cX12_writesTwo 57 = .ok (.aload_n 0, 1) := by decide +kernel
theorem dX12_writesTwo_58 : decode cX12_writesTwo 58 = .ok (.getfield 108, 3) := by decide +kernel
theorem dX12_writesTwo_61 : decode cX12_writesTwo 61 = .ok (.iload_n 3, 1) := by decide +kernel
theorem dX12_writesTwo_62 : decode cX12_writesTwo 62 = .ok (.iaload, 1) := by decide +kernel
theorem dX12_writesTwo_63 : decode cX12_writesTwo 63 = .ok (.aload_n 0, 1) := by decide +kernel
theorem dX12_writesTwo_64 : decode cX12_writesTwo 64 = .ok (.getfield 364, 3) := by decide +kernel
theorem dX12_writesTwo_67 : decode cX12_writesTwo 67 = .ok (.invokevirtual 370, 3) := by decide +kernel
theorem dX12_writesTwo_70 : decode cX12_writesTwo 70 = .ok (.aload_n 0, 1) := by decide +kernel
theorem dX12_writesTwo_71 : decode cX12_writesTwo 71 = .ok (.getfield 111, 3) := by decide +kernel
theorem dX12_writesTwo_74 : decode cX12_writesTwo 74 = .ok (.iload_n 2, 1) := by decide +kernel
theorem dX12_writesTwo_75 : decode cX12_writesTwo 75 = .ok (.iaload, 1) := by decide +kernel
theorem dX12_writesTwo_76 : decode cX12_writesTwo 76 = .ok (.ifCond .ne 19, 3) := by decide +kernel
theorem dX12_writesTwo_79 : decode cX12_writesTwo 79 = .ok (.aload_n 0, 1) := by decide +kernel
theorem dX12_writesTwo_80 : decode cX12_writesTwo 80 = .ok (.aload_n 0, 1) := by decide +kernel
theorem dX12_writesTwo_81 : decode cX12_writesTwo 81 = .ok (.getfield 108, 3) := by decide +kernel
theorem dX12_writesTwo_84 : decode cX12_writesTwo 84 = .ok (.iload_n 2, 1) := by decide +kernel
theorem dX12_writesTwo_85 : decode cX12_writesTwo 85 = .ok (.iaload, 1) := by decide +kernel
theorem dX12_writesTwo_86 : decode cX12_writesTwo 86 = .ok (.aload_n 0, 1) := by decide +kernel
theorem dX12_writesTwo_87 : decode cX12_writesTwo 87 = .ok (.getfield 108, 3) := by decide +kernel
theorem dX12_writesTwo_90 : decode cX12_writesTwo 90 = .ok (.iload_n 3, 1) := by decide +kernel
theorem dX12_writesTwo_91 : decode cX12_writesTwo 91 = .ok (.iaload, 1) := by decide +kernel
theorem dX12_writesTwo_92 : decode cX12_writesTwo 92 = .ok (.invokevirtual 370, 3) := by decide +kernel
theorem dX12_writesTwo_95 : decode cX12_writesTwo 95 = .ok (.aload_n 0, 1) := by decide +kernel
theorem dX12_writesTwo_96 : decode cX12_writesTwo 96 = .ok (.getfield 111, 3) := by decide +kernel
theorem dX12_writesTwo_99 : decode cX12_writesTwo 99 = .ok (.iload_n 2, 1) := by decide +kernel
theorem dX12_writesTwo_100 : decode cX12_writesTwo 100 = .ok (.iconst 1, 1) := by decide +kernel
theorem dX12_writesTwo_101 : decode cX12_writesTwo 101 = .ok (.iastore, 1) := by decide +kernel
theorem dX12_writesTwo_102 : decode cX12_writesTwo 102 = .ok (.return_, 1) := by decide +kernel
theorem dX12_writesSign_0 : decode cX12_writesSign 0 = .ok (.aload_n 0, 1) := by decide +kernel
theorem dX12_writesSign_1 : decode cX12_writesSign 1 = .ok (.getfield 111, 3) := by decide +kernel
theorem dX12_writesSign_4 : decode cX12_writesSign 4 = .ok (.aload_n 0, 1) := by decide +kernel
theorem dX12_writesSign_5 : decode cX12_writesSign 5 = .ok (.getfield 256, 3) := by decide +kernel
theorem dX12_writesSign_8 : decode cX12_writesSign 8 = .ok (.iconst 1, 1) := by decide +kernel
theorem dX12_writesSign_9 : decode cX12_writesSign 9 = .ok (.isub, 1) := by decide +kernel
theorem dX12_writesSign_10 : decode cX12_writesSign 10 = .ok (.iaload, 1) := by decide +kernel
theorem dX12_writesSign_11 : decode cX12_writesSign 11 = .ok (.iconst 3, 1) := by decide +kernel
theorem dX12_writesSign_12 : decode cX12_writesSign 12 = .ok (.if_icmp .ge 22, 3) := by decide +kernel
theorem dX12_writesSign_15 : decode cX12_writesSign 15 = .ok (.aload_n 0, 1) := by decide +kernel
theorem dX12_writesSign_16 : decode cX12_writesSign 16 = .ok (.aload_n 0, 1) := by decide +kernel
theorem dX12_writesSign_17 : decode cX12_writesSign 17 = .ok (.getfield 108, 3) := by decide +kernel
theorem dX12_writesSign_20 : decode cX12_writesSign 20 = .ok (.aload_n 0, 1) := by decide +kernel
theorem dX12_writesSign_21 : decode cX12_writesSign 21 = .ok (.getfield 256, 3) := by decide +kernel
theorem dX12_writesSign_24 : decode cX12_writesSign 24 = .ok (.iconst 1, 1) := by decide +kernel
theorem dX12_writesSign_25 : decode cX12_writesSign 25 = .ok (.isub, 1) := by decide +kernel
theorem dX12_writesSign_26 : decode cX12_writesSign 26 = .ok (.iaload, 1) := by decide +kernel
theorem dX12_writesSign_27 : decode cX12_writesSign 27 = .ok (.aload_n 0, 1) := by decide +kernel
theorem dX12_writesSign_28 : decode cX12_writesSign 28 = .ok (.getfield 364, 3) := by decide +kernel
theorem dX12_writesSign_31 : decode cX12_writesSign 31 = .ok (.invokevirtual 370, 3) := by decide +kernel
theorem dX12_writesSign_34 : decode cX12_writesSign 34 = .ok (.aload_n 0, 1) := by decide +kernel
theorem dX12_writesSign_35 : decode cX12_writesSign 35 = .ok (.aload_n 0, 1) := by decide +kernel
theorem dX12_writesSign_36 : decode cX12_writesSign 36 = .ok (.getfield 364, 3) := by decide +kernel
theorem dX12_writesSign_39 : decode cX12_writesSign 39 = .ok (.iload_n 1, 1) := by decide +kernel
theorem dX12_writesSign_40 : decode cX12_writesSign 40 = .ok (.bipush 6, 2) := by decide +kernel
theorem dX12_writesSign_42 : decode cX12_writesSign 42 = .ok (.if_icmp .ne 8, 3) := by decide +kernel
theorem dX12_writesSign_45 : decode cX12_writesSign 45 = .ok (.bipush 42, 2) := by decide +kernel
theorem dX12_writesSign_47 : decode cX12_writesSign 47 = .ok (.goto 16, 3) := by decide +kernel
theorem dX12_writesSign_50 : decode cX12_writesSign 50 = .ok (.iload_n 1, 1) := by decide +kernel
theorem dX12_writesSign_51 : decode cX12_writesSign 51 = .ok (.bipush 7, 2) := by decide +kernel
theorem dX12_writesSign_53 : decode cX12_writesSign 53 = .ok (.if_icmp .ne 8, 3) := by decide +kernel
theorem dX12_writesSign_56 : decode cX12_writesSign 56 = .ok (.bipush 43, 2) := by decide +kernel
theorem dX12_writesSign_58 : decode cX12_writesSign 58 = .ok (.goto 5, 3) := by decide +kernel
theorem dX12_writesSign_61 : decode cX12_writesSign 61 = .ok (.bipush 63, 2) := by decide +kernel
theorem dX12_writesSign_63 : decode cX12_writesSign 63 = .ok (.invokevirtual 367, 3) := by decide +kernel
theorem dX12_writesSign_66 : decode cX12_writesSign 66 = .ok (.aload_n 0, 1) := by decide +kernel
theorem dX12_writesSign_67 : decode cX12_writesSign 67 = .ok (.getfield 111, 3) := by decide +kernel
theorem dX12_writesSign_70 : decode cX12_writesSign 70 = .ok (.aload_n 0, 1) := by decide +kernel
theorem dX12_writesSign_71 : decode cX12_writesSign 71 = .ok (.getfield 256, 3) := by decide +kernel
theorem dX12_writesSign_74 : decode cX12_writesSign 74 = .ok (.iconst 1, 1) := by decide +kernel
theorem dX12_writesSign_75 : decode cX12_writesSign 75 = .ok (.isub, 1) := by decide +kernel
theorem dX12_writesSign_76 : decode cX12_writesSign 76 = .ok (.iconst 2, 1) := by decide +kernel
theorem dX12_writesSign_77 : decode cX12_writesSign 77 = .ok (.iastore, 1) := by decide +kernel
theorem dX12_writesSign_78 : decode cX12_writesSign 78 = .ok (.return_, 1) := by decide +kernel
theorem dX12_formatPattern_0 : decode cX12_formatPattern 0 = .ok (.aload_n 0, 1) := by decide +kernel
theorem dX12_formatPattern_1 : decode cX12_formatPattern 1 = .ok (.iconst 0, 1) := by decide +kernel
theorem dX12_formatPattern_2 : decode cX12_formatPattern 2 = .ok (.putfield 117, 3) := by decide +kernel
theorem dX12_formatPattern_5 : decode cX12_formatPattern 5 = .ok (.aload_n 0, 1) := by decide +kernel
theorem dX12_formatPattern_6 : decode cX12_formatPattern 6 = .ok (.iload_n 1, 1) := by decide +kernel
theorem dX12_formatPattern_7 : decode cX12_formatPattern 7 = .ok (.invokevirtual 211, 3) := by decide +kernel
theorem dX12_formatPattern_10 : decode cX12_formatPattern 10 = .ok (.ifCond .ne 9, 3) := by decide +kernel
theorem dX12_formatPattern_13 : decode cX12_formatPattern 13 = .ok (.aload_n 0, 1) := by decide +kernel
theorem dX12_formatPattern_14 : decode cX12_formatPattern 14 = .ok (.iconst 1, 1) := by decide +kernel
theorem dX12_formatPattern_15 : decode cX12_formatPattern 15 = .ok (.invokevirtual 196, 3) := by decide +kernel
theorem dX12_formatPattern_18 : decode cX12_formatPattern 18 = .ok (.ireturn, 1) := by decide +kernel
theorem dX12_formatPattern_19 : decode cX12_formatPattern 19 = .ok (.aload_n 0, 1) := by decide +kernel
theorem dX12_formatPattern_20 : decode cX12_formatPattern 20 = .ok (.iconst 0, 1) := by decide +kernel
theorem dX12_formatPattern_21 : decode cX12_formatPattern 21 = .ok (.putfield 364, 3) := by decide +kernel
theorem dX12_formatPattern_24 : decode cX12_formatPattern 24 = .ok (.aload_n 0, 1) := by decide +kernel
theorem dX12_formatPattern_25 : decode cX12_formatPattern 25 = .ok (.iconst 0, 1) := by decide +kernel
theorem dX12_formatPattern_26 : decode cX12_formatPattern 26 = .ok (.putfield 256, 3) := by decide +kernel
theorem dX12_formatPattern_29 : decode cX12_formatPattern 29 = .ok (.iconst 0, 1) := by decide +kernel
theorem dX12_formatPattern_30 : decode cX12_formatPattern 30 = .ok (.istore_n 2, 1) := by decide +kernel
theorem dX12_formatPattern_31 : decode cX12_formatPattern 31 = .ok (.iload_n 2, 1) := by decide +kernel
theorem dX12_formatPattern_32 : decode cX12_formatPattern 32 = .ok (.aload_n 0, 1) := by decide +kernel
theorem dX12_formatPattern_33 : decode cX12_formatPattern 33 = .ok (.iload_n 1, 1) := by decide +kernel
theorem dX12_formatPattern_34 : decode cX12_formatPattern 34 = .ok (.invokevirtual 140, 3) := by decide +kernel
theorem dX12_formatPattern_37 : decode cX12_formatPattern 37 = .ok (.if_icmp .ge 89, 3) := by decide +kernel
theorem dX12_formatPattern_40 : decode cX12_formatPattern 40 = .ok (.aload_n 0, 1) := by decide +kernel
theorem dX12_formatPattern_41 : decode cX12_formatPattern 41 = .ok (.iload_n 1, 1) := by decide +kernel
theorem dX12_formatPattern_42 : decode cX12_formatPattern 42 = .ok (.iload_n 2, 1) := by decide +kernel
theorem dX12_formatPattern_43 : decode cX12_formatPattern 43 = .ok (.invokevirtual 147, 3) := by decide +kernel
theorem dX12_formatPattern_46 : decode cX12_formatPattern 46 = .ok (.istore_n 3, 1) := by decide +kernel
theorem dX12_formatPattern_47 : decode cX12_formatPattern 47 = .ok (.iload_n 3, 1) := by decide +kernel
theorem dX12_formatPattern_48 : decode cX12_formatPattern 48 = .ok (.iconst 4, 1) := by decide +kernel
theorem dX12_formatPattern_49 : decode cX12_formatPattern 49 = .ok (.if_icmp .ge 53, 3) := by decide +kernel
theorem dX12_formatPattern_52 : decode cX12_formatPattern 52 = .ok (.aload_n 0, 1) := by decide +kernel
theorem dX12_formatPattern_53 : decode cX12_formatPattern 53 = .ok (.getfield 108, 3) := by decide +kernel
theorem dX12_formatPattern_56 : decode cX12_formatPattern 56 = .ok (.aload_n 0, 1) := by decide +kernel
theorem dX12_formatPattern_57 : decode cX12_formatPattern 57 = .ok (.getfield 256, 3) := by decide +kernel
theorem dX12_formatPattern_60 : decode cX12_formatPattern 60 = .ok (.aload_n 0, 1) := by decide +kernel
theorem dX12_formatPattern_61 : decode cX12_formatPattern 61 = .ok (.getfield 364, 3) := by decide +kernel
theorem dX12_formatPattern_64 : decode cX12_formatPattern 64 = .ok (.iastore, 1) := by decide +kernel
theorem dX12_formatPattern_65 : decode cX12_formatPattern 65 = .ok (.aload_n 0, 1) := by decide +kernel
theorem dX12_formatPattern_66 : decode cX12_formatPattern 66 = .ok (.getfield 111, 3) := by decide +kernel
theorem dX12_formatPattern_69 : decode cX12_formatPattern 69 = .ok (.aload_n 0, 1) := by decide +kernel
theorem dX12_formatPattern_70 : decode cX12_formatPattern 70 = .ok (.getfield 256, 3) := by decide +kernel
theorem dX12_formatPattern_73 : decode cX12_formatPattern 73 = .ok (.iconst 3, 1) := by decide +kernel
theorem dX12_formatPattern_74 : decode cX12_formatPattern 74 = .ok (.iastore, 1) := by decide +kernel
theorem dX12_formatPattern_75 : decode cX12_formatPattern 75 = .ok (.aload_n 0, 1) := by decide +kernel
theorem dX12_formatPattern_76 : decode cX12_formatPattern 76 = .ok (.dup, 1) := by decide +kernel
theorem dX12_formatPattern_77 : decode cX12_formatPattern 77 = .ok (.getfield 256, 3) := by decide +kernel
theorem dX12_formatPattern_80 : decode cX12_formatPattern 80 = .ok (.iconst 1, 1) := by decide +kernel
theorem dX12_formatPattern_81 : decode cX12_formatPattern 81 = .ok (.iadd, 1) := by decide +kernel
theorem dX12_formatPattern_82 : decode cX12_formatPattern 82 = .ok (.putfield 256, 3) := by decide +kernel
theorem dX12_formatPattern_85 : decode cX12_formatPattern 85 = .ok (.aload_n 0, 1) := by decide +kernel
theorem dX12_formatPattern_86 : decode cX12_formatPattern 86 = .ok (.aload_n 0, 1) := by decide +kernel
theorem dX12_formatPattern_87 : decode cX12_formatPattern 87 = .ok (.getfield 364, 3) := by decide +kernel
theorem dX12_formatPattern_90 : decode cX12_formatPattern 90 = .ok (.bipush 97, 2) := by decide +kernel
theorem dX12_formatPattern_92 : decode cX12_formatPattern 92 = .ok (.iload_n 3, 1) := by decide +kernel
theorem dX12_formatPattern_93 : decode cX12_formatPattern 93 = .ok (.iadd, 1) := by decide +kernel
theorem dX12_formatPattern_94 : decode cX12_formatPattern 94 = .ok (.iconst 1, 1) := by decide +kernel
theorem dX12_formatPattern_95 : decode cX12_formatPattern 95 = .ok (.isub, 1) := by decide +kernel
theorem dX12_formatPattern_96 : decode cX12_formatPattern 96 = .ok (.invokevirtual 367, 3) := by decide +kernel
theorem dX12_formatPattern_99 : decode cX12_formatPattern 99 = .ok (.goto 21, 3) := by decide +kernel
theorem dX12_formatPattern_102 : decode cX12_formatPattern 102 = .ok (.iload_n 3, 1) := by decide +kernel
theorem dX12_formatPattern_103 : decode cX12_formatPattern 103 = .ok (.iconst 5, 1) := by decide +kernel
theorem dX12_formatPattern_104 : decode cX12_formatPattern 104 = .ok (.if_icmp .gt 11, 3) := by decide +kernel
theorem dX12_formatPattern_107 : decode cX12_formatPattern 107 = .ok (.aload_n 0, 1) := by decide +kernel
theorem dX12_formatPattern_108 : decode cX12_formatPattern 108 = .ok (.iload_n 3, 1) := by decide +kernel
theorem dX12_formatPattern_109 : decode cX12_formatPattern 109 = .ok (.invokevirtual 373, 3) := by decide +kernel
theorem dX12_formatPattern_112 : decode cX12_formatPattern 112 = .ok (.goto 8, 3) := by decide +kernel
theorem dX12_formatPattern_115 : decode cX12_formatPattern 115 = .ok (.aload_n 0, 1) := by decide +kernel
theorem dX12_formatPattern_116 : decode cX12_formatPattern 116 = .ok (.iload_n 3, 1) := by decide +kernel
theorem dX12_formatPattern_117 : decode cX12_formatPattern 117 = .ok (.invokevirtual 376, 3) := by decide +kernel
theorem dX12_formatPattern_120 : decode cX12_formatPattern 120 = .ok (.iinc 2 1, 3) := by decide +kernel
theorem dX12_formatPattern_123 : decode cX12_formatPattern 123 = .ok (.goto (-92), 3) := by decide +kernel
theorem dX12_formatPattern_126 : decode cX12_formatPattern 126 = .ok (.aload_n 0, 1) := by decide +kernel
theorem dX12_formatPattern_127 : decode cX12_formatPattern 127 = .ok (.getfield 364, 3) := by decide +kernel
theorem dX12_formatPattern_130 : decode cX12_formatPattern 130 = .ok (.ireturn, 1) := by decide +kernel
theorem dX12_formatShortest_0 : decode cX12_formatShortest 0 = .ok (.aload_n 0, 1) := by decide +kernel
theorem dX12_formatShortest_1 : decode cX12_formatShortest 1 = .ok (.iconst 0, 1) := by decide +kernel
theorem dX12_formatShortest_2 : decode cX12_formatShortest 2 = .ok (.putfield 117, 3) := by decide +kernel
theorem dX12_formatShortest_5 : decode cX12_formatShortest 5 = .ok (.aload_n 0, 1) := by decide +kernel
theorem dX12_formatShortest_6 : decode cX12_formatShortest 6 = .ok (.iload_n 1, 1) := by decide +kernel
theorem dX12_formatShortest_7 : decode cX12_formatShortest 7 = .ok (.invokevirtual 211, 3) := by decide +kernel
theorem dX12_formatShortest_10 : decode cX12_formatShortest 10 = .ok (.ifCond .ne 9, 3) := by decide +kernel
theorem dX12_formatShortest_13 : decode cX12_formatShortest 13 = .ok (.aload_n 0, 1) := by decide +kernel
theorem dX12_formatShortest_14 : decode cX12_formatShortest 14 = .ok (.iconst 1, 1) := by decide +kernel
theorem dX12_formatShortest_15 : decode cX12_formatShortest 15 = .ok (.invokevirtual 196, 3) := by decide +kernel
theorem dX12_formatShortest_18 : decode cX12_formatShortest 18 = .ok (.ireturn, 1) := by decide +kernel
theorem dX12_formatShortest_19 : decode cX12_formatShortest 19 = .ok (.aload_n 0, 1) := by decide +kernel
theorem dX12_formatShortest_20 : decode cX12_formatShortest 20 = .ok (.iload_n 1, 1) := by decide +kernel
theorem dX12_formatShortest_21 : decode cX12_formatShortest 21 = .ok (.invokevirtual 292, 3) := by decide +kernel
theorem dX12_formatShortest_24 : decode cX12_formatShortest 24 = .ok (.aload_n 0, 1) := by decide +kernel
theorem dX12_formatShortest_25 : decode cX12_formatShortest 25 = .ok (.invokevirtual 343, 3) := by decide +kernel
theorem dX12_formatShortest_28 : decode cX12_formatShortest 28 = .ok (.aload_n 0, 1) := by decide +kernel
theorem dX12_formatShortest_29 : decode cX12_formatShortest 29 = .ok (.iconst 0, 1) := by decide +kernel
theorem dX12_formatShortest_30 : decode cX12_formatShortest 30 = .ok (.putfield 364, 3) := by decide +kernel
theorem dX12_formatShortest_33 : decode cX12_formatShortest 33 = .ok (.sipush 128, 3) := by decide +kernel
theorem dX12_formatShortest_36 : decode cX12_formatShortest 36 = .ok (.istore_n 2, 1) := by decide +kernel
theorem dX12_formatShortest_37 : decode cX12_formatShortest 37 = .ok (.aload_n 0, 1) := by decide +kernel
theorem dX12_formatShortest_38 : decode cX12_formatShortest 38 = .ok (.getfield 84, 3) := by decide +kernel
theorem dX12_formatShortest_41 : decode cX12_formatShortest 41 = .ok (.iload_n 2, 1) := by decide +kernel
theorem dX12_formatShortest_42 : decode cX12_formatShortest 42 = .ok (.iaload, 1) := by decide +kernel
theorem dX12_formatShortest_43 : decode cX12_formatShortest 43 = .ok (.ifCond .le 57, 3) := by decide +kernel
theorem dX12_formatShortest_46 : decode cX12_formatShortest 46 = .ok (.iconst 0, 1) := by decide +kernel
theorem dX12_formatShortest_47 : decode cX12_formatShortest 47 = .ok (.istore_n 3, 1) := by decide +kernel
theorem dX12_formatShortest_48 : decode cX12_formatShortest 48 = .ok (.aload_n 0, 1) := by decide +kernel
theorem dX12_formatShortest_49 : decode cX12_formatShortest 49 = .ok (.getfield 84, 3) := by decide +kernel
theorem dX12_formatShortest_52 : decode cX12_formatShortest 52 = .ok (.aload_n 0, 1) := by decide +kernel
theorem dX12_formatShortest_53 : decode cX12_formatShortest 53 = .ok (.iconst 0, 1) := by decide +kernel
theorem dX12_formatShortest_54 : decode cX12_formatShortest 54 = .ok (.iload_n 2, 1) := by decide +kernel
theorem dX12_formatShortest_55 : decode cX12_formatShortest 55 = .ok (.iload_n 3, 1) := by decide +kernel
theorem dX12_formatShortest_56 : decode cX12_formatShortest 56 = .ok (.invokevirtual 277, 3) := by decide +kernel
theorem dX12_formatShortest_59 : decode cX12_formatShortest 59 = .ok (.iaload, 1) := by decide +kernel
theorem dX12_formatShortest_60 : decode cX12_formatShortest 60 = .ok (.aload_n 0, 1) := by decide +kernel
theorem dX12_formatShortest_61 : decode cX12_formatShortest 61 = .ok (.getfield 84, 3) := by decide +kernel
theorem dX12_formatShortest_64 : decode cX12_formatShortest 64 = .ok (.iload_n 2, 1) := by decide +kernel
theorem dX12_formatShortest_65 : decode cX12_formatShortest 65 = .ok (.iaload, 1) := by decide +kernel
theorem dX12_formatShortest_66 : decode cX12_formatShortest 66 = .ok (.iconst 1, 1) := by decide +kernel
theorem dX12_formatShortest_67 : decode cX12_formatShortest 67 = .ok (.isub, 1) := by decide +kernel
theorem dX12_formatShortest_68 : decode cX12_formatShortest 68 = .ok (.if_icmp .eq 9, 3) := by decide +kernel
theorem dX12_formatShortest_71 : decode cX12_formatShortest 71 = .ok (.iinc 3 1, 3) := by decide +kernel
theorem dX12_formatShortest_74 : decode cX12_formatShortest 74 = .ok (.goto (-26), 3) := by decide +kernel
theorem dX12_formatShortest_77 : decode cX12_formatShortest 77 = .ok (.aload_n 0, 1) := by decide +kernel
theorem dX12_formatShortest_78 : decode cX12_formatShortest 78 = .ok (.aload_n 0, 1) := by decide +kernel
theorem dX12_formatShortest_79 : decode cX12_formatShortest 79 = .ok (.getfield 364, 3) := by decide +kernel
theorem dX12_formatShortest_82 : decode cX12_formatShortest 82 = .ok (.bipush 97, 2) := by decide +kernel
theorem dX12_formatShortest_84 : decode cX12_formatShortest 84 = .ok (.iload_n 3, 1) := by decide +kernel
theorem dX12_formatShortest_85 : decode cX12_formatShortest 85 = .ok (.iadd, 1) := by decide +kernel
theorem dX12_formatShortest_86 : decode cX12_formatShortest 86 = .ok (.invokevirtual 367, 3) := by decide +kernel
theorem dX12_formatShortest_89 : decode cX12_formatShortest 89 = .ok (.aload_n 0, 1) := by decide +kernel
theorem dX12_formatShortest_90 : decode cX12_formatShortest 90 = .ok (.iconst 0, 1) := by decide +kernel
theorem dX12_formatShortest_91 : decode cX12_formatShortest 91 = .ok (.iload_n 2, 1) := by decide +kernel
theorem dX12_formatShortest_92 : decode cX12_formatShortest 92 = .ok (.iload_n 3, 1) := by decide +kernel
theorem dX12_formatShortest_93 : decode cX12_formatShortest 93 = .ok (.invokevirtual 277, 3) := by decide +kernel
theorem dX12_formatShortest_96 : decode cX12_formatShortest 96 = .ok (.istore_n 2, 1) := by decide +kernel
theorem dX12_formatShortest_97 : decode cX12_formatShortest 97 = .ok (.goto (-60), 3) := by decide +kernel
theorem dX12_formatShortest_100 : decode cX12_formatShortest 100 = .ok (.aload_n 0, 1) := by decide +kernel
theorem dX12_formatShortest_101 : decode cX12_formatShortest 101 = .ok (.getfield 364, 3) := by decide +kernel
theorem dX12_formatShortest_104 : decode cX12_formatShortest 104 = .ok (.ireturn, 1) := by decide +kernel
theorem dX12_formatDifference_0 : decode cX12_formatDifference 0 = .ok (.aload_n 0, 1) := by decide +kernel
theorem dX12_formatDifference_1 : decode cX12_formatDifference 1 = .ok (.iload_n 1, 1) := by decide +kernel
theorem dX12_formatDifference_2 : decode cX12_formatDifference 2 = .ok (.iload_n 2, 1) := by decide +kernel
theorem dX12_formatDifference_3 : decode cX12_formatDifference 3 = .ok (.invokevirtual 352, 3) := by decide +kernel
theorem dX12_formatDifference_6 : decode cX12_formatDifference 6 = .ok (.ifCond .eq 5, 3) := by decide +kernel
theorem dX12_formatDifference_9 : decode cX12_formatDifference 9 = .ok (.iconst 0, 1) := by decide +kernel
theorem dX12_formatDifference_10 : decode cX12_formatDifference 10 = .ok (.ireturn, 1) := by decide +kernel
theorem dX12_formatDifference_11 : decode cX12_formatDifference 11 = .ok (.aload_n 0, 1) := by decide +kernel
theorem dX12_formatDifference_12 : decode cX12_formatDifference 12 = .ok (.iload_n 1, 1) := by decide +kernel
theorem dX12_formatDifference_13 : decode cX12_formatDifference 13 = .ok (.iload_n 2, 1) := by decide +kernel
theorem dX12_formatDifference_14 : decode cX12_formatDifference 14 = .ok (.iconst 0, 1) := by decide +kernel
theorem dX12_formatDifference_15 : decode cX12_formatDifference 15 = .ok (.invokevirtual 355, 3) := by decide +kernel
theorem dX12_formatDifference_18 : decode cX12_formatDifference 18 = .ok (.istore_n 3, 1) := by decide +kernel
theorem dX12_formatDifference_19 : decode cX12_formatDifference 19 = .ok (.aload_n 0, 1) := by decide +kernel
theorem dX12_formatDifference_20 : decode cX12_formatDifference 20 = .ok (.iconst 0, 1) := by decide +kernel
theorem dX12_formatDifference_21 : decode cX12_formatDifference 21 = .ok (.putfield 364, 3) := by decide +kernel
theorem dX12_formatDifference_24 : decode cX12_formatDifference 24 = .ok (.sipush 128, 3) := by decide +kernel
theorem dX12_formatDifference_27 : decode cX12_formatDifference 27 = .ok (.istore 4, 2) := by decide +kernel
theorem dX12_formatDifference_29 : decode cX12_formatDifference 29 = .ok (.sipush 128, 3) := by decide +kernel
theorem dX12_formatDifference_32 : decode cX12_formatDifference 32 = .ok (.istore 5, 2) := by decide +kernel
theorem dX12_formatDifference_34 : decode cX12_formatDifference 34 = .ok (.iload_n 3, 1) := by decide +kernel
theorem dX12_formatDifference_35 : decode cX12_formatDifference 35 = .ok (.ifCond .le 82, 3) := by decide +kernel
theorem dX12_formatDifference_38 : decode cX12_formatDifference 38 = .ok (.iconst 0, 1) := by decide +kernel
theorem dX12_formatDifference_39 : decode cX12_formatDifference 39 = .ok (.istore 6, 2) := by decide +kernel
theorem dX12_formatDifference_41 : decode cX12_formatDifference 41 = .ok (.aload_n 0, 1) := by decide +kernel
theorem dX12_formatDifference_42 : decode cX12_formatDifference 42 = .ok (.aload_n 0, 1) := by decide +kernel
theorem dX12_formatDifference_43 : decode cX12_formatDifference 43 = .ok (.iconst 0, 1) := by decide +kernel
theorem dX12_formatDifference_44 : decode cX12_formatDifference 44 = .ok (.iload 4, 2) := by decide +kernel
theorem dX12_formatDifference_46 : decode cX12_formatDifference 46 = .ok (.iload 6, 2) := by decide +kernel
theorem dX12_formatDifference_48 : decode cX12_formatDifference 48 = .ok (.invokevirtual 277, 3) := by decide +kernel
theorem dX12_formatDifference_51 : decode cX12_formatDifference 51 = .ok (.aload_n 0, 1) := by decide +kernel
theorem dX12_formatDifference_52 : decode cX12_formatDifference 52 = .ok (.iconst 1, 1) := by decide +kernel
theorem dX12_formatDifference_53 : decode cX12_formatDifference 53 = .ok (.iload 5, 2) := by decide +kernel
theorem dX12_formatDifference_55 : decode cX12_formatDifference 55 = .ok (.iload 6, 2) := by decide +kernel
theorem dX12_formatDifference_57 : decode cX12_formatDifference 57 = .ok (.invokevirtual 277, 3) := by decide +kernel
theorem dX12_formatDifference_60 : decode cX12_formatDifference 60 = .ok (.iconst 0, 1) := by decide +kernel
theorem dX12_formatDifference_61 : decode cX12_formatDifference 61 = .ok (.invokevirtual 315, 3) := by decide +kernel
theorem dX12_formatDifference_64 : decode cX12_formatDifference 64 = .ok (.iload_n 3, 1) := by decide +kernel
theorem dX12_formatDifference_65 : decode cX12_formatDifference 65 = .ok (.iconst 1, 1) := by decide +kernel
theorem dX12_formatDifference_66 : decode cX12_formatDifference 66 = .ok (.isub, 1) := by decide +kernel
theorem dX12_formatDifference_67 : decode cX12_formatDifference 67 = .ok (.if_icmp .eq 9, 3) := by decide +kernel
theorem dX12_formatDifference_70 : decode cX12_formatDifference 70 = .ok (.iinc 6 1, 3) := by decide +kernel
theorem dX12_formatDifference_73 : decode cX12_formatDifference 73 = .ok (.goto (-32), 3) := by decide +kernel
theorem dX12_formatDifference_76 : decode cX12_formatDifference 76 = .ok (.aload_n 0, 1) := by decide +kernel
theorem dX12_formatDifference_77 : decode cX12_formatDifference 77 = .ok (.aload_n 0, 1) := by decide +kernel
theorem dX12_formatDifference_78 : decode cX12_formatDifference 78 = .ok (.getfield 364, 3) := by decide +kernel
theorem dX12_formatDifference_81 : decode cX12_formatDifference 81 = .ok (.bipush 97, 2) := by decide +kernel
theorem dX12_formatDifference_83 : decode cX12_formatDifference 83 = .ok (.iload 6, 2) := by decide +kernel
theorem dX12_formatDifference_85 : decode cX12_formatDifference 85 = .ok (.iadd, 1) := by decide +kernel
theorem dX12_formatDifference_86 : decode cX12_formatDifference 86 = .ok (.invokevirtual 367, 3) := by decide +kernel
theorem dX12_formatDifference_89 : decode cX12_formatDifference 89 = .ok (.aload_n 0, 1) := by decide +kernel
theorem dX12_formatDifference_90 : decode cX12_formatDifference 90 = .ok (.iconst 0, 1) := by decide +kernel
theorem dX12_formatDifference_91 : decode cX12_formatDifference 91 = .ok (.iload 4, 2) := by decide +kernel
theorem dX12_formatDifference_93 : decode cX12_formatDifference 93 = .ok (.iload 6, 2) := by decide +kernel
theorem dX12_formatDifference_95 : decode cX12_formatDifference 95 = .ok (.invokevirtual 277, 3) := by decide +kernel
theorem dX12_formatDifference_98 : decode cX12_formatDifference 98 = .ok (.istore 4, 2) := by decide +kernel
theorem dX12_formatDifference_100 : decode cX12_formatDifference 100 = .ok (.aload_n 0, 1) := by decide +kernel
theorem dX12_formatDifference_101 : decode cX12_formatDifference 101 = .ok (.iconst 1, 1) := by decide +kernel
theorem dX12_formatDifference_102 : decode cX12_formatDifference 102 = .ok (.iload 5, 2) := by decide +kernel
theorem dX12_formatDifference_104 : decode cX12_formatDifference 104 = .ok (.iload 6, 2) := by decide +kernel
theorem dX12_formatDifference_106 : decode cX12_formatDifference 106 = .ok (.invokevirtual 277, 3) := by decide +kernel
theorem dX12_formatDifference_109 : decode cX12_formatDifference 109 = .ok (.istore 5, 2) := by decide +kernel
theorem dX12_formatDifference_111 : decode cX12_formatDifference 111 = .ok (.iinc 3 (-1), 3) := by decide +kernel
theorem dX12_formatDifference_114 : decode cX12_formatDifference 114 = .ok (.goto (-80), 3) := by decide +kernel
theorem dX12_formatDifference_117 : decode cX12_formatDifference 117 = .ok (.aload_n 0, 1) := by decide +kernel
theorem dX12_formatDifference_118 : decode cX12_formatDifference 118 = .ok (.getfield 364, 3) := by decide +kernel
theorem dX12_formatDifference_121 : decode cX12_formatDifference 121 = .ok (.ireturn, 1) := by decide +kernel
theorem dX12_lineChar_0 : decode cX12_lineChar 0 = .ok (.aload_n 0, 1) := by decide +kernel
theorem dX12_lineChar_1 : decode cX12_lineChar 1 = .ok (.iconst 0, 1) := by decide +kernel
theorem dX12_lineChar_2 : decode cX12_lineChar 2 = .ok (.putfield 117, 3) := by decide +kernel
theorem dX12_lineChar_5 : decode cX12_lineChar 5 = .ok (.iload_n 1, 1) := by decide +kernel
theorem dX12_lineChar_6 : decode cX12_lineChar 6 = .ok (.iconst 0, 1) := by decide +kernel
theorem dX12_lineChar_7 : decode cX12_lineChar 7 = .ok (.aload_n 0, 1) := by decide +kernel
theorem dX12_lineChar_8 : decode cX12_lineChar 8 = .ok (.getfield 364, 3) := by decide +kernel
theorem dX12_lineChar_11 : decode cX12_lineChar 11 = .ok (.iconst 1, 1) := by decide +kernel
theorem dX12_lineChar_12 : decode cX12_lineChar 12 = .ok (.isub, 1) := by decide +kernel
theorem dX12_lineChar_13 : decode cX12_lineChar 13 = .ok (.invokestatic 132, 3) := by decide +kernel
theorem dX12_lineChar_16 : decode cX12_lineChar 16 = .ok (.ifCond .eq 10, 3) := by decide +kernel
theorem dX12_lineChar_19 : decode cX12_lineChar 19 = .ok (.aload_n 0, 1) := by decide +kernel
theorem dX12_lineChar_20 : decode cX12_lineChar 20 = .ok (.getfield 105, 3) := by decide +kernel
theorem dX12_lineChar_23 : decode cX12_lineChar 23 = .ok (.iload_n 1, 1) := by decide +kernel
theorem dX12_lineChar_24 : decode cX12_lineChar 24 = .ok (.caload, 1) := by decide +kernel
theorem dX12_lineChar_25 : decode cX12_lineChar 25 = .ok (.ireturn, 1) := by decide +kernel
theorem dX12_lineChar_26 : decode cX12_lineChar 26 = .ok (.aload_n 0, 1) := by decide +kernel
theorem dX12_lineChar_27 : decode cX12_lineChar 27 = .ok (.iconst 1, 1) := by decide +kernel
theorem dX12_lineChar_28 : decode cX12_lineChar 28 = .ok (.invokevirtual 196, 3) := by decide +kernel
theorem dX12_lineChar_31 : decode cX12_lineChar 31 = .ok (.i2c, 1) := by decide +kernel
theorem dX12_lineChar_32 : decode cX12_lineChar 32 = .ok (.ireturn, 1) := by decide +kernel
theorem dX12_append_0 : decode cX12_append 0 = .ok (.aload_n 0, 1) := by decide +kernel
theorem dX12_append_1 : decode cX12_append 1 = .ok (.iconst 0, 1) := by decide +kernel
theorem dX12_append_2 : decode cX12_append 2 = .ok (.putfield 117, 3) := by decide +kernel
theorem dX12_append_5 : decode cX12_append 5 = .ok (.iload_n 1, 1) := by decide +kernel
theorem dX12_append_6 : decode cX12_append 6 = .ok (.bipush 32, 2) := by decide +kernel
theorem dX12_append_8 : decode cX12_append 8 = .ok (.bipush 126, 2) := by decide +kernel
theorem dX12_append_10 : decode cX12_append 10 = .ok (.invokestatic 132, 3) := by decide +kernel
theorem dX12_append_13 : decode cX12_append 13 = .ok (.ifCond .ne 9, 3) := by decide +kernel
theorem dX12_append_16 : decode cX12_append 16 = .ok (.aload_n 0, 1) := by decide +kernel
theorem dX12_append_17 : decode cX12_append 17 = .ok (.iconst 1, 1) := by decide +kernel
theorem dX12_append_18 : decode cX12_append 18 = .ok (.invokevirtual 196, 3) := by decide +kernel
theorem dX12_append_21 : decode cX12_append 21 = .ok (.ireturn, 1) := by decide +kernel
theorem dX12_append_22 : decode cX12_append 22 = .ok (.aload_n 0, 1) := by decide +kernel
theorem dX12_append_23 : decode cX12_append 23 = .ok (.getfield 165, 3) := by decide +kernel
theorem dX12_append_26 : decode cX12_append 26 = .ok (.bipush 60, 2) := by decide +kernel
theorem dX12_append_28 : decode cX12_append 28 = .ok (.if_icmp .ne 9, 3) := by decide +kernel
theorem dX12_append_31 : decode cX12_append 31 = .ok (.aload_n 0, 1) := by decide +kernel
theorem dX12_append_32 : decode cX12_append 32 = .ok (.iconst 2, 1) := by decide +kernel
theorem dX12_append_33 : decode cX12_append 33 = .ok (.invokevirtual 196, 3) := by decide +kernel
theorem dX12_append_36 : decode cX12_append 36 = .ok (.ireturn, 1) := by decide +kernel
theorem dX12_append_37 : decode cX12_append 37 = .ok (.aload_n 0, 1) := by decide +kernel
theorem dX12_append_38 : decode cX12_append 38 = .ok (.getfield 25, 3) := by decide +kernel
theorem dX12_append_41 : decode cX12_append 41 = .ok (.aload_n 0, 1) := by decide +kernel
theorem dX12_append_42 : decode cX12_append 42 = .ok (.getfield 165, 3) := by decide +kernel
theorem dX12_append_45 : decode cX12_append 45 = .ok (.iload_n 1, 1) := by decide +kernel
theorem dX12_append_46 : decode cX12_append 46 = .ok (.castore, 1) := by decide +kernel
theorem dX12_append_47 : decode cX12_append 47 = .ok (.aload_n 0, 1) := by decide +kernel
theorem dX12_append_48 : decode cX12_append 48 = .ok (.dup, 1) := by decide +kernel
theorem dX12_append_49 : decode cX12_append 49 = .ok (.getfield 165, 3) := by decide +kernel
theorem dX12_append_52 : decode cX12_append 52 = .ok (.iconst 1, 1) := by decide +kernel
theorem dX12_append_53 : decode cX12_append 53 = .ok (.iadd, 1) := by decide +kernel
theorem dX12_append_54 : decode cX12_append 54 = .ok (.putfield 165, 3) := by decide +kernel
theorem dX12_append_57 : decode cX12_append 57 = .ok (.aload_n 0, 1) := by decide +kernel
theorem dX12_append_58 : decode cX12_append 58 = .ok (.getfield 165, 3) := by decide +kernel
theorem dX12_append_61 : decode cX12_append 61 = .ok (.ireturn, 1) := by decide +kernel
theorem dX12_clearBuffer_0 : decode cX12_clearBuffer 0 = .ok (.aload_n 0, 1) := by decide +kernel
theorem dX12_clearBuffer_1 : decode cX12_clearBuffer 1 = .ok (.iconst 0, 1) := by decide +kernel
theorem dX12_clearBuffer_2 : decode cX12_clearBuffer 2 = .ok (.putfield 117, 3) := by decide +kernel
theorem dX12_clearBuffer_5 : decode cX12_clearBuffer 5 = .ok (.aload_n 0, 1) := by decide +kernel
theorem dX12_clearBuffer_6 : decode cX12_clearBuffer 6 = .ok (.getfield 165, 3) := by decide +kernel
theorem dX12_clearBuffer_9 : decode cX12_clearBuffer 9 = .ok (.istore_n 1, 1) := by decide +kernel
theorem dX12_clearBuffer_10 : decode cX12_clearBuffer 10 = .ok (.aload_n 0, 1) := by decide +kernel
theorem dX12_clearBuffer_11 : decode cX12_clearBuffer 11 = .ok (.iconst 0, 1) := by decide +kernel
theorem dX12_clearBuffer_12 : decode cX12_clearBuffer 12 = .ok (.putfield 165, 3) := by decide +kernel
theorem dX12_clearBuffer_15 : decode cX12_clearBuffer 15 = .ok (.iload_n 1, 1) := by decide +kernel
theorem dX12_clearBuffer_16 : decode cX12_clearBuffer 16 = .ok (.ireturn, 1) := by decide +kernel
theorem dX12_readsDigit_0 : decode cX12_readsDigit 0 = .ok (.aload_n 0, 1) := by decide +kernel
theorem dX12_readsDigit_1 : decode cX12_readsDigit 1 = .ok (.invokevirtual 168, 3) := by decide +kernel
theorem dX12_readsDigit_4 : decode cX12_readsDigit 4 = .ok (.bipush 48, 2) := by decide +kernel
theorem dX12_readsDigit_6 : decode cX12_readsDigit 6 = .ok (.bipush 57, 2) := by decide +kernel
theorem dX12_readsDigit_8 : decode cX12_readsDigit 8 = .ok (.invokestatic 132, 3) := by decide +kernel
theorem dX12_readsDigit_11 : decode cX12_readsDigit 11 = .ok (.ifCond .ne 5, 3) := by decide +kernel
theorem dX12_readsDigit_14 : decode cX12_readsDigit 14 = .ok (.iconst 0, 1) := by decide +kernel
theorem dX12_readsDigit_15 : decode cX12_readsDigit 15 = .ok (.ireturn, 1) := by decide +kernel
theorem dX12_readsDigit_16 : decode cX12_readsDigit 16 = .ok (.aload_n 0, 1) := by decide +kernel
theorem dX12_readsDigit_17 : decode cX12_readsDigit 17 = .ok (.getfield 114, 3) := by decide +kernel
theorem dX12_readsDigit_20 : decode cX12_readsDigit 20 = .ok (.iload_n 1, 1) := by decide +kernel
theorem dX12_readsDigit_21 : decode cX12_readsDigit 21 = .ok (.aload_n 0, 1) := by decide +kernel
theorem dX12_readsDigit_22 : decode cX12_readsDigit 22 = .ok (.invokevirtual 168, 3) := by decide +kernel
theorem dX12_readsDigit_25 : decode cX12_readsDigit 25 = .ok (.bipush 48, 2) := by decide +kernel
theorem dX12_readsDigit_27 : decode cX12_readsDigit 27 = .ok (.isub, 1) := by decide +kernel
theorem dX12_readsDigit_28 : decode cX12_readsDigit 28 = .ok (.iastore, 1) := by decide +kernel
theorem dX12_readsDigit_29 : decode cX12_readsDigit 29 = .ok (.aload_n 0, 1) := by decide +kernel
theorem dX12_readsDigit_30 : decode cX12_readsDigit 30 = .ok (.dup, 1) := by decide +kernel
theorem dX12_readsDigit_31 : decode cX12_readsDigit 31 = .ok (.getfield 162, 3) := by decide +kernel
theorem dX12_readsDigit_34 : decode cX12_readsDigit 34 = .ok (.iconst 1, 1) := by decide +kernel
theorem dX12_readsDigit_35 : decode cX12_readsDigit 35 = .ok (.iadd, 1) := by decide +kernel
theorem dX12_readsDigit_36 : decode cX12_readsDigit 36 = .ok (.putfield 162, 3) := by decide +kernel
theorem dX12_readsDigit_39 : decode cX12_readsDigit 39 = .ok (.iconst 1, 1) := by decide +kernel
theorem dX12_readsDigit_40 : decode cX12_readsDigit 40 = .ok (.ireturn, 1) := by decide +kernel
theorem dX12_readsThree_0 : decode cX12_readsThree 0 = .ok (.aload_n 0, 1) := by decide +kernel
theorem dX12_readsThree_1 : decode cX12_readsThree 1 = .ok (.bipush 32, 2) := by decide +kernel
theorem dX12_readsThree_3 : decode cX12_readsThree 3 = .ok (.invokevirtual 183, 3) := by decide +kernel
theorem dX12_readsThree_6 : decode cX12_readsThree 6 = .ok (.ifCond .eq 49, 3) := by decide +kernel
theorem dX12_readsThree_9 : decode cX12_readsThree 9 = .ok (.aload_n 0, 1) := by decide +kernel
theorem dX12_readsThree_10 : decode cX12_readsThree 10 = .ok (.iconst 0, 1) := by decide +kernel
theorem dX12_readsThree_11 : decode cX12_readsThree 11 = .ok (.invokevirtual 379, 3) := by decide +kernel
theorem dX12_readsThree_14 : decode cX12_readsThree 14 = .ok (.ifCond .eq 41, 3) := by decide +kernel
theorem dX12_readsThree_17 : decode cX12_readsThree 17 = .ok (.aload_n 0, 1) := by decide +kernel
theorem dX12_readsThree_18 : decode cX12_readsThree 18 = .ok (.bipush 61, 2) := by decide +kernel
theorem dX12_readsThree_20 : decode cX12_readsThree 20 = .ok (.invokevirtual 183, 3) := by decide +kernel
theorem dX12_readsThree_23 : decode cX12_readsThree 23 = .ok (.ifCond .eq 32, 3) := by decide +kernel
theorem dX12_readsThree_26 : decode cX12_readsThree 26 = .ok (.aload_n 0, 1) := by decide +kernel
theorem dX12_readsThree_27 : decode cX12_readsThree 27 = .ok (.iconst 1, 1) := by decide +kernel
theorem dX12_readsThree_28 : decode cX12_readsThree 28 = .ok (.invokevirtual 379, 3) := by decide +kernel
theorem dX12_readsThree_31 : decode cX12_readsThree 31 = .ok (.ifCond .eq 24, 3) := by decide +kernel
theorem dX12_readsThree_34 : decode cX12_readsThree 34 = .ok (.aload_n 0, 1) := by decide +kernel
theorem dX12_readsThree_35 : decode cX12_readsThree 35 = .ok (.bipush 44, 2) := by decide +kernel
theorem dX12_readsThree_37 : decode cX12_readsThree 37 = .ok (.invokevirtual 183, 3) := by decide +kernel
theorem dX12_readsThree_40 : decode cX12_readsThree 40 = .ok (.ifCond .eq 15, 3) := by decide +kernel
theorem dX12_readsThree_43 : decode cX12_readsThree 43 = .ok (.aload_n 0, 1) := by decide +kernel
theorem dX12_readsThree_44 : decode cX12_readsThree 44 = .ok (.iconst 2, 1) := by decide +kernel
theorem dX12_readsThree_45 : decode cX12_readsThree 45 = .ok (.invokevirtual 379, 3) := by decide +kernel
theorem dX12_readsThree_48 : decode cX12_readsThree 48 = .ok (.ifCond .eq 7, 3) := by decide +kernel
theorem dX12_readsThree_51 : decode cX12_readsThree 51 = .ok (.iconst 1, 1) := by decide +kernel
theorem dX12_readsThree_52 : decode cX12_readsThree 52 = .ok (.goto 4, 3) := by decide +kernel
theorem dX12_readsThree_55 : decode cX12_readsThree 55 = .ok (.iconst 0, 1) := by decide +kernel
theorem dX12_readsThree_56 : decode cX12_readsThree 56 = .ok (.ireturn, 1) := by decide +kernel
theorem dX12_readsS_0 : decode cX12_readsS 0 = .ok (.aload_n 0, 1) := by decide +kernel
theorem dX12_readsS_1 : decode cX12_readsS 1 = .ok (.bipush 101, 2) := by decide +kernel
theorem dX12_readsS_3 : decode cX12_readsS 3 = .ok (.invokevirtual 183, 3) := by decide +kernel
theorem dX12_readsS_6 : decode cX12_readsS 6 = .ok (.ifCond .eq 51, 3) := by decide +kernel
theorem dX12_readsS_9 : decode cX12_readsS 9 = .ok (.aload_n 0, 1) := by decide +kernel
theorem dX12_readsS_10 : decode cX12_readsS 10 = .ok (.bipush 116, 2) := by decide +kernel
theorem dX12_readsS_12 : decode cX12_readsS 12 = .ok (.invokevirtual 183, 3) := by decide +kernel
theorem dX12_readsS_15 : decode cX12_readsS 15 = .ok (.ifCond .eq 40, 3) := by decide +kernel
theorem dX12_readsS_18 : decode cX12_readsS 18 = .ok (.aload_n 0, 1) := by decide +kernel
theorem dX12_readsS_19 : decode cX12_readsS 19 = .ok (.bipush 32, 2) := by decide +kernel
theorem dX12_readsS_21 : decode cX12_readsS 21 = .ok (.invokevirtual 183, 3) := by decide +kernel
theorem dX12_readsS_24 : decode cX12_readsS 24 = .ok (.ifCond .eq 31, 3) := by decide +kernel
theorem dX12_readsS_27 : decode cX12_readsS 27 = .ok (.aload_n 0, 1) := by decide +kernel
theorem dX12_readsS_28 : decode cX12_readsS 28 = .ok (.iconst 0, 1) := by decide +kernel
theorem dX12_readsS_29 : decode cX12_readsS 29 = .ok (.invokevirtual 379, 3) := by decide +kernel
theorem dX12_readsS_32 : decode cX12_readsS 32 = .ok (.ifCond .eq 23, 3) := by decide +kernel
theorem dX12_readsS_35 : decode cX12_readsS 35 = .ok (.aload_n 0, 1) := by decide +kernel
theorem dX12_readsS_36 : decode cX12_readsS 36 = .ok (.bipush 61, 2) := by decide +kernel
theorem dX12_readsS_38 : decode cX12_readsS 38 = .ok (.invokevirtual 183, 3) := by decide +kernel
theorem dX12_readsS_41 : decode cX12_readsS 41 = .ok (.ifCond .eq 14, 3) := by decide +kernel
theorem dX12_readsS_44 : decode cX12_readsS 44 = .ok (.aload_n 0, 1) := by decide +kernel
theorem dX12_readsS_45 : decode cX12_readsS 45 = .ok (.invokevirtual 199, 3) := by decide +kernel
theorem dX12_readsS_48 : decode cX12_readsS 48 = .ok (.ifCond .eq 7, 3) := by decide +kernel
theorem dX12_readsS_51 : decode cX12_readsS 51 = .ok (.iconst 1, 1) := by decide +kernel
theorem dX12_readsS_52 : decode cX12_readsS 52 = .ok (.goto 4, 3) := by decide +kernel
theorem dX12_readsS_55 : decode cX12_readsS 55 = .ok (.iconst 0, 1) := by decide +kernel
theorem dX12_readsS_56 : decode cX12_readsS 56 = .ok (.ireturn, 1) := by decide +kernel
theorem dX12_readsS_57 : decode cX12_readsS 57 = .ok (.aload_n 0, 1) := by decide +kernel
theorem dX12_readsS_58 : decode cX12_readsS 58 = .ok (.bipush 114, 2) := by decide +kernel
theorem dX12_readsS_60 : decode cX12_readsS 60 = .ok (.putfield 382, 3) := by decide +kernel
theorem dX12_readsS_63 : decode cX12_readsS 63 = .ok (.aload_n 0, 1) := by decide +kernel
theorem dX12_readsS_64 : decode cX12_readsS 64 = .ok (.bipush 116, 2) := by decide +kernel
theorem dX12_readsS_66 : decode cX12_readsS 66 = .ok (.invokevirtual 183, 3) := by decide +kernel
theorem dX12_readsS_69 : decode cX12_readsS 69 = .ok (.ifCond .eq 59, 3) := by decide +kernel
theorem dX12_readsS_72 : decode cX12_readsS 72 = .ok (.aload_n 0, 1) := by decide +kernel
theorem dX12_readsS_73 : decode cX12_readsS 73 = .ok (.bipush 97, 2) := by decide +kernel
theorem dX12_readsS_75 : decode cX12_readsS 75 = .ok (.invokevirtual 183, 3) := by decide +kernel
theorem dX12_readsS_78 : decode cX12_readsS 78 = .ok (.ifCond .eq 50, 3) := by decide +kernel
theorem dX12_readsS_81 : decode cX12_readsS 81 = .ok (.aload_n 0, 1) := by decide +kernel
theorem dX12_readsS_82 : decode cX12_readsS 82 = .ok (.bipush 114, 2) := by decide +kernel
theorem dX12_readsS_84 : decode cX12_readsS 84 = .ok (.invokevirtual 183, 3) := by decide +kernel
theorem dX12_readsS_87 : decode cX12_readsS 87 = .ok (.ifCond .eq 41, 3) := by decide +kernel
theorem dX12_readsS_90 : decode cX12_readsS 90 = .ok (.aload_n 0, 1) := by decide +kernel
theorem dX12_readsS_91 : decode cX12_readsS 91 = .ok (.bipush 32, 2) := by decide +kernel
theorem dX12_readsS_93 : decode cX12_readsS 93 = .ok (.invokevirtual 183, 3) := by decide +kernel
theorem dX12_readsS_96 : decode cX12_readsS 96 = .ok (.ifCond .eq 32, 3) := by decide +kernel
theorem dX12_readsS_99 : decode cX12_readsS 99 = .ok (.aload_n 0, 1) := by decide +kernel
theorem dX12_readsS_100 : decode cX12_readsS 100 = .ok (.iconst 0, 1) := by decide +kernel
theorem dX12_readsS_101 : decode cX12_readsS 101 = .ok (.invokevirtual 379, 3) := by decide +kernel
theorem dX12_readsS_104 : decode cX12_readsS 104 = .ok (.ifCond .eq 24, 3) := by decide +kernel
theorem dX12_readsS_107 : decode cX12_readsS 107 = .ok (.aload_n 0, 1) := by decide +kernel
theorem dX12_readsS_108 : decode cX12_readsS 108 = .ok (.bipush 61, 2) := by decide +kernel
theorem dX12_readsS_110 : decode cX12_readsS 110 = .ok (.invokevirtual 183, 3) := by decide +kernel
theorem dX12_readsS_113 : decode cX12_readsS 113 = .ok (.ifCond .eq 15, 3) := by decide +kernel
theorem dX12_readsS_116 : decode cX12_readsS 116 = .ok (.aload_n 0, 1) := by decide +kernel
theorem dX12_readsS_117 : decode cX12_readsS 117 = .ok (.iconst 1, 1) := by decide +kernel
theorem dX12_readsS_118 : decode cX12_readsS 118 = .ok (.invokevirtual 379, 3) := by decide +kernel
theorem dX12_readsS_121 : decode cX12_readsS 121 = .ok (.ifCond .eq 7, 3) := by decide +kernel
theorem dX12_readsS_124 : decode cX12_readsS 124 = .ok (.iconst 1, 1) := by decide +kernel
theorem dX12_readsS_125 : decode cX12_readsS 125 = .ok (.goto 4, 3) := by decide +kernel
theorem dX12_readsS_128 : decode cX12_readsS 128 = .ok (.iconst 0, 1) := by decide +kernel
theorem dX12_readsS_129 : decode cX12_readsS 129 = .ok (.ireturn, 1) := by decide +kernel
theorem dX12_readsWord_0 : decode cX12_readsWord 0 = .ok (.aload_n 0, 1) := by decide +kernel
theorem dX12_readsWord_1 : decode cX12_readsWord 1 = .ok (.bipush 111, 2) := by decide +kernel
theorem dX12_readsWord_3 : decode cX12_readsWord 3 = .ok (.invokevirtual 183, 3) := by decide +kernel
theorem dX12_readsWord_6 : decode cX12_readsWord 6 = .ok (.ifCond .eq 30, 3) := by decide +kernel
theorem dX12_readsWord_9 : decode cX12_readsWord 9 = .ok (.aload_n 0, 1) := by decide +kernel
theorem dX12_readsWord_10 : decode cX12_readsWord 10 = .ok (.bipush 114, 2) := by decide +kernel
theorem dX12_readsWord_12 : decode cX12_readsWord 12 = .ok (.invokevirtual 183, 3) := by decide +kernel
theorem dX12_readsWord_15 : decode cX12_readsWord 15 = .ok (.ifCond .eq 21, 3) := by decide +kernel
theorem dX12_readsWord_18 : decode cX12_readsWord 18 = .ok (.aload_n 0, 1) := by decide +kernel
theorem dX12_readsWord_19 : decode cX12_readsWord 19 = .ok (.bipush 100, 2) := by decide +kernel
theorem dX12_readsWord_21 : decode cX12_readsWord 21 = .ok (.invokevirtual 183, 3) := by decide +kernel
theorem dX12_readsWord_24 : decode cX12_readsWord 24 = .ok (.ifCond .eq 12, 3) := by decide +kernel
theorem dX12_readsWord_27 : decode cX12_readsWord 27 = .ok (.aload_n 0, 1) := by decide +kernel
theorem dX12_readsWord_28 : decode cX12_readsWord 28 = .ok (.bipush 32, 2) := by decide +kernel
theorem dX12_readsWord_30 : decode cX12_readsWord 30 = .ok (.invokevirtual 183, 3) := by decide +kernel
theorem dX12_readsWord_33 : decode cX12_readsWord 33 = .ok (.ifCond .ne 5, 3) := by decide +kernel
theorem dX12_readsWord_36 : decode cX12_readsWord 36 = .ok (.iconst 0, 1) := by decide +kernel
theorem dX12_readsWord_37 : decode cX12_readsWord 37 = .ok (.ireturn, 1) := by decide +kernel
theorem dX12_readsWord_38 : decode cX12_readsWord 38 = .ok (.aload_n 0, 1) := by decide +kernel
theorem dX12_readsWord_39 : decode cX12_readsWord 39 = .ok (.getfield 162, 3) := by decide +kernel
theorem dX12_readsWord_42 : decode cX12_readsWord 42 = .ok (.istore_n 1, 1) := by decide +kernel
theorem dX12_readsWord_43 : decode cX12_readsWord 43 = .ok (.aload_n 0, 1) := by decide +kernel
theorem dX12_readsWord_44 : decode cX12_readsWord 44 = .ok (.invokevirtual 168, 3) := by decide +kernel
theorem dX12_readsWord_47 : decode cX12_readsWord 47 = .ok (.bipush 97, 2) := by decide +kernel
theorem dX12_readsWord_49 : decode cX12_readsWord 49 = .ok (.bipush 99, 2) := by decide +kernel
theorem dX12_readsWord_51 : decode cX12_readsWord 51 = .ok (.invokestatic 132, 3) := by decide +kernel
theorem dX12_readsWord_54 : decode cX12_readsWord 54 = .ok (.ifCond .eq 16, 3) := by decide +kernel
theorem dX12_readsWord_57 : decode cX12_readsWord 57 = .ok (.aload_n 0, 1) := by decide +kernel
theorem dX12_readsWord_58 : decode cX12_readsWord 58 = .ok (.dup, 1) := by decide +kernel
theorem dX12_readsWord_59 : decode cX12_readsWord 59 = .ok (.getfield 162, 3) := by decide +kernel
theorem dX12_readsWord_62 : decode cX12_readsWord 62 = .ok (.iconst 1, 1) := by decide +kernel
theorem dX12_readsWord_63 : decode cX12_readsWord 63 = .ok (.iadd, 1) := by decide +kernel
theorem dX12_readsWord_64 : decode cX12_readsWord 64 = .ok (.putfield 162, 3) := by decide +kernel
theorem dX12_readsWord_67 : decode cX12_readsWord 67 = .ok (.goto (-24), 3) := by decide +kernel
theorem dX12_readsWord_70 : decode cX12_readsWord 70 = .ok (.aload_n 0, 1) := by decide +kernel
theorem dX12_readsWord_71 : decode cX12_readsWord 71 = .ok (.iload_n 1, 1) := by decide +kernel
theorem dX12_readsWord_72 : decode cX12_readsWord 72 = .ok (.aload_n 0, 1) := by decide +kernel
theorem dX12_readsWord_73 : decode cX12_readsWord 73 = .ok (.getfield 162, 3) := by decide +kernel
theorem dX12_readsWord_76 : decode cX12_readsWord 76 = .ok (.invokevirtual 239, 3) := by decide +kernel
theorem dX12_readsWord_79 : decode cX12_readsWord 79 = .ok (.ifCond .eq 15, 3) := by decide +kernel
theorem dX12_readsWord_82 : decode cX12_readsWord 82 = .ok (.aload_n 0, 1) := by decide +kernel
theorem dX12_readsWord_83 : decode cX12_readsWord 83 = .ok (.getfield 162, 3) := by decide +kernel
theorem dX12_readsWord_86 : decode cX12_readsWord 86 = .ok (.iload_n 1, 1) := by decide +kernel
theorem dX12_readsWord_87 : decode cX12_readsWord 87 = .ok (.if_icmp .le 7, 3) := by decide +kernel
theorem dX12_readsWord_90 : decode cX12_readsWord 90 = .ok (.iconst 1, 1) := by decide +kernel
theorem dX12_readsWord_91 : decode cX12_readsWord 91 = .ok (.goto 4, 3) := by decide +kernel
theorem dX12_readsWord_94 : decode cX12_readsWord 94 = .ok (.iconst 0, 1) := by decide +kernel
theorem dX12_readsWord_95 : decode cX12_readsWord 95 = .ok (.ireturn, 1) := by decide +kernel
theorem dX12_readsCommand_0 : decode cX12_readsCommand 0 = .ok (.aload_n 0, 1) := by decide +kernel
theorem dX12_readsCommand_1 : decode cX12_readsCommand 1 = .ok (.aload_n 0, 1) := by decide +kernel
theorem dX12_readsCommand_2 : decode cX12_readsCommand 2 = .ok (.invokevirtual 168, 3) := by decide +kernel
theorem dX12_readsCommand_5 : decode cX12_readsCommand 5 = .ok (.putfield 382, 3) := by decide +kernel
theorem dX12_readsCommand_8 : decode cX12_readsCommand 8 = .ok (.aload_n 0, 1) := by decide +kernel
theorem dX12_readsCommand_9 : decode cX12_readsCommand 9 = .ok (.bipush 115, 2) := by decide +kernel
theorem dX12_readsCommand_11 : decode cX12_readsCommand 11 = .ok (.invokevirtual 183, 3) := by decide +kernel
theorem dX12_readsCommand_14 : decode cX12_readsCommand 14 = .ok (.ifCond .eq 8, 3) := by decide +kernel
theorem dX12_readsCommand_17 : decode cX12_readsCommand 17 = .ok (.aload_n 0, 1) := by decide +kernel
theorem dX12_readsCommand_18 : decode cX12_readsCommand 18 = .ok (.invokevirtual 385, 3) := by decide +kernel
theorem dX12_readsCommand_21 : decode cX12_readsCommand 21 = .ok (.ireturn, 1) := by decide +kernel
theorem dX12_readsCommand_22 : decode cX12_readsCommand 22 = .ok (.aload_n 0, 1) := by decide +kernel
theorem dX12_readsCommand_23 : decode cX12_readsCommand 23 = .ok (.bipush 111, 2) := by decide +kernel
theorem dX12_readsCommand_25 : decode cX12_readsCommand 25 = .ok (.invokevirtual 183, 3) := by decide +kernel
theorem dX12_readsCommand_28 : decode cX12_readsCommand 28 = .ok (.ifCond .eq 25, 3) := by decide +kernel
theorem dX12_readsCommand_31 : decode cX12_readsCommand 31 = .ok (.aload_n 0, 1) := by decide +kernel
theorem dX12_readsCommand_32 : decode cX12_readsCommand 32 = .ok (.bipush 114, 2) := by decide +kernel
theorem dX12_readsCommand_34 : decode cX12_readsCommand 34 = .ok (.invokevirtual 183, 3) := by decide +kernel
theorem dX12_readsCommand_37 : decode cX12_readsCommand 37 = .ok (.ifCond .eq 14, 3) := by decide +kernel
theorem dX12_readsCommand_40 : decode cX12_readsCommand 40 = .ok (.aload_n 0, 1) := by decide +kernel
theorem dX12_readsCommand_41 : decode cX12_readsCommand 41 = .ok (.invokevirtual 388, 3) := by decide +kernel
theorem dX12_readsCommand_44 : decode cX12_readsCommand 44 = .ok (.ifCond .eq 7, 3) := by decide +kernel
theorem dX12_readsCommand_47 : decode cX12_readsCommand 47 = .ok (.iconst 1, 1) := by decide +kernel
theorem dX12_readsCommand_48 : decode cX12_readsCommand 48 = .ok (.goto 4, 3) := by decide +kernel
theorem dX12_readsCommand_51 : decode cX12_readsCommand 51 = .ok (.iconst 0, 1) := by decide +kernel
theorem dX12_readsCommand_52 : decode cX12_readsCommand 52 = .ok (.ireturn, 1) := by decide +kernel
theorem dX12_readsCommand_53 : decode cX12_readsCommand 53 = .ok (.aload_n 0, 1) := by decide +kernel
theorem dX12_readsCommand_54 : decode cX12_readsCommand 54 = .ok (.bipush 116, 2) := by decide +kernel
theorem dX12_readsCommand_56 : decode cX12_readsCommand 56 = .ok (.invokevirtual 183, 3) := by decide +kernel
theorem dX12_readsCommand_59 : decode cX12_readsCommand 59 = .ok (.ifCond .eq 43, 3) := by decide +kernel
theorem dX12_readsCommand_62 : decode cX12_readsCommand 62 = .ok (.aload_n 0, 1) := by decide +kernel
theorem dX12_readsCommand_63 : decode cX12_readsCommand 63 = .ok (.bipush 104, 2) := by decide +kernel
theorem dX12_readsCommand_65 : decode cX12_readsCommand 65 = .ok (.invokevirtual 183, 3) := by decide +kernel
theorem dX12_readsCommand_68 : decode cX12_readsCommand 68 = .ok (.ifCond .eq 32, 3) := by decide +kernel
theorem dX12_readsCommand_71 : decode cX12_readsCommand 71 = .ok (.aload_n 0, 1) := by decide +kernel
theorem dX12_readsCommand_72 : decode cX12_readsCommand 72 = .ok (.bipush 101, 2) := by decide +kernel
theorem dX12_readsCommand_74 : decode cX12_readsCommand 74 = .ok (.invokevirtual 183, 3) := by decide +kernel
theorem dX12_readsCommand_77 : decode cX12_readsCommand 77 = .ok (.ifCond .eq 23, 3) := by decide +kernel
theorem dX12_readsCommand_80 : decode cX12_readsCommand 80 = .ok (.aload_n 0, 1) := by decide +kernel
theorem dX12_readsCommand_81 : decode cX12_readsCommand 81 = .ok (.bipush 110, 2) := by decide +kernel
theorem dX12_readsCommand_83 : decode cX12_readsCommand 83 = .ok (.invokevirtual 183, 3) := by decide +kernel
theorem dX12_readsCommand_86 : decode cX12_readsCommand 86 = .ok (.ifCond .eq 14, 3) := by decide +kernel
theorem dX12_readsCommand_89 : decode cX12_readsCommand 89 = .ok (.aload_n 0, 1) := by decide +kernel
theorem dX12_readsCommand_90 : decode cX12_readsCommand 90 = .ok (.invokevirtual 388, 3) := by decide +kernel
theorem dX12_readsCommand_93 : decode cX12_readsCommand 93 = .ok (.ifCond .eq 7, 3) := by decide +kernel
theorem dX12_readsCommand_96 : decode cX12_readsCommand 96 = .ok (.iconst 1, 1) := by decide +kernel
theorem dX12_readsCommand_97 : decode cX12_readsCommand 97 = .ok (.goto 4, 3) := by decide +kernel
theorem dX12_readsCommand_100 : decode cX12_readsCommand 100 = .ok (.iconst 0, 1) := by decide +kernel
theorem dX12_readsCommand_101 : decode cX12_readsCommand 101 = .ok (.ireturn, 1) := by decide +kernel
theorem dX12_readsCommand_102 : decode cX12_readsCommand 102 = .ok (.aload_n 0, 1) := by decide +kernel
theorem dX12_readsCommand_103 : decode cX12_readsCommand 103 = .ok (.bipush 100, 2) := by decide +kernel
theorem dX12_readsCommand_105 : decode cX12_readsCommand 105 = .ok (.invokevirtual 183, 3) := by decide +kernel
theorem dX12_readsCommand_108 : decode cX12_readsCommand 108 = .ok (.ifCond .eq 53, 3) := by decide +kernel
theorem dX12_readsCommand_111 : decode cX12_readsCommand 111 = .ok (.aload_n 0, 1) := by decide +kernel
theorem dX12_readsCommand_112 : decode cX12_readsCommand 112 = .ok (.bipush 114, 2) := by decide +kernel
theorem dX12_readsCommand_114 : decode cX12_readsCommand 114 = .ok (.invokevirtual 183, 3) := by decide +kernel
theorem dX12_readsCommand_117 : decode cX12_readsCommand 117 = .ok (.ifCond .eq 42, 3) := by decide +kernel
theorem dX12_readsCommand_120 : decode cX12_readsCommand 120 = .ok (.aload_n 0, 1) := by decide +kernel
theorem dX12_readsCommand_121 : decode cX12_readsCommand 121 = .ok (.bipush 111, 2) := by decide +kernel
theorem dX12_readsCommand_123 : decode cX12_readsCommand 123 = .ok (.invokevirtual 183, 3) := by decide +kernel
theorem dX12_readsCommand_126 : decode cX12_readsCommand 126 = .ok (.ifCond .eq 33, 3) := by decide +kernel
theorem dX12_readsCommand_129 : decode cX12_readsCommand 129 = .ok (.aload_n 0, 1) := by decide +kernel
theorem dX12_readsCommand_130 : decode cX12_readsCommand 130 = .ok (.bipush 112, 2) := by decide +kernel
theorem dX12_readsCommand_132 : decode cX12_readsCommand 132 = .ok (.invokevirtual 183, 3) := by decide +kernel
theorem dX12_readsCommand_135 : decode cX12_readsCommand 135 = .ok (.ifCond .eq 24, 3) := by decide +kernel
theorem dX12_readsCommand_138 : decode cX12_readsCommand 138 = .ok (.aload_n 0, 1) := by decide +kernel
theorem dX12_readsCommand_139 : decode cX12_readsCommand 139 = .ok (.bipush 32, 2) := by decide +kernel
theorem dX12_readsCommand_141 : decode cX12_readsCommand 141 = .ok (.invokevirtual 183, 3) := by decide +kernel
theorem dX12_readsCommand_144 : decode cX12_readsCommand 144 = .ok (.ifCond .eq 15, 3) := by decide +kernel
theorem dX12_readsCommand_147 : decode cX12_readsCommand 147 = .ok (.aload_n 0, 1) := by decide +kernel
theorem dX12_readsCommand_148 : decode cX12_readsCommand 148 = .ok (.iconst 0, 1) := by decide +kernel
theorem dX12_readsCommand_149 : decode cX12_readsCommand 149 = .ok (.invokevirtual 379, 3) := by decide +kernel
theorem dX12_readsCommand_152 : decode cX12_readsCommand 152 = .ok (.ifCond .eq 7, 3) := by decide +kernel
theorem dX12_readsCommand_155 : decode cX12_readsCommand 155 = .ok (.iconst 1, 1) := by decide +kernel
theorem dX12_readsCommand_156 : decode cX12_readsCommand 156 = .ok (.goto 4, 3) := by decide +kernel
theorem dX12_readsCommand_159 : decode cX12_readsCommand 159 = .ok (.iconst 0, 1) := by decide +kernel
theorem dX12_readsCommand_160 : decode cX12_readsCommand 160 = .ok (.ireturn, 1) := by decide +kernel
theorem dX12_readsCommand_161 : decode cX12_readsCommand 161 = .ok (.aload_n 0, 1) := by decide +kernel
theorem dX12_readsCommand_162 : decode cX12_readsCommand 162 = .ok (.bipush 119, 2) := by decide +kernel
theorem dX12_readsCommand_164 : decode cX12_readsCommand 164 = .ok (.invokevirtual 183, 3) := by decide +kernel
theorem dX12_readsCommand_167 : decode cX12_readsCommand 167 = .ok (.ifCond .eq 8, 3) := by decide +kernel
theorem dX12_readsCommand_170 : decode cX12_readsCommand 170 = .ok (.aload_n 0, 1) := by decide +kernel
theorem dX12_readsCommand_171 : decode cX12_readsCommand 171 = .ok (.invokevirtual 391, 3) := by decide +kernel
theorem dX12_readsCommand_174 : decode cX12_readsCommand 174 = .ok (.ireturn, 1) := by decide +kernel
theorem dX12_readsCommand_175 : decode cX12_readsCommand 175 = .ok (.aload_n 0, 1) := by decide +kernel
theorem dX12_readsCommand_176 : decode cX12_readsCommand 176 = .ok (.bipush 99, 2) := by decide +kernel
theorem dX12_readsCommand_178 : decode cX12_readsCommand 178 = .ok (.invokevirtual 183, 3) := by decide +kernel
theorem dX12_readsCommand_181 : decode cX12_readsCommand 181 = .ok (.ifCond .eq 42, 3) := by decide +kernel
theorem dX12_readsCommand_184 : decode cX12_readsCommand 184 = .ok (.aload_n 0, 1) := by decide +kernel
theorem dX12_readsCommand_185 : decode cX12_readsCommand 185 = .ok (.bipush 117, 2) := by decide +kernel
theorem dX12_readsCommand_187 : decode cX12_readsCommand 187 = .ok (.invokevirtual 183, 3) := by decide +kernel
theorem dX12_readsCommand_190 : decode cX12_readsCommand 190 = .ok (.ifCond .eq 33, 3) := by decide +kernel
theorem dX12_readsCommand_193 : decode cX12_readsCommand 193 = .ok (.aload_n 0, 1) := by decide +kernel
theorem dX12_readsCommand_194 : decode cX12_readsCommand 194 = .ok (.bipush 116, 2) := by decide +kernel
theorem dX12_readsCommand_196 : decode cX12_readsCommand 196 = .ok (.invokevirtual 183, 3) := by decide +kernel
theorem dX12_readsCommand_199 : decode cX12_readsCommand 199 = .ok (.ifCond .eq 24, 3) := by decide +kernel
theorem dX12_readsCommand_202 : decode cX12_readsCommand 202 = .ok (.aload_n 0, 1) := by decide +kernel
theorem dX12_readsCommand_203 : decode cX12_readsCommand 203 = .ok (.bipush 32, 2) := by decide +kernel
theorem dX12_readsCommand_205 : decode cX12_readsCommand 205 = .ok (.invokevirtual 183, 3) := by decide +kernel
theorem dX12_readsCommand_208 : decode cX12_readsCommand 208 = .ok (.ifCond .eq 15, 3) := by decide +kernel
theorem dX12_readsCommand_211 : decode cX12_readsCommand 211 = .ok (.aload_n 0, 1) := by decide +kernel
theorem dX12_readsCommand_212 : decode cX12_readsCommand 212 = .ok (.iconst 0, 1) := by decide +kernel
theorem dX12_readsCommand_213 : decode cX12_readsCommand 213 = .ok (.invokevirtual 379, 3) := by decide +kernel
theorem dX12_readsCommand_216 : decode cX12_readsCommand 216 = .ok (.ifCond .eq 7, 3) := by decide +kernel
theorem dX12_readsCommand_219 : decode cX12_readsCommand 219 = .ok (.iconst 1, 1) := by decide +kernel
theorem dX12_readsCommand_220 : decode cX12_readsCommand 220 = .ok (.goto 4, 3) := by decide +kernel
theorem dX12_readsCommand_223 : decode cX12_readsCommand 223 = .ok (.iconst 0, 1) := by decide +kernel
theorem dX12_readsCommand_224 : decode cX12_readsCommand 224 = .ok (.ireturn, 1) := by decide +kernel
theorem dX12_readsAll_0 : decode cX12_readsAll 0 = .ok (.aload_n 0, 1) := by decide +kernel
theorem dX12_readsAll_1 : decode cX12_readsAll 1 = .ok (.iconst 0, 1) := by decide +kernel
theorem dX12_readsAll_2 : decode cX12_readsAll 2 = .ok (.putfield 162, 3) := by decide +kernel
theorem dX12_readsAll_5 : decode cX12_readsAll 5 = .ok (.iconst 1, 1) := by decide +kernel
theorem dX12_readsAll_6 : decode cX12_readsAll 6 = .ok (.istore_n 1, 1) := by decide +kernel
theorem dX12_readsAll_7 : decode cX12_readsAll 7 = .ok (.iload_n 1, 1) := by decide +kernel
theorem dX12_readsAll_8 : decode cX12_readsAll 8 = .ok (.ifCond .eq 22, 3) := by decide +kernel
theorem dX12_readsAll_11 : decode cX12_readsAll 11 = .ok (.aload_n 0, 1) := by decide +kernel
theorem dX12_readsAll_12 : decode cX12_readsAll 12 = .ok (.invokevirtual 394, 3) := by decide +kernel
theorem dX12_readsAll_15 : decode cX12_readsAll 15 = .ok (.ifCond .ne 5, 3) := by decide +kernel
theorem dX12_readsAll_18 : decode cX12_readsAll 18 = .ok (.iconst 0, 1) := by decide +kernel
theorem dX12_readsAll_19 : decode cX12_readsAll 19 = .ok (.ireturn, 1) := by decide +kernel
theorem dX12_readsAll_20 : decode cX12_readsAll 20 = .ok (.aload_n 0, 1) := by decide +kernel
theorem dX12_readsAll_21 : decode cX12_readsAll 21 = .ok (.bipush 59, 2) := by decide +kernel
theorem dX12_readsAll_23 : decode cX12_readsAll 23 = .ok (.invokevirtual 183, 3) := by decide +kernel
theorem dX12_readsAll_26 : decode cX12_readsAll 26 = .ok (.istore_n 1, 1) := by decide +kernel
theorem dX12_readsAll_27 : decode cX12_readsAll 27 = .ok (.goto (-20), 3) := by decide +kernel
theorem dX12_readsAll_30 : decode cX12_readsAll 30 = .ok (.aload_n 0, 1) := by decide +kernel
theorem dX12_readsAll_31 : decode cX12_readsAll 31 = .ok (.getfield 162, 3) := by decide +kernel
theorem dX12_readsAll_34 : decode cX12_readsAll 34 = .ok (.aload_n 0, 1) := by decide +kernel
theorem dX12_readsAll_35 : decode cX12_readsAll 35 = .ok (.getfield 165, 3) := by decide +kernel
theorem dX12_readsAll_38 : decode cX12_readsAll 38 = .ok (.if_icmp .ne 7, 3) := by decide +kernel
theorem dX12_readsAll_41 : decode cX12_readsAll 41 = .ok (.iconst 1, 1) := by decide +kernel
theorem dX12_readsAll_42 : decode cX12_readsAll 42 = .ok (.goto 4, 3) := by decide +kernel
theorem dX12_readsAll_45 : decode cX12_readsAll 45 = .ok (.iconst 0, 1) := by decide +kernel
theorem dX12_readsAll_46 : decode cX12_readsAll 46 = .ok (.ireturn, 1) := by decide +kernel
theorem dX12_notNow_0 : decode cX12_notNow 0 = .ok (.aload_n 0, 1) := by decide +kernel
theorem dX12_notNow_1 : decode cX12_notNow 1 = .ok (.getfield 114, 3) := by decide +kernel
theorem dX12_notNow_4 : decode cX12_notNow 4 = .ok (.iconst 0, 1) := by decide +kernel
theorem dX12_notNow_5 : decode cX12_notNow 5 = .ok (.iaload, 1) := by decide +kernel
theorem dX12_notNow_6 : decode cX12_notNow 6 = .ok (.istore_n 1, 1) := by decide +kernel
theorem dX12_notNow_7 : decode cX12_notNow 7 = .ok (.aload_n 0, 1) := by decide +kernel
theorem dX12_notNow_8 : decode cX12_notNow 8 = .ok (.getfield 114, 3) := by decide +kernel
theorem dX12_notNow_11 : decode cX12_notNow 11 = .ok (.iconst 1, 1) := by decide +kernel
theorem dX12_notNow_12 : decode cX12_notNow 12 = .ok (.iaload, 1) := by decide +kernel
theorem dX12_notNow_13 : decode cX12_notNow 13 = .ok (.istore_n 2, 1) := by decide +kernel
theorem dX12_notNow_14 : decode cX12_notNow 14 = .ok (.aload_n 0, 1) := by decide +kernel
theorem dX12_notNow_15 : decode cX12_notNow 15 = .ok (.getfield 382, 3) := by decide +kernel
theorem dX12_notNow_18 : decode cX12_notNow 18 = .ok (.tableswitch 161 100 119 #[149, 161, 161, 161, 161, 161, 161, 161, 161, 161, 161, 121, 161, 161, 114, 94, 135, 161, 161, 155], 94) := by decide +kernel
theorem dX12_notNow_112 : decode cX12_notNow 112 = .ok (.iload_n 1, 1) := by decide +kernel
theorem dX12_notNow_113 : decode cX12_notNow 113 = .ok (.invokestatic 136, 3) := by decide +kernel
theorem dX12_notNow_116 : decode cX12_notNow 116 = .ok (.ifCond .eq 14, 3) := by decide +kernel
theorem dX12_notNow_119 : decode cX12_notNow 119 = .ok (.aload_n 0, 1) := by decide +kernel
theorem dX12_notNow_120 : decode cX12_notNow 120 = .ok (.invokevirtual 202, 3) := by decide +kernel
theorem dX12_notNow_123 : decode cX12_notNow 123 = .ok (.ifCond .ne 7, 3) := by decide +kernel
theorem dX12_notNow_126 : decode cX12_notNow 126 = .ok (.iconst 0, 1) := by decide +kernel
theorem dX12_notNow_127 : decode cX12_notNow 127 = .ok (.goto 4, 3) := by decide +kernel
theorem dX12_notNow_130 : decode cX12_notNow 130 = .ok (.iconst 1, 1) := by decide +kernel
theorem dX12_notNow_131 : decode cX12_notNow 131 = .ok (.ireturn, 1) := by decide +kernel
theorem dX12_notNow_132 : decode cX12_notNow 132 = .ok (.aload_n 0, 1) := by decide +kernel
theorem dX12_notNow_133 : decode cX12_notNow 133 = .ok (.iload_n 1, 1) := by decide +kernel
theorem dX12_notNow_134 : decode cX12_notNow 134 = .ok (.iload_n 2, 1) := by decide +kernel
theorem dX12_notNow_135 : decode cX12_notNow 135 = .ok (.invokevirtual 224, 3) := by decide +kernel
theorem dX12_notNow_138 : decode cX12_notNow 138 = .ok (.ireturn, 1) := by decide +kernel
theorem dX12_notNow_139 : decode cX12_notNow 139 = .ok (.aload_n 0, 1) := by decide +kernel
theorem dX12_notNow_140 : decode cX12_notNow 140 = .ok (.iload_n 1, 1) := by decide +kernel
theorem dX12_notNow_141 : decode cX12_notNow 141 = .ok (.iload_n 2, 1) := by decide +kernel
theorem dX12_notNow_142 : decode cX12_notNow 142 = .ok (.aload_n 0, 1) := by decide +kernel
theorem dX12_notNow_143 : decode cX12_notNow 143 = .ok (.getfield 114, 3) := by decide +kernel
theorem dX12_notNow_146 : decode cX12_notNow 146 = .ok (.iconst 2, 1) := by decide +kernel
theorem dX12_notNow_147 : decode cX12_notNow 147 = .ok (.iaload, 1) := by decide +kernel
theorem dX12_notNow_148 : decode cX12_notNow 148 = .ok (.iconst 5, 1) := by decide +kernel
theorem dX12_notNow_149 : decode cX12_notNow 149 = .ok (.invokevirtual 217, 3) := by decide +kernel
theorem dX12_notNow_152 : decode cX12_notNow 152 = .ok (.ireturn, 1) := by decide +kernel
theorem dX12_notNow_153 : decode cX12_notNow 153 = .ok (.aload_n 0, 1) := by decide +kernel
theorem dX12_notNow_154 : decode cX12_notNow 154 = .ok (.iload_n 1, 1) := by decide +kernel
theorem dX12_notNow_155 : decode cX12_notNow 155 = .ok (.iload_n 2, 1) := by decide +kernel
theorem dX12_notNow_156 : decode cX12_notNow 156 = .ok (.aload_n 0, 1) := by decide +kernel
theorem dX12_notNow_157 : decode cX12_notNow 157 = .ok (.getfield 114, 3) := by decide +kernel
theorem dX12_notNow_160 : decode cX12_notNow 160 = .ok (.iconst 2, 1) := by decide +kernel
theorem dX12_notNow_161 : decode cX12_notNow 161 = .ok (.iaload, 1) := by decide +kernel
theorem dX12_notNow_162 : decode cX12_notNow 162 = .ok (.iconst 4, 1) := by decide +kernel
theorem dX12_notNow_163 : decode cX12_notNow 163 = .ok (.invokevirtual 217, 3) := by decide +kernel
theorem dX12_notNow_166 : decode cX12_notNow 166 = .ok (.ireturn, 1) := by decide +kernel
theorem dX12_notNow_167 : decode cX12_notNow 167 = .ok (.aload_n 0, 1) := by decide +kernel
theorem dX12_notNow_168 : decode cX12_notNow 168 = .ok (.iload_n 1, 1) := by decide +kernel
theorem dX12_notNow_169 : decode cX12_notNow 169 = .ok (.invokevirtual 230, 3) := by decide +kernel
theorem dX12_notNow_172 : decode cX12_notNow 172 = .ok (.ireturn, 1) := by decide +kernel
theorem dX12_notNow_173 : decode cX12_notNow 173 = .ok (.aload_n 0, 1) := by decide +kernel
theorem dX12_notNow_174 : decode cX12_notNow 174 = .ok (.iconst 1, 1) := by decide +kernel
theorem dX12_notNow_175 : decode cX12_notNow 175 = .ok (.invokevirtual 243, 3) := by decide +kernel
theorem dX12_notNow_178 : decode cX12_notNow 178 = .ok (.ireturn, 1) := by decide +kernel
theorem dX12_notNow_179 : decode cX12_notNow 179 = .ok (.aload_n 0, 1) := by decide +kernel
theorem dX12_notNow_180 : decode cX12_notNow 180 = .ok (.iload_n 1, 1) := by decide +kernel
theorem dX12_notNow_181 : decode cX12_notNow 181 = .ok (.invokevirtual 250, 3) := by decide +kernel
theorem dX12_notNow_184 : decode cX12_notNow 184 = .ok (.ifCond .eq 7, 3) := by decide +kernel
theorem dX12_notNow_187 : decode cX12_notNow 187 = .ok (.iconst 0, 1) := by decide +kernel
theorem dX12_notNow_188 : decode cX12_notNow 188 = .ok (.goto 4, 3) := by decide +kernel
theorem dX12_notNow_191 : decode cX12_notNow 191 = .ok (.iconst 1, 1) := by decide +kernel
theorem dX12_notNow_192 : decode cX12_notNow 192 = .ok (.ireturn, 1) := by decide +kernel
theorem dX12_doesNow_0 : decode cX12_doesNow 0 = .ok (.aload_n 0, 1) := by decide +kernel
theorem dX12_doesNow_1 : decode cX12_doesNow 1 = .ok (.getfield 114, 3) := by decide +kernel
theorem dX12_doesNow_4 : decode cX12_doesNow 4 = .ok (.iconst 0, 1) := by decide +kernel
theorem dX12_doesNow_5 : decode cX12_doesNow 5 = .ok (.iaload, 1) := by decide +kernel
theorem dX12_doesNow_6 : decode cX12_doesNow 6 = .ok (.istore_n 1, 1) := by decide +kernel
theorem dX12_doesNow_7 : decode cX12_doesNow 7 = .ok (.aload_n 0, 1) := by decide +kernel
theorem dX12_doesNow_8 : decode cX12_doesNow 8 = .ok (.getfield 382, 3) := by decide +kernel
theorem dX12_doesNow_11 : decode cX12_doesNow 11 = .ok (.lookupswitch 50 #[(99, 44), (100, 33), (119, 39)], 33) := by decide +kernel
theorem dX12_doesNow_44 : decode cX12_doesNow 44 = .ok (.aload_n 0, 1) := by decide +kernel
theorem dX12_doesNow_45 : decode cX12_doesNow 45 = .ok (.iload_n 1, 1) := by decide +kernel
theorem dX12_doesNow_46 : decode cX12_doesNow 46 = .ok (.invokevirtual 233, 3) := by decide +kernel
theorem dX12_doesNow_49 : decode cX12_doesNow 49 = .ok (.ireturn, 1) := by decide +kernel
theorem dX12_doesNow_50 : decode cX12_doesNow 50 = .ok (.aload_n 0, 1) := by decide +kernel
theorem dX12_doesNow_51 : decode cX12_doesNow 51 = .ok (.invokevirtual 247, 3) := by decide +kernel
theorem dX12_doesNow_54 : decode cX12_doesNow 54 = .ok (.ireturn, 1) := by decide +kernel
theorem dX12_doesNow_55 : decode cX12_doesNow 55 = .ok (.aload_n 0, 1) := by decide +kernel
theorem dX12_doesNow_56 : decode cX12_doesNow 56 = .ok (.iload_n 1, 1) := by decide +kernel
theorem dX12_doesNow_57 : decode cX12_doesNow 57 = .ok (.invokevirtual 253, 3) := by decide +kernel
theorem dX12_doesNow_60 : decode cX12_doesNow 60 = .ok (.ireturn, 1) := by decide +kernel
theorem dX12_doesNow_61 : decode cX12_doesNow 61 = .ok (.aload_n 0, 1) := by decide +kernel
theorem dX12_doesNow_62 : decode cX12_doesNow 62 = .ok (.iload_n 1, 1) := by decide +kernel
theorem dX12_doesNow_63 : decode cX12_doesNow 63 = .ok (.invokevirtual 208, 3) := by decide +kernel
theorem dX12_doesNow_66 : decode cX12_doesNow 66 = .ok (.ireturn, 1) := by decide +kernel
theorem dX12_doesAll_0 : decode cX12_doesAll 0 = .ok (.aload_n 0, 1) := by decide +kernel
theorem dX12_doesAll_1 : decode cX12_doesAll 1 = .ok (.iconst 0, 1) := by decide +kernel
theorem dX12_doesAll_2 : decode cX12_doesAll 2 = .ok (.putfield 397, 3) := by decide +kernel
theorem dX12_doesAll_5 : decode cX12_doesAll 5 = .ok (.aload_n 0, 1) := by decide +kernel
theorem dX12_doesAll_6 : decode cX12_doesAll 6 = .ok (.iconst 0, 1) := by decide +kernel
theorem dX12_doesAll_7 : decode cX12_doesAll 7 = .ok (.putfield 162, 3) := by decide +kernel
theorem dX12_doesAll_10 : decode cX12_doesAll 10 = .ok (.iconst 1, 1) := by decide +kernel
theorem dX12_doesAll_11 : decode cX12_doesAll 11 = .ok (.istore_n 1, 1) := by decide +kernel
theorem dX12_doesAll_12 : decode cX12_doesAll 12 = .ok (.iload_n 1, 1) := by decide +kernel
theorem dX12_doesAll_13 : decode cX12_doesAll 13 = .ok (.ifCond .eq 42, 3) := by decide +kernel
theorem dX12_doesAll_16 : decode cX12_doesAll 16 = .ok (.aload_n 0, 1) := by decide +kernel
theorem dX12_doesAll_17 : decode cX12_doesAll 17 = .ok (.invokevirtual 394, 3) := by decide +kernel
theorem dX12_doesAll_20 : decode cX12_doesAll 20 = .ok (.pop, 1) := by decide +kernel
theorem dX12_doesAll_21 : decode cX12_doesAll 21 = .ok (.aload_n 0, 1) := by decide +kernel
theorem dX12_doesAll_22 : decode cX12_doesAll 22 = .ok (.invokevirtual 400, 3) := by decide +kernel
theorem dX12_doesAll_25 : decode cX12_doesAll 25 = .ok (.ifCond .eq 5, 3) := by decide +kernel
theorem dX12_doesAll_28 : decode cX12_doesAll 28 = .ok (.iconst 0, 1) := by decide +kernel
theorem dX12_doesAll_29 : decode cX12_doesAll 29 = .ok (.ireturn, 1) := by decide +kernel
theorem dX12_doesAll_30 : decode cX12_doesAll 30 = .ok (.aload_n 0, 1) := by decide +kernel
theorem dX12_doesAll_31 : decode cX12_doesAll 31 = .ok (.invokevirtual 403, 3) := by decide +kernel
theorem dX12_doesAll_34 : decode cX12_doesAll 34 = .ok (.pop, 1) := by decide +kernel
theorem dX12_doesAll_35 : decode cX12_doesAll 35 = .ok (.aload_n 0, 1) := by decide +kernel
theorem dX12_doesAll_36 : decode cX12_doesAll 36 = .ok (.dup, 1) := by decide +kernel
theorem dX12_doesAll_37 : decode cX12_doesAll 37 = .ok (.getfield 397, 3) := by decide +kernel
theorem dX12_doesAll_40 : decode cX12_doesAll 40 = .ok (.iconst 1, 1) := by decide +kernel
theorem dX12_doesAll_41 : decode cX12_doesAll 41 = .ok (.iadd, 1) := by decide +kernel
theorem dX12_doesAll_42 : decode cX12_doesAll 42 = .ok (.putfield 397, 3) := by decide +kernel
theorem dX12_doesAll_45 : decode cX12_doesAll 45 = .ok (.aload_n 0, 1) := by decide +kernel
theorem dX12_doesAll_46 : decode cX12_doesAll 46 = .ok (.bipush 59, 2) := by decide +kernel
theorem dX12_doesAll_48 : decode cX12_doesAll 48 = .ok (.invokevirtual 183, 3) := by decide +kernel
theorem dX12_doesAll_51 : decode cX12_doesAll 51 = .ok (.istore_n 1, 1) := by decide +kernel
theorem dX12_doesAll_52 : decode cX12_doesAll 52 = .ok (.goto (-40), 3) := by decide +kernel
theorem dX12_doesAll_55 : decode cX12_doesAll 55 = .ok (.iconst 1, 1) := by decide +kernel
theorem dX12_doesAll_56 : decode cX12_doesAll 56 = .ok (.ireturn, 1) := by decide +kernel
theorem dX12_run_0 : decode cX12_run 0 = .ok (.aload_n 0, 1) := by decide +kernel
theorem dX12_run_1 : decode cX12_run 1 = .ok (.iconst 0, 1) := by decide +kernel
theorem dX12_run_2 : decode cX12_run 2 = .ok (.putfield 117, 3) := by decide +kernel
theorem dX12_run_5 : decode cX12_run 5 = .ok (.aload_n 0, 1) := by decide +kernel
theorem dX12_run_6 : decode cX12_run 6 = .ok (.invokevirtual 406, 3) := by decide +kernel
theorem dX12_run_9 : decode cX12_run 9 = .ok (.ifCond .ne 22, 3) := by decide +kernel
theorem dX12_run_12 : decode cX12_run 12 = .ok (.aload_n 0, 1) := by decide +kernel
theorem dX12_run_13 : decode cX12_run 13 = .ok (.aload_n 0, 1) := by decide +kernel
theorem dX12_run_14 : decode cX12_run 14 = .ok (.getfield 162, 3) := by decide +kernel
theorem dX12_run_17 : decode cX12_run 17 = .ok (.putfield 29, 3) := by decide +kernel
theorem dX12_run_20 : decode cX12_run 20 = .ok (.aload_n 0, 1) := by decide +kernel
theorem dX12_run_21 : decode cX12_run 21 = .ok (.iconst 0, 1) := by decide +kernel
theorem dX12_run_22 : decode cX12_run 22 = .ok (.putfield 165, 3) := by decide +kernel
theorem dX12_run_25 : decode cX12_run 25 = .ok (.aload_n 0, 1) := by decide +kernel
theorem dX12_run_26 : decode cX12_run 26 = .ok (.iconst 1, 1) := by decide +kernel
theorem dX12_run_27 : decode cX12_run 27 = .ok (.invokevirtual 196, 3) := by decide +kernel
theorem dX12_run_30 : decode cX12_run 30 = .ok (.ireturn, 1) := by decide +kernel
theorem dX12_run_31 : decode cX12_run 31 = .ok (.aload_n 0, 1) := by decide +kernel
theorem dX12_run_32 : decode cX12_run 32 = .ok (.invokevirtual 126, 3) := by decide +kernel
theorem dX12_run_35 : decode cX12_run 35 = .ok (.aload_n 0, 1) := by decide +kernel
theorem dX12_run_36 : decode cX12_run 36 = .ok (.invokevirtual 409, 3) := by decide +kernel
theorem dX12_run_39 : decode cX12_run 39 = .ok (.istore_n 1, 1) := by decide +kernel
theorem dX12_run_40 : decode cX12_run 40 = .ok (.aload_n 0, 1) := by decide +kernel
theorem dX12_run_41 : decode cX12_run 41 = .ok (.iconst 0, 1) := by decide +kernel
theorem dX12_run_42 : decode cX12_run 42 = .ok (.putfield 165, 3) := by decide +kernel
theorem dX12_run_45 : decode cX12_run 45 = .ok (.iload_n 1, 1) := by decide +kernel
theorem dX12_run_46 : decode cX12_run 46 = .ok (.ifCond .eq 12, 3) := by decide +kernel
theorem dX12_run_49 : decode cX12_run 49 = .ok (.aload_n 0, 1) := by decide +kernel
theorem dX12_run_50 : decode cX12_run 50 = .ok (.invokevirtual 129, 3) := by decide +kernel
theorem dX12_run_53 : decode cX12_run 53 = .ok (.aload_n 0, 1) := by decide +kernel
theorem dX12_run_54 : decode cX12_run 54 = .ok (.getfield 397, 3) := by decide +kernel
theorem dX12_run_57 : decode cX12_run 57 = .ok (.ireturn, 1) := by decide +kernel
theorem dX12_run_58 : decode cX12_run 58 = .ok (.aload_n 0, 1) := by decide +kernel
theorem dX12_run_59 : decode cX12_run 59 = .ok (.invokevirtual 412, 3) := by decide +kernel
theorem dX12_run_62 : decode cX12_run 62 = .ok (.aload_n 0, 1) := by decide +kernel
theorem dX12_run_63 : decode cX12_run 63 = .ok (.aload_n 0, 1) := by decide +kernel
theorem dX12_run_64 : decode cX12_run 64 = .ok (.getfield 397, 3) := by decide +kernel
theorem dX12_run_67 : decode cX12_run 67 = .ok (.putfield 33, 3) := by decide +kernel
theorem dX12_run_70 : decode cX12_run 70 = .ok (.aload_n 0, 1) := by decide +kernel
theorem dX12_run_71 : decode cX12_run 71 = .ok (.iconst 2, 1) := by decide +kernel
theorem dX12_run_72 : decode cX12_run 72 = .ok (.invokevirtual 196, 3) := by decide +kernel
theorem dX12_run_75 : decode cX12_run 75 = .ok (.ireturn, 1) := by decide +kernel
theorem dX12_errorPosition_0 : decode cX12_errorPosition 0 = .ok (.aload_n 0, 1) := by decide +kernel
theorem dX12_errorPosition_1 : decode cX12_errorPosition 1 = .ok (.iconst 0, 1) := by decide +kernel
theorem dX12_errorPosition_2 : decode cX12_errorPosition 2 = .ok (.putfield 117, 3) := by decide +kernel
theorem dX12_errorPosition_5 : decode cX12_errorPosition 5 = .ok (.aload_n 0, 1) := by decide +kernel
theorem dX12_errorPosition_6 : decode cX12_errorPosition 6 = .ok (.getfield 29, 3) := by decide +kernel
theorem dX12_errorPosition_9 : decode cX12_errorPosition 9 = .ok (.ifCond .ge 11, 3) := by decide +kernel
theorem dX12_errorPosition_12 : decode cX12_errorPosition 12 = .ok (.aload_n 0, 1) := by decide +kernel
theorem dX12_errorPosition_13 : decode cX12_errorPosition 13 = .ok (.iconst 1, 1) := by decide +kernel
theorem dX12_errorPosition_14 : decode cX12_errorPosition 14 = .ok (.invokevirtual 196, 3) := by decide +kernel
theorem dX12_errorPosition_17 : decode cX12_errorPosition 17 = .ok (.goto 7, 3) := by decide +kernel
theorem dX12_errorPosition_20 : decode cX12_errorPosition 20 = .ok (.aload_n 0, 1) := by decide +kernel
theorem dX12_errorPosition_21 : decode cX12_errorPosition 21 = .ok (.getfield 29, 3) := by decide +kernel
theorem dX12_errorPosition_24 : decode cX12_errorPosition 24 = .ok (.ireturn, 1) := by decide +kernel
theorem dX12_failedCommand_0 : decode cX12_failedCommand 0 = .ok (.aload_n 0, 1) := by decide +kernel
theorem dX12_failedCommand_1 : decode cX12_failedCommand 1 = .ok (.iconst 0, 1) := by decide +kernel
theorem dX12_failedCommand_2 : decode cX12_failedCommand 2 = .ok (.putfield 117, 3) := by decide +kernel
theorem dX12_failedCommand_5 : decode cX12_failedCommand 5 = .ok (.aload_n 0, 1) := by decide +kernel
theorem dX12_failedCommand_6 : decode cX12_failedCommand 6 = .ok (.getfield 33, 3) := by decide +kernel
theorem dX12_failedCommand_9 : decode cX12_failedCommand 9 = .ok (.ifCond .ge 11, 3) := by decide +kernel
theorem dX12_failedCommand_12 : decode cX12_failedCommand 12 = .ok (.aload_n 0, 1) := by decide +kernel
theorem dX12_failedCommand_13 : decode cX12_failedCommand 13 = .ok (.iconst 1, 1) := by decide +kernel
theorem dX12_failedCommand_14 : decode cX12_failedCommand 14 = .ok (.invokevirtual 196, 3) := by decide +kernel
theorem dX12_failedCommand_17 : decode cX12_failedCommand 17 = .ok (.goto 7, 3) := by decide +kernel
theorem dX12_failedCommand_20 : decode cX12_failedCommand 20 = .ok (.aload_n 0, 1) := by decide +kernel
theorem dX12_failedCommand_21 : decode cX12_failedCommand 21 = .ok (.getfield 33, 3) := by decide +kernel
theorem dX12_failedCommand_24 : decode cX12_failedCommand 24 = .ok (.ireturn, 1) := by decide +kernel
theorem dX12_undoableCount_0 : decode cX12_undoableCount 0 = .ok (.aload_n 0, 1) := by decide +kernel
theorem dX12_undoableCount_1 : decode cX12_undoableCount 1 = .ok (.iconst 0, 1) := by decide +kernel
theorem dX12_undoableCount_2 : decode cX12_undoableCount 2 = .ok (.putfield 117, 3) := by decide +kernel
theorem dX12_undoableCount_5 : decode cX12_undoableCount 5 = .ok (.aload_n 0, 1) := by decide +kernel
theorem dX12_undoableCount_6 : decode cX12_undoableCount 6 = .ok (.getfield 120, 3) := by decide +kernel
theorem dX12_undoableCount_9 : decode cX12_undoableCount 9 = .ok (.ireturn, 1) := by decide +kernel
theorem dX12_undo_0 : decode cX12_undo 0 = .ok (.aload_n 0, 1) := by decide +kernel
theorem dX12_undo_1 : decode cX12_undo 1 = .ok (.iconst 0, 1) := by decide +kernel
theorem dX12_undo_2 : decode cX12_undo 2 = .ok (.putfield 117, 3) := by decide +kernel
theorem dX12_undo_5 : decode cX12_undo 5 = .ok (.aload_n 0, 1) := by decide +kernel
theorem dX12_undo_6 : decode cX12_undo 6 = .ok (.getfield 120, 3) := by decide +kernel
theorem dX12_undo_9 : decode cX12_undo 9 = .ok (.ifCond .ne 9, 3) := by decide +kernel
theorem dX12_undo_12 : decode cX12_undo 12 = .ok (.aload_n 0, 1) := by decide +kernel
theorem dX12_undo_13 : decode cX12_undo 13 = .ok (.iconst 1, 1) := by decide +kernel
theorem dX12_undo_14 : decode cX12_undo 14 = .ok (.invokevirtual 196, 3) := by decide +kernel
theorem dX12_undo_17 : decode cX12_undo 17 = .ok (.ireturn, 1) := by decide +kernel
theorem dX12_undo_18 : decode cX12_undo 18 = .ok (.aload_n 0, 1) := by decide +kernel
theorem dX12_undo_19 : decode cX12_undo 19 = .ok (.dup, 1) := by decide +kernel
theorem dX12_undo_20 : decode cX12_undo 20 = .ok (.getfield 120, 3) := by decide +kernel
theorem dX12_undo_23 : decode cX12_undo 23 = .ok (.iconst 1, 1) := by decide +kernel
theorem dX12_undo_24 : decode cX12_undo 24 = .ok (.isub, 1) := by decide +kernel
theorem dX12_undo_25 : decode cX12_undo 25 = .ok (.putfield 120, 3) := by decide +kernel
theorem dX12_undo_28 : decode cX12_undo 28 = .ok (.aload_n 0, 1) := by decide +kernel
theorem dX12_undo_29 : decode cX12_undo 29 = .ok (.getfield 123, 3) := by decide +kernel
theorem dX12_undo_32 : decode cX12_undo 32 = .ok (.aload_n 0, 1) := by decide +kernel
theorem dX12_undo_33 : decode cX12_undo 33 = .ok (.getfield 120, 3) := by decide +kernel
theorem dX12_undo_36 : decode cX12_undo 36 = .ok (.iadd, 1) := by decide +kernel
theorem dX12_undo_37 : decode cX12_undo 37 = .ok (.bipush 8, 2) := by decide +kernel
theorem dX12_undo_39 : decode cX12_undo 39 = .ok (.irem, 1) := by decide +kernel
theorem dX12_undo_40 : decode cX12_undo 40 = .ok (.istore_n 1, 1) := by decide +kernel
theorem dX12_undo_41 : decode cX12_undo 41 = .ok (.iconst 0, 1) := by decide +kernel
theorem dX12_undo_42 : decode cX12_undo 42 = .ok (.istore_n 2, 1) := by decide +kernel
theorem dX12_undo_43 : decode cX12_undo 43 = .ok (.iload_n 2, 1) := by decide +kernel
theorem dX12_undo_44 : decode cX12_undo 44 = .ok (.sipush 248, 3) := by decide +kernel
theorem dX12_undo_47 : decode cX12_undo 47 = .ok (.if_icmp .ge 27, 3) := by decide +kernel
theorem dX12_undo_50 : decode cX12_undo 50 = .ok (.aload_n 0, 1) := by decide +kernel
theorem dX12_undo_51 : decode cX12_undo 51 = .ok (.getfield 7, 3) := by decide +kernel
theorem dX12_undo_54 : decode cX12_undo 54 = .ok (.iload_n 2, 1) := by decide +kernel
theorem dX12_undo_55 : decode cX12_undo 55 = .ok (.aload_n 0, 1) := by decide +kernel
theorem dX12_undo_56 : decode cX12_undo 56 = .ok (.getfield 13, 3) := by decide +kernel
theorem dX12_undo_59 : decode cX12_undo 59 = .ok (.sipush 248, 3) := by decide +kernel
theorem dX12_undo_62 : decode cX12_undo 62 = .ok (.iload_n 1, 1) := by decide +kernel
theorem dX12_undo_63 : decode cX12_undo 63 = .ok (.imul, 1) := by decide +kernel
theorem dX12_undo_64 : decode cX12_undo 64 = .ok (.iload_n 2, 1) := by decide +kernel
theorem dX12_undo_65 : decode cX12_undo 65 = .ok (.iadd, 1) := by decide +kernel
theorem dX12_undo_66 : decode cX12_undo 66 = .ok (.iaload, 1) := by decide +kernel
theorem dX12_undo_67 : decode cX12_undo 67 = .ok (.iastore, 1) := by decide +kernel
theorem dX12_undo_68 : decode cX12_undo 68 = .ok (.iinc 2 1, 3) := by decide +kernel
theorem dX12_undo_71 : decode cX12_undo 71 = .ok (.goto (-28), 3) := by decide +kernel
theorem dX12_undo_74 : decode cX12_undo 74 = .ok (.aload_n 0, 1) := by decide +kernel
theorem dX12_undo_75 : decode cX12_undo 75 = .ok (.getfield 120, 3) := by decide +kernel
theorem dX12_undo_78 : decode cX12_undo 78 = .ok (.ireturn, 1) := by decide +kernel
theorem dX12_save_0 : decode cX12_save 0 = .ok (.aload_n 0, 1) := by decide +kernel
theorem dX12_save_1 : decode cX12_save 1 = .ok (.iconst 0, 1) := by decide +kernel
theorem dX12_save_2 : decode cX12_save 2 = .ok (.putfield 117, 3) := by decide +kernel
theorem dX12_save_5 : decode cX12_save 5 = .ok (.iconst 0, 1) := by decide +kernel
theorem dX12_save_6 : decode cX12_save 6 = .ok (.istore_n 1, 1) := by decide +kernel
theorem dX12_save_7 : decode cX12_save 7 = .ok (.iload_n 1, 1) := by decide +kernel
theorem dX12_save_8 : decode cX12_save 8 = .ok (.sipush 248, 3) := by decide +kernel
theorem dX12_save_11 : decode cX12_save 11 = .ok (.if_icmp .ge 21, 3) := by decide +kernel
theorem dX12_save_14 : decode cX12_save 14 = .ok (.aload_n 0, 1) := by decide +kernel
theorem dX12_save_15 : decode cX12_save 15 = .ok (.getfield 16, 3) := by decide +kernel
theorem dX12_save_18 : decode cX12_save 18 = .ok (.iload_n 1, 1) := by decide +kernel
theorem dX12_save_19 : decode cX12_save 19 = .ok (.aload_n 0, 1) := by decide +kernel
theorem dX12_save_20 : decode cX12_save 20 = .ok (.getfield 7, 3) := by decide +kernel
theorem dX12_save_23 : decode cX12_save 23 = .ok (.iload_n 1, 1) := by decide +kernel
theorem dX12_save_24 : decode cX12_save 24 = .ok (.iaload, 1) := by decide +kernel
theorem dX12_save_25 : decode cX12_save 25 = .ok (.iastore, 1) := by decide +kernel
theorem dX12_save_26 : decode cX12_save 26 = .ok (.iinc 1 1, 3) := by decide +kernel
theorem dX12_save_29 : decode cX12_save 29 = .ok (.goto (-22), 3) := by decide +kernel
theorem dX12_save_32 : decode cX12_save 32 = .ok (.aload_n 0, 1) := by decide +kernel
theorem dX12_save_33 : decode cX12_save 33 = .ok (.iconst 1, 1) := by decide +kernel
theorem dX12_save_34 : decode cX12_save 34 = .ok (.putfield 415, 3) := by decide +kernel
theorem dX12_save_37 : decode cX12_save 37 = .ok (.aload_n 0, 1) := by decide +kernel
theorem dX12_save_38 : decode cX12_save 38 = .ok (.invokevirtual 227, 3) := by decide +kernel
theorem dX12_save_41 : decode cX12_save 41 = .ok (.ireturn, 1) := by decide +kernel
theorem dX12_restore_0 : decode cX12_restore 0 = .ok (.aload_n 0, 1) := by decide +kernel
theorem dX12_restore_1 : decode cX12_restore 1 = .ok (.iconst 0, 1) := by decide +kernel
theorem dX12_restore_2 : decode cX12_restore 2 = .ok (.putfield 117, 3) := by decide +kernel
theorem dX12_restore_5 : decode cX12_restore 5 = .ok (.aload_n 0, 1) := by decide +kernel
theorem dX12_restore_6 : decode cX12_restore 6 = .ok (.getfield 415, 3) := by decide +kernel
theorem dX12_restore_9 : decode cX12_restore 9 = .ok (.ifCond .ne 9, 3) := by decide +kernel
theorem dX12_restore_12 : decode cX12_restore 12 = .ok (.aload_n 0, 1) := by decide +kernel
theorem dX12_restore_13 : decode cX12_restore 13 = .ok (.iconst 1, 1) := by decide +kernel
theorem dX12_restore_14 : decode cX12_restore 14 = .ok (.invokevirtual 196, 3) := by decide +kernel
theorem dX12_restore_17 : decode cX12_restore 17 = .ok (.ireturn, 1) := by decide +kernel
theorem dX12_restore_18 : decode cX12_restore 18 = .ok (.iconst 0, 1) := by decide +kernel
theorem dX12_restore_19 : decode cX12_restore 19 = .ok (.istore_n 1, 1) := by decide +kernel
theorem dX12_restore_20 : decode cX12_restore 20 = .ok (.iload_n 1, 1) := by decide +kernel
theorem dX12_restore_21 : decode cX12_restore 21 = .ok (.sipush 248, 3) := by decide +kernel
theorem dX12_restore_24 : decode cX12_restore 24 = .ok (.if_icmp .ge 21, 3) := by decide +kernel
theorem dX12_restore_27 : decode cX12_restore 27 = .ok (.aload_n 0, 1) := by decide +kernel
theorem dX12_restore_28 : decode cX12_restore 28 = .ok (.getfield 7, 3) := by decide +kernel
theorem dX12_restore_31 : decode cX12_restore 31 = .ok (.iload_n 1, 1) := by decide +kernel
theorem dX12_restore_32 : decode cX12_restore 32 = .ok (.aload_n 0, 1) := by decide +kernel
theorem dX12_restore_33 : decode cX12_restore 33 = .ok (.getfield 16, 3) := by decide +kernel
theorem dX12_restore_36 : decode cX12_restore 36 = .ok (.iload_n 1, 1) := by decide +kernel
theorem dX12_restore_37 : decode cX12_restore 37 = .ok (.iaload, 1) := by decide +kernel
theorem dX12_restore_38 : decode cX12_restore 38 = .ok (.iastore, 1) := by decide +kernel
theorem dX12_restore_39 : decode cX12_restore 39 = .ok (.iinc 1 1, 3) := by decide +kernel
theorem dX12_restore_42 : decode cX12_restore 42 = .ok (.goto (-22), 3) := by decide +kernel
theorem dX12_restore_45 : decode cX12_restore 45 = .ok (.aload_n 0, 1) := by decide +kernel
theorem dX12_restore_46 : decode cX12_restore 46 = .ok (.iconst 0, 1) := by decide +kernel
theorem dX12_restore_47 : decode cX12_restore 47 = .ok (.putfield 120, 3) := by decide +kernel
theorem dX12_restore_50 : decode cX12_restore 50 = .ok (.aload_n 0, 1) := by decide +kernel
theorem dX12_restore_51 : decode cX12_restore 51 = .ok (.iconst 0, 1) := by decide +kernel
theorem dX12_restore_52 : decode cX12_restore 52 = .ok (.putfield 123, 3) := by decide +kernel
theorem dX12_restore_55 : decode cX12_restore 55 = .ok (.aload_n 0, 1) := by decide +kernel
theorem dX12_restore_56 : decode cX12_restore 56 = .ok (.invokevirtual 227, 3) := by decide +kernel
theorem dX12_restore_59 : decode cX12_restore 59 = .ok (.ireturn, 1) := by decide +kernel
